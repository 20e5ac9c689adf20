theorem and_15 {x : Int} (h0 : -2147483648 ≤ x) (h1 : x ≤ 2147483647) : (i32 x &&& i32 15).toInt = x % 16 := by
  have e : ((i32 x &&& i32 15).toBitVec).toNat = (i32 x).toBitVec.toNat % 16 := by
    show ((i32 x).toBitVec &&& (i32 15).toBitVec).toNat = _
    rw [BitVec.toNat_and]
    exact Nat.and_two_pow_sub_one_eq_mod (i32 x).toBitVec.toNat 4
  have e2 : ((i32 x).toBitVec.toNat : Int) = x % 4294967296 := by
    have g := i32_to h0 h1
    have g2 : (i32 x).toInt = (i32 x).toBitVec.toInt := rfl
    rw [g2, BitVec.toInt_eq_toNat_cond] at g
    have := (i32 x).toBitVec.isLt
    split at g <;> omega
  have e3 : (i32 x &&& i32 15).toInt = (((i32 x &&& i32 15).toBitVec).toNat : Int) := by
    have g2 : (i32 x &&& i32 15).toInt = (i32 x &&& i32 15).toBitVec.toInt := rfl
    rw [g2, BitVec.toInt_eq_toNat_cond, if_pos (by rw [e]; omega)]
  rw [e3, e]
  omega
theorem shl_4 {f : Int} (h0 : 0 ≤ f) (h1 : f ≤ 15) : (i32 f <<< (i32 4 &&& 31)).toInt = 16 * f := by
  have q : ∀ a : Fin 16, (i32 (a.val : Int) <<< (i32 4 &&& 31)).toInt = 16 * (a.val : Int) := by decide
  have := q ⟨f.toNat, by omega⟩
  simp only at this
  rw [show ((f.toNat : Nat) : Int) = f by omega] at this
  exact this
theorem or_16 {f b : Int} (h0 : 0 ≤ f) (h1 : f ≤ 15) (h2 : 0 ≤ b) (h3 : b ≤ 15) : (i32 (16 * f) ||| i32 b).toInt = 16 * f + b := by
  have q : ∀ a c : Fin 16, (i32 (16 * (a.val : Int)) ||| i32 (c.val : Int)).toInt = 16 * (a.val : Int) + (c.val : Int) := by decide
  have := q ⟨f.toNat, by omega⟩ ⟨b.toNat, by omega⟩
  simp only at this
  rw [show ((f.toNat : Nat) : Int) = f by omega, show ((b.toNat : Nat) : Int) = b by omega] at this
  exact this
theorem or_17 {a f b : Int} (ha : a = 16 * f) (h0 : 0 ≤ f) (h1 : f ≤ 15) (h2 : 0 ≤ b) (h3 : b ≤ 15) : (i32 a ||| i32 b).toInt = a + b := by
  subst ha
  exact or_16 h0 h1 h2 h3
/-- what the prefixes carry; the bytes of a step -/
def uu (v : Int) : Int := if v < 0 then -v - 1 else v
def byt (fn v L j : Int) : Int := if j = L - 1 then 16 * fn + v % 16 else (if v < 0 ∧ j = L - 2 then 96 else 32) + (uu v / p16 (L - 1 - j).toNat) % 16
def BYw (A : Nat → Nat → Int) (b L fn v j0 : Int) : Prop := ∀ j : Int, j0 < j → j < L → A 53 (b + j).toNat = byt fn v L j
/-- the value of a step -/
def vl (A : Nat → Nat → Int) (k : Int) : Int := if 0 < A 46 k.toNat then wy A k else A 45 k.toNat
theorem vl_w {A : Nat → Nat → Int} {k : Int} (h : 0 < A 46 k.toNat) : vl A k = wy A k := if_pos h
theorem vl_v {A : Nat → Nat → Int} {k : Int} (h : A 46 k.toNat ≤ 0) : vl A k = A 45 k.toNat := if_neg (by omega)
theorem BY_0 {A A_q : Nat → Nat → Int} {b l fn v z y : Int} (e : A_q = uA A 53 z.toNat y) (hz : z = b + l) (hb : 0 ≤ b) (hy : y = 16 * fn + v % 16) : BYw A_q b (l + 1) fn v (l - 1) := fun j h1 h2 => by
  have : j = l := by omega
  subst this hz e
  rw [uA_eq, hy]
  exact (if_pos (by omega)).symm
theorem BY_nx {A A_q : Nat → Nat → Int} {b l fn v j j_q z y : Int} (e : A_q = uA A 53 z.toNat y) (hz : z = b + j) (hb : 0 ≤ b) (h0 : 0 ≤ j) (hj' : j_q = j - 1) (hy : y = byt fn v (l + 1) j) (h : BYw A b (l + 1) fn v j) : BYw A_q b (l + 1) fn v j_q := fun i h1 h2 => by
  subst hz e
  by_cases q : i = j
  · subst q
    rw [uA_eq]
    exact hy
  · rw [uA_ni (by omega)]
    exact h i (by omega) h2
def WQ (w v l j : Int) : Prop := w = uu v / p16 (l - j).toNat
theorem WQ_0p {w v l j : Int} (hv : 0 ≤ v) (hw : w = v / 16) (hj : j = l - 1) : WQ w v l j := by
  unfold WQ uu
  rw [if_neg (by omega), show (l - j).toNat = 1 by omega, hw]
  rfl
theorem WQ_0n {w v l j : Int} (hv : v < 0) (hw : w = (-v - 1) / 16) (hj : j = l - 1) : WQ w v l j := by
  unfold WQ uu
  rw [if_pos hv, show (l - j).toNat = 1 by omega, hw]
  rfl
theorem WQ_nx {w w_q v l j j_q : Int} (h : WQ w v l j) (hw : w_q = w / 16) (hj : j < l) (hj' : j_q = j - 1) : WQ w_q v l j_q := by
  unfold WQ at h ⊢
  rw [hw, h, show (l - j_q).toNat = (l - j).toNat + 1 by omega]
  have p : ∀ n, 0 ≤ p16 n := fun n => by
    induction n with
    | zero => decide
    | succ n ih => show 0 ≤ 16 * p16 n; omega
  show _ = _ / (16 * p16 (l - j).toNat)
  rw [Int.mul_comm 16, Int.ediv_ediv, if_neg (fun q => by have := p (l - j).toNat; omega), Int.sub_zero]
theorem byt_p {fn v w l j : Int} (hv : 0 ≤ v) (h : WQ w v l j) (hj : j < l) : byt fn v (l + 1) j = 32 + w % 16 := by
  unfold byt
  unfold WQ at h
  rw [if_neg (by omega), if_neg (by omega), show l + 1 - 1 - j = l - j by omega, ← h]
theorem byt_n {fn v w l j : Int} (hv : v < 0) (h : WQ w v l j) (hj : j < l - 1) : byt fn v (l + 1) j = 32 + w % 16 := by
  unfold byt
  unfold WQ at h
  rw [if_neg (by omega), if_neg (by omega), show l + 1 - 1 - j = l - j by omega, ← h]
theorem byt_m {fn v w l j : Int} (hv : v < 0) (h : WQ w v l j) (hj : j = l - 1) : byt fn v (l + 1) j = 96 + w % 16 := by
  unfold byt
  unfold WQ at h
  rw [if_neg (by omega), if_pos (by omega), show l + 1 - 1 - j = l - j by omega, ← h]
theorem BY_e {A : Nat → Nat → Int} {b L fn v j0 b_q L' fn' v' j1 : Int} (h : BYw A b L fn v j0) (e1 : b = b_q) (e2 : L = L') (e3 : fn = fn') (e4 : v = v') (e5 : j0 ≤ j1) : BYw A b_q L' fn' v' j1 := by
  subst e1 e2 e3 e4
  exact fun j h1 h2 => h j (by omega) h2

set_option maxRecDepth 20000 in
set_option maxHeartbeats 4000000 in
theorem c_write_at_106_0 {X : jX} {d : Nat} {c0 c1 : jC} {G : Nat → Int} {A : Nat → Nat → Int} {T : jH} {p k : Int} {st : Int} (hd : 3 ≤ d + 1) (hW : Wk G A) (e_st : G 70 = st) (h_p : (-2147483648 : Int) ≤ p ∧ p ≤ 2147483647) (h_k : (-2147483648 : Int) ≤ k ∧ k ≤ 2147483647) (p_0 : 0 ≤ st) (p_1 : st ≤ 7000) (p_2 : LN A (st)) (p_3 : AB A (st)) (p_4 : LR A (st) 0 (st)) (p_5 : 0 ≤ k) (p_6 : k < st) (p_7 : 0 ≤ p) (p_8 : p ≤ 5) (p_9 : A 49 (k).toNat + A 48 (k).toNat ≤ 6000) : ∀ (m : Nat) (L : jL) (Gx : Nat → Int) (Ax : Nat → Nat → Int) (v b l1 w j : Int), (j + 1).toNat = m → jGet L 0 = some (.ref 66) → jGet L 1 = some (.int (i32 (p))) → jGet L 2 = some (.int (i32 (k))) → jGet L 6 = some (.int (i32 (0))) → jGet L 3 = some (.int (i32 v)) → jGet L 4 = some (.int (i32 b)) → jGet L 5 = some (.int (i32 l1)) → jGet L 7 = some (.int (i32 w)) → jGet L 8 = some (.int (i32 j)) → Wk Gx Ax → Fr [] [53] G A Gx Ax → Fo [53] (6000 * p + A 49 (k).toNat) (6000 * p + A 49 (k).toNat + A 48 (k).toNat) A Ax → ((-2147483648 : Int) ≤ v ∧ v ≤ 2147483647) → ((-2147483648 : Int) ≤ b ∧ b ≤ 2147483647) → ((-2147483648 : Int) ≤ l1 ∧ l1 ≤ 2147483647) → ((-2147483648 : Int) ≤ w ∧ w ≤ 2147483647) → ((-2147483648 : Int) ≤ j ∧ j ≤ 2147483647) → (v = vl A k) → (b = 6000 * p + A 49 (k).toNat) → (l1 = A 48 (k).toNat - 1) → (-1 ≤ j) → (j ≤ l1 - 1) → (0 ≤ w) → (0 ≤ v) → (WQ (w) (v) (l1) (j)) → (BYw Ax (b) (l1 + 1) (A 44 (k).toNat) (v) (j)) → wj X d jm364 (106, L, [], rV c0 c1 Gx Ax T) (fun o V_q => ∃ (G_q : Nat → Int) (A_q : Nat → Nat → Int), V_q = rV c0 c1 G_q A_q T ∧ o = .inl none ∧ Wk G_q A_q ∧ Fr [] [53] G A G_q A_q ∧ Fo [53] (6000 * p + A 49 (k).toNat) (6000 * p + A 49 (k).toNat + A 48 (k).toNat) A A_q ∧ (BYw A_q (6000 * p + A 49 (k).toNat) (A 48 (k).toNat) (A 44 (k).toNat) (vl A k) (-1)) ∧ True) := by
  have hF0 : Fr [] [53] G A G A := Fr_rf
  have hWc0 : Fo [53] (6000 * p + A 49 (k).toNat) (6000 * p + A 49 (k).toNat + A 48 (k).toNat) A A := Fo_rf
  have b_st : (-2147483648 : Int) ≤ st ∧ st ≤ 2147483647 := e_st ▸ hW.1 70
  have hln := p_2 (k).toNat (by omega); have hab := p_3 (k).toNat (by omega); have hlr := p_4 (k).toNat (by omega) (by omega); have hfn := hlr.1
  intro m
  induction m using Nat.strongRecOn with
  | ind m ih106_0 =>
    intro L Gx Ax v b l1 w j hm gL_0 gL_1 gL_2 gL_6 gL_3 gL_4 gL_5 gL_7 gL_8 hWx hFx hWcx rx_v rx_b rx_l1 rx_w rx_j iv_0 iv_1 iv_2 iv_3 iv_4 iv_5 iv_6 iv_7 iv_8
    refine jx_ld (pc_q := 108) (l_q := L) (st_q := [.int (i32 (j))]) rfl (jl_iload gL_8) ?_
    refine jx_if_lt (pc_q := 111) (tg := 161) rfl rfl rfl (Int.le_trans (by decide : (-2147483648 : Int) ≤ -2147483648) rx_j.1) (Int.le_trans rx_j.2 (by decide : (2147483647 : Int) ≤ 2147483647)) (fun h1 => ?_) (fun h1 => ?_)
    · have _q := h1
      refine jx_rt (v := none) rfl rfl rfl rfl rfl rfl ?_
      exact ⟨_, _, rfl, rfl, hWx, hFx, hWcx, (BY_e iv_8 (by omega) (by omega) rfl (by omega) (by omega)), trivial⟩
    · have _q := h1
      refine jx_ld (pc_q := 112) (l_q := L) (st_q := [.ref 66]) rfl (jl_aloadn gL_0) ?_
      refine jr_get (pc_q := 115) (i := 83) (v := .ref 120) rfl rfl (by decide) rfl rfl ?_
      refine jx_ld (pc_q := 117) (l_q := L) (st_q := [.int (i32 (b)), .ref 120]) rfl (jl_iload gL_4) ?_
      refine jx_ld (pc_q := 119) (l_q := L) (st_q := [.int (i32 (j)), .int (i32 (b)), .ref 120]) rfl (jl_iload gL_8) ?_
      refine jx_add (pc_q := 120) rfl rfl ?_
      refine jx_ld (pc_q := 122) (l_q := L) (st_q := [.int (i32 (0)), .int (i32 ((b + j))), .ref 120]) rfl (jl_iload gL_6) ?_
      refine jx_if_eq (pc_q := 125) (tg := 139) rfl rfl rfl (by decide) (by decide) (fun h2 => ?_) (fun h2 => ?_)
      · have _q := h2
        refine jx_ar (pc_q := 140) (st_q := [.int (i32 (2)), .int (i32 ((b + j))), .ref 120]) rfl rfl rfl rfl ?_
        refine jx_ar (pc_q := 141) (st_q := [.int (i32 (4)), .int (i32 (2)), .int (i32 ((b + j))), .ref 120]) rfl rfl rfl rfl ?_
        have _q : True := trivial
        refine jx_shl (pc_q := 142) rfl rfl ?_
        obtain ⟨b3, eb3⟩ : ∃ z, z = (i32 (2) <<< (i32 (4) &&& 31)).toInt := ⟨_, rfl⟩
        rw [← eb3]
        have rb3 : (-2147483648 : Int) ≤ b3 ∧ b3 ≤ 2147483647 := eb3 ▸ i32_rg _
        have hb3 : b3 = 16 * 2 := (by rw [eb3]; exact shl_4 (by omega) (by omega))
        refine jx_ld (pc_q := 144) (l_q := L) (st_q := [.int (i32 (w)), .int (i32 (b3)), .int (i32 ((b + j))), .ref 120]) rfl (jl_iload gL_7) ?_
        refine jx_ar (pc_q := 146) (st_q := [.int (i32 (15)), .int (i32 (w)), .int (i32 (b3)), .int (i32 ((b + j))), .ref 120]) rfl rfl rfl rfl ?_
        refine jx_and (pc_q := 147) rfl rfl ?_
        obtain ⟨b4, eb4⟩ : ∃ z, z = (i32 (w) &&& i32 (15)).toInt := ⟨_, rfl⟩
        rw [← eb4]
        have rb4 : (-2147483648 : Int) ≤ b4 ∧ b4 ≤ 2147483647 := eb4 ▸ i32_rg _
        have hb4 : b4 = w % 16 := (by rw [eb4]; exact and_15 (by omega) (by omega))
        refine jx_or (pc_q := 148) rfl rfl ?_
        obtain ⟨b5, eb5⟩ : ∃ z, z = (i32 (b3) ||| i32 (b4)).toInt := ⟨_, rfl⟩
        rw [← eb5]
        have rb5 : (-2147483648 : Int) ≤ b5 ∧ b5 ≤ 2147483647 := eb5 ▸ i32_rg _
        have hb5 : b5 = b3 + b4 := (by rw [eb5]; exact or_17 (f := 2) (by omega) (by omega) (by omega) (by omega) (by omega))
        refine jr_st (pc_q := 149) (i := 53) (m := 36000) (z := (b + j)) (y := b5) rfl (by decide) rfl (by decide) (by omega) (by omega) rfl ?_
        have hW7 : Wk Gx (uA Ax 53 ((b + j)).toNat (b5)) := Wk_a hWx (show (-2147483648 : Int) ≤ b5 by omega) (show b5 ≤ (2147483647 : Int) by omega)
        have hF8 := Fr_a (z := b5) (k := 53) (n := ((b + j)).toNat) hFx (by decide)
        obtain ⟨A6, eA6⟩ : ∃ q, q = uA Ax 53 ((b + j)).toNat (b5) := ⟨_, rfl⟩
        rw [← eA6]
        rw [← eA6] at hW7 hF8
        have q9 : A6 53 ((b + j)).toNat = b5 := by rw [eA6]; exact uA_eq
        have hWc10 : Fo [53] (6000 * p + A 49 (k).toNat) (6000 * p + A 49 (k).toNat + A 48 (k).toNat) A A6 := eA6 ▸ Fo_a hWcx (z := (b + j)) (by omega) (by omega) (by omega)
        have hby1 := BY_nx (j_q := j + (-1)) eA6 rfl (by omega) (by omega) (by omega) ((by omega : b5 = 32 + w % 16).trans (byt_p (by omega) iv_7 (by omega)).symm) iv_8
        refine jx_ld (pc_q := 151) (l_q := L) (st_q := [.int (i32 (w))]) rfl (jl_iload gL_7) ?_
        refine jx_ar (pc_q := 152) (st_q := [.int (i32 (4)), .int (i32 (w))]) rfl rfl rfl rfl ?_
        refine jx_shr (pc_q := 153) rfl rfl ?_
        obtain ⟨b11, eb11⟩ : ∃ z, z = (i32 (w) >>> (i32 (4) &&& 31)).toInt := ⟨_, rfl⟩
        rw [← eb11]
        have rb11 : (-2147483648 : Int) ≤ b11 ∧ b11 ≤ 2147483647 := eb11 ▸ i32_rg _
        have hb11 : b11 = w / 16 := (by rw [eb11]; exact shr_4 (by omega) (by omega)); have hwq1 := WQ_nx (j_q := j + (-1)) iv_7 hb11 (by omega) (by omega)
        refine jx_ld (pc_q := 155) (l_q := jSto1 L 7 (.int (i32 (b11)))) (st_q := []) rfl rfl ?_
        obtain ⟨L12, eL12⟩ : ∃ q, q = jSto1 L 7 (.int (i32 (b11))) := ⟨_, rfl⟩
        rw [← eL12]
        have gL12_0 : jGet L12 0 = some (.ref 66) := eL12 ▸ jg_ne (by decide) gL_0 rfl
        have gL12_1 : jGet L12 1 = some (.int (i32 (p))) := eL12 ▸ jg_ne (by decide) gL_1 rfl
        have gL12_2 : jGet L12 2 = some (.int (i32 (k))) := eL12 ▸ jg_ne (by decide) gL_2 rfl
        have gL12_6 : jGet L12 6 = some (.int (i32 (0))) := eL12 ▸ jg_ne (by decide) gL_6 rfl
        have gL12_3 : jGet L12 3 = some (.int (i32 (v))) := eL12 ▸ jg_ne (by decide) gL_3 rfl
        have gL12_4 : jGet L12 4 = some (.int (i32 (b))) := eL12 ▸ jg_ne (by decide) gL_4 rfl
        have gL12_5 : jGet L12 5 = some (.int (i32 (l1))) := eL12 ▸ jg_ne (by decide) gL_5 rfl
        have gL12_8 : jGet L12 8 = some (.int (i32 (j))) := eL12 ▸ jg_ne (by decide) gL_8 rfl
        have gL12_7 : jGet L12 7 = some (.int (i32 (b11))) := eL12 ▸ jg_eq
        refine jx_inc (pc_q := 158) (l_q := jSto1 L12 8 (.int (i32 ((j + (-1)))))) (x := j) rfl gL12_8 (by decide) rfl rfl ?_
        obtain ⟨L13, eL13⟩ : ∃ q, q = jSto1 L12 8 (.int (i32 ((j + (-1))))) := ⟨_, rfl⟩
        rw [← eL13]
        have gL13_0 : jGet L13 0 = some (.ref 66) := eL13 ▸ jg_ne (by decide) gL12_0 rfl
        have gL13_1 : jGet L13 1 = some (.int (i32 (p))) := eL13 ▸ jg_ne (by decide) gL12_1 rfl
        have gL13_2 : jGet L13 2 = some (.int (i32 (k))) := eL13 ▸ jg_ne (by decide) gL12_2 rfl
        have gL13_6 : jGet L13 6 = some (.int (i32 (0))) := eL13 ▸ jg_ne (by decide) gL12_6 rfl
        have gL13_3 : jGet L13 3 = some (.int (i32 (v))) := eL13 ▸ jg_ne (by decide) gL12_3 rfl
        have gL13_4 : jGet L13 4 = some (.int (i32 (b))) := eL13 ▸ jg_ne (by decide) gL12_4 rfl
        have gL13_5 : jGet L13 5 = some (.int (i32 (l1))) := eL13 ▸ jg_ne (by decide) gL12_5 rfl
        have gL13_7 : jGet L13 7 = some (.int (i32 (b11))) := eL13 ▸ jg_ne (by decide) gL12_7 rfl
        have gL13_8 : jGet L13 8 = some (.int (i32 ((j + (-1))))) := eL13 ▸ jg_eq
        refine jx_go (tg := 106) rfl rfl ?_
        exact ih106_0 _ (by omega) L13 Gx A6 (v) (b) (l1) (b11) ((j + (-1))) rfl gL13_0 gL13_1 gL13_2 gL13_6 gL13_3 gL13_4 gL13_5 gL13_7 gL13_8 hW7 hF8 hWc10 (by omega) (by omega) (by omega) (by omega) (by omega) (by omega) (by omega) (by omega) (by omega) (by omega) (by omega) (by omega) (hwq1) (hby1)
      · have _q := h2
        exact absurd h2 (by omega)
set_option maxRecDepth 20000 in
set_option maxHeartbeats 4000000 in
theorem c_write_at_106_1 {X : jX} {d : Nat} {c0 c1 : jC} {G : Nat → Int} {A : Nat → Nat → Int} {T : jH} {p k : Int} {st : Int} (hd : 3 ≤ d + 1) (hW : Wk G A) (e_st : G 70 = st) (h_p : (-2147483648 : Int) ≤ p ∧ p ≤ 2147483647) (h_k : (-2147483648 : Int) ≤ k ∧ k ≤ 2147483647) (p_0 : 0 ≤ st) (p_1 : st ≤ 7000) (p_2 : LN A (st)) (p_3 : AB A (st)) (p_4 : LR A (st) 0 (st)) (p_5 : 0 ≤ k) (p_6 : k < st) (p_7 : 0 ≤ p) (p_8 : p ≤ 5) (p_9 : A 49 (k).toNat + A 48 (k).toNat ≤ 6000) : ∀ (m : Nat) (L : jL) (Gx : Nat → Int) (Ax : Nat → Nat → Int) (v b l1 w j : Int), (j + 1).toNat = m → jGet L 0 = some (.ref 66) → jGet L 1 = some (.int (i32 (p))) → jGet L 2 = some (.int (i32 (k))) → jGet L 6 = some (.int (i32 (1))) → jGet L 3 = some (.int (i32 v)) → jGet L 4 = some (.int (i32 b)) → jGet L 5 = some (.int (i32 l1)) → jGet L 7 = some (.int (i32 w)) → jGet L 8 = some (.int (i32 j)) → Wk Gx Ax → Fr [] [53] G A Gx Ax → Fo [53] (6000 * p + A 49 (k).toNat) (6000 * p + A 49 (k).toNat + A 48 (k).toNat) A Ax → ((-2147483648 : Int) ≤ v ∧ v ≤ 2147483647) → ((-2147483648 : Int) ≤ b ∧ b ≤ 2147483647) → ((-2147483648 : Int) ≤ l1 ∧ l1 ≤ 2147483647) → ((-2147483648 : Int) ≤ w ∧ w ≤ 2147483647) → ((-2147483648 : Int) ≤ j ∧ j ≤ 2147483647) → (v = vl A k) → (b = 6000 * p + A 49 (k).toNat) → (l1 = A 48 (k).toNat - 1) → (-1 ≤ j) → (j ≤ l1 - 1) → (0 ≤ w) → (v < 0) → (WQ (w) (v) (l1) (j)) → (BYw Ax (b) (l1 + 1) (A 44 (k).toNat) (v) (j)) → wj X d jm364 (106, L, [], rV c0 c1 Gx Ax T) (fun o V_q => ∃ (G_q : Nat → Int) (A_q : Nat → Nat → Int), V_q = rV c0 c1 G_q A_q T ∧ o = .inl none ∧ Wk G_q A_q ∧ Fr [] [53] G A G_q A_q ∧ Fo [53] (6000 * p + A 49 (k).toNat) (6000 * p + A 49 (k).toNat + A 48 (k).toNat) A A_q ∧ (BYw A_q (6000 * p + A 49 (k).toNat) (A 48 (k).toNat) (A 44 (k).toNat) (vl A k) (-1)) ∧ True) := by
  have hF0 : Fr [] [53] G A G A := Fr_rf
  have hWc0 : Fo [53] (6000 * p + A 49 (k).toNat) (6000 * p + A 49 (k).toNat + A 48 (k).toNat) A A := Fo_rf
  have b_st : (-2147483648 : Int) ≤ st ∧ st ≤ 2147483647 := e_st ▸ hW.1 70
  have hln := p_2 (k).toNat (by omega); have hab := p_3 (k).toNat (by omega); have hlr := p_4 (k).toNat (by omega) (by omega); have hfn := hlr.1
  intro m
  induction m using Nat.strongRecOn with
  | ind m ih106_1 =>
    intro L Gx Ax v b l1 w j hm gL_0 gL_1 gL_2 gL_6 gL_3 gL_4 gL_5 gL_7 gL_8 hWx hFx hWcx rx_v rx_b rx_l1 rx_w rx_j iv_0 iv_1 iv_2 iv_3 iv_4 iv_5 iv_6 iv_7 iv_8
    refine jx_ld (pc_q := 108) (l_q := L) (st_q := [.int (i32 (j))]) rfl (jl_iload gL_8) ?_
    refine jx_if_lt (pc_q := 111) (tg := 161) rfl rfl rfl (Int.le_trans (by decide : (-2147483648 : Int) ≤ -2147483648) rx_j.1) (Int.le_trans rx_j.2 (by decide : (2147483647 : Int) ≤ 2147483647)) (fun h14 => ?_) (fun h14 => ?_)
    · have _q := h14
      refine jx_rt (v := none) rfl rfl rfl rfl rfl rfl ?_
      exact ⟨_, _, rfl, rfl, hWx, hFx, hWcx, (BY_e iv_8 (by omega) (by omega) rfl (by omega) (by omega)), trivial⟩
    · have _q := h14
      refine jx_ld (pc_q := 112) (l_q := L) (st_q := [.ref 66]) rfl (jl_aloadn gL_0) ?_
      refine jr_get (pc_q := 115) (i := 83) (v := .ref 120) rfl rfl (by decide) rfl rfl ?_
      refine jx_ld (pc_q := 117) (l_q := L) (st_q := [.int (i32 (b)), .ref 120]) rfl (jl_iload gL_4) ?_
      refine jx_ld (pc_q := 119) (l_q := L) (st_q := [.int (i32 (j)), .int (i32 (b)), .ref 120]) rfl (jl_iload gL_8) ?_
      refine jx_add (pc_q := 120) rfl rfl ?_
      refine jx_ld (pc_q := 122) (l_q := L) (st_q := [.int (i32 (1)), .int (i32 ((b + j))), .ref 120]) rfl (jl_iload gL_6) ?_
      refine jx_if_eq (pc_q := 125) (tg := 139) rfl rfl rfl (by decide) (by decide) (fun h15 => ?_) (fun h15 => ?_)
      · have _q := h15
        exact absurd h15 (by omega)
      · have _q := h15
        refine jx_ld (pc_q := 127) (l_q := L) (st_q := [.int (i32 (j)), .int (i32 ((b + j))), .ref 120]) rfl (jl_iload gL_8) ?_
        refine jx_ld (pc_q := 129) (l_q := L) (st_q := [.int (i32 (l1)), .int (i32 (j)), .int (i32 ((b + j))), .ref 120]) rfl (jl_iload gL_5) ?_
        refine jx_ar (pc_q := 130) (st_q := [.int (i32 (1)), .int (i32 (l1)), .int (i32 (j)), .int (i32 ((b + j))), .ref 120]) rfl rfl rfl rfl ?_
        refine jx_sub (pc_q := 131) rfl rfl ?_
        refine jx_icmp_ne (pc_q := 134) (tg := 139) rfl rfl rfl (Int.le_trans (by decide : (-2147483648 : Int) ≤ -2147483648) rx_j.1) (Int.le_trans rx_j.2 (by decide : (2147483647 : Int) ≤ 2147483647)) (by omega) (by omega) (fun h16 => ?_) (fun h16 => ?_)
        · have _q := h16
          refine jx_ar (pc_q := 140) (st_q := [.int (i32 (2)), .int (i32 ((b + j))), .ref 120]) rfl rfl rfl rfl ?_
          refine jx_ar (pc_q := 141) (st_q := [.int (i32 (4)), .int (i32 (2)), .int (i32 ((b + j))), .ref 120]) rfl rfl rfl rfl ?_
          have _q : True := trivial
          refine jx_shl (pc_q := 142) rfl rfl ?_
          obtain ⟨b17, eb17⟩ : ∃ z, z = (i32 (2) <<< (i32 (4) &&& 31)).toInt := ⟨_, rfl⟩
          rw [← eb17]
          have rb17 : (-2147483648 : Int) ≤ b17 ∧ b17 ≤ 2147483647 := eb17 ▸ i32_rg _
          have hb17 : b17 = 16 * 2 := (by rw [eb17]; exact shl_4 (by omega) (by omega))
          refine jx_ld (pc_q := 144) (l_q := L) (st_q := [.int (i32 (w)), .int (i32 (b17)), .int (i32 ((b + j))), .ref 120]) rfl (jl_iload gL_7) ?_
          refine jx_ar (pc_q := 146) (st_q := [.int (i32 (15)), .int (i32 (w)), .int (i32 (b17)), .int (i32 ((b + j))), .ref 120]) rfl rfl rfl rfl ?_
          refine jx_and (pc_q := 147) rfl rfl ?_
          obtain ⟨b18, eb18⟩ : ∃ z, z = (i32 (w) &&& i32 (15)).toInt := ⟨_, rfl⟩
          rw [← eb18]
          have rb18 : (-2147483648 : Int) ≤ b18 ∧ b18 ≤ 2147483647 := eb18 ▸ i32_rg _
          have hb18 : b18 = w % 16 := (by rw [eb18]; exact and_15 (by omega) (by omega))
          refine jx_or (pc_q := 148) rfl rfl ?_
          obtain ⟨b19, eb19⟩ : ∃ z, z = (i32 (b17) ||| i32 (b18)).toInt := ⟨_, rfl⟩
          rw [← eb19]
          have rb19 : (-2147483648 : Int) ≤ b19 ∧ b19 ≤ 2147483647 := eb19 ▸ i32_rg _
          have hb19 : b19 = b17 + b18 := (by rw [eb19]; exact or_17 (f := 2) (by omega) (by omega) (by omega) (by omega) (by omega))
          refine jr_st (pc_q := 149) (i := 53) (m := 36000) (z := (b + j)) (y := b19) rfl (by decide) rfl (by decide) (by omega) (by omega) rfl ?_
          have hW21 : Wk Gx (uA Ax 53 ((b + j)).toNat (b19)) := Wk_a hWx (show (-2147483648 : Int) ≤ b19 by omega) (show b19 ≤ (2147483647 : Int) by omega)
          have hF22 := Fr_a (z := b19) (k := 53) (n := ((b + j)).toNat) hFx (by decide)
          obtain ⟨A20, eA20⟩ : ∃ q, q = uA Ax 53 ((b + j)).toNat (b19) := ⟨_, rfl⟩
          rw [← eA20]
          rw [← eA20] at hW21 hF22
          have q23 : A20 53 ((b + j)).toNat = b19 := by rw [eA20]; exact uA_eq
          have hWc24 : Fo [53] (6000 * p + A 49 (k).toNat) (6000 * p + A 49 (k).toNat + A 48 (k).toNat) A A20 := eA20 ▸ Fo_a hWcx (z := (b + j)) (by omega) (by omega) (by omega)
          have hby1 := BY_nx (j_q := j + (-1)) eA20 rfl (by omega) (by omega) (by omega) ((by omega : b19 = 32 + w % 16).trans (byt_n (by omega) iv_7 (by omega)).symm) iv_8
          refine jx_ld (pc_q := 151) (l_q := L) (st_q := [.int (i32 (w))]) rfl (jl_iload gL_7) ?_
          refine jx_ar (pc_q := 152) (st_q := [.int (i32 (4)), .int (i32 (w))]) rfl rfl rfl rfl ?_
          refine jx_shr (pc_q := 153) rfl rfl ?_
          obtain ⟨b25, eb25⟩ : ∃ z, z = (i32 (w) >>> (i32 (4) &&& 31)).toInt := ⟨_, rfl⟩
          rw [← eb25]
          have rb25 : (-2147483648 : Int) ≤ b25 ∧ b25 ≤ 2147483647 := eb25 ▸ i32_rg _
          have hb25 : b25 = w / 16 := (by rw [eb25]; exact shr_4 (by omega) (by omega)); have hwq1 := WQ_nx (j_q := j + (-1)) iv_7 hb25 (by omega) (by omega)
          refine jx_ld (pc_q := 155) (l_q := jSto1 L 7 (.int (i32 (b25)))) (st_q := []) rfl rfl ?_
          obtain ⟨L26, eL26⟩ : ∃ q, q = jSto1 L 7 (.int (i32 (b25))) := ⟨_, rfl⟩
          rw [← eL26]
          have gL26_0 : jGet L26 0 = some (.ref 66) := eL26 ▸ jg_ne (by decide) gL_0 rfl
          have gL26_1 : jGet L26 1 = some (.int (i32 (p))) := eL26 ▸ jg_ne (by decide) gL_1 rfl
          have gL26_2 : jGet L26 2 = some (.int (i32 (k))) := eL26 ▸ jg_ne (by decide) gL_2 rfl
          have gL26_6 : jGet L26 6 = some (.int (i32 (1))) := eL26 ▸ jg_ne (by decide) gL_6 rfl
          have gL26_3 : jGet L26 3 = some (.int (i32 (v))) := eL26 ▸ jg_ne (by decide) gL_3 rfl
          have gL26_4 : jGet L26 4 = some (.int (i32 (b))) := eL26 ▸ jg_ne (by decide) gL_4 rfl
          have gL26_5 : jGet L26 5 = some (.int (i32 (l1))) := eL26 ▸ jg_ne (by decide) gL_5 rfl
          have gL26_8 : jGet L26 8 = some (.int (i32 (j))) := eL26 ▸ jg_ne (by decide) gL_8 rfl
          have gL26_7 : jGet L26 7 = some (.int (i32 (b25))) := eL26 ▸ jg_eq
          refine jx_inc (pc_q := 158) (l_q := jSto1 L26 8 (.int (i32 ((j + (-1)))))) (x := j) rfl gL26_8 (by decide) rfl rfl ?_
          obtain ⟨L27, eL27⟩ : ∃ q, q = jSto1 L26 8 (.int (i32 ((j + (-1))))) := ⟨_, rfl⟩
          rw [← eL27]
          have gL27_0 : jGet L27 0 = some (.ref 66) := eL27 ▸ jg_ne (by decide) gL26_0 rfl
          have gL27_1 : jGet L27 1 = some (.int (i32 (p))) := eL27 ▸ jg_ne (by decide) gL26_1 rfl
          have gL27_2 : jGet L27 2 = some (.int (i32 (k))) := eL27 ▸ jg_ne (by decide) gL26_2 rfl
          have gL27_6 : jGet L27 6 = some (.int (i32 (1))) := eL27 ▸ jg_ne (by decide) gL26_6 rfl
          have gL27_3 : jGet L27 3 = some (.int (i32 (v))) := eL27 ▸ jg_ne (by decide) gL26_3 rfl
          have gL27_4 : jGet L27 4 = some (.int (i32 (b))) := eL27 ▸ jg_ne (by decide) gL26_4 rfl
          have gL27_5 : jGet L27 5 = some (.int (i32 (l1))) := eL27 ▸ jg_ne (by decide) gL26_5 rfl
          have gL27_7 : jGet L27 7 = some (.int (i32 (b25))) := eL27 ▸ jg_ne (by decide) gL26_7 rfl
          have gL27_8 : jGet L27 8 = some (.int (i32 ((j + (-1))))) := eL27 ▸ jg_eq
          refine jx_go (tg := 106) rfl rfl ?_
          exact ih106_1 _ (by omega) L27 Gx A20 (v) (b) (l1) (b25) ((j + (-1))) rfl gL27_0 gL27_1 gL27_2 gL27_6 gL27_3 gL27_4 gL27_5 gL27_7 gL27_8 hW21 hF22 hWc24 (by omega) (by omega) (by omega) (by omega) (by omega) (by omega) (by omega) (by omega) (by omega) (by omega) (by omega) (by omega) (hwq1) (hby1)
        · have _q := h16
          refine jx_ar (pc_q := 136) (st_q := [.int (i32 (6)), .int (i32 ((b + j))), .ref 120]) rfl rfl rfl rfl ?_
          refine jx_go (tg := 140) rfl rfl ?_
          refine jx_ar (pc_q := 141) (st_q := [.int (i32 (4)), .int (i32 (6)), .int (i32 ((b + j))), .ref 120]) rfl rfl rfl rfl ?_
          have _q : True := trivial
          refine jx_shl (pc_q := 142) rfl rfl ?_
          obtain ⟨b28, eb28⟩ : ∃ z, z = (i32 (6) <<< (i32 (4) &&& 31)).toInt := ⟨_, rfl⟩
          rw [← eb28]
          have rb28 : (-2147483648 : Int) ≤ b28 ∧ b28 ≤ 2147483647 := eb28 ▸ i32_rg _
          have hb28 : b28 = 16 * 6 := (by rw [eb28]; exact shl_4 (by omega) (by omega))
          refine jx_ld (pc_q := 144) (l_q := L) (st_q := [.int (i32 (w)), .int (i32 (b28)), .int (i32 ((b + j))), .ref 120]) rfl (jl_iload gL_7) ?_
          refine jx_ar (pc_q := 146) (st_q := [.int (i32 (15)), .int (i32 (w)), .int (i32 (b28)), .int (i32 ((b + j))), .ref 120]) rfl rfl rfl rfl ?_
          refine jx_and (pc_q := 147) rfl rfl ?_
          obtain ⟨b29, eb29⟩ : ∃ z, z = (i32 (w) &&& i32 (15)).toInt := ⟨_, rfl⟩
          rw [← eb29]
          have rb29 : (-2147483648 : Int) ≤ b29 ∧ b29 ≤ 2147483647 := eb29 ▸ i32_rg _
          have hb29 : b29 = w % 16 := (by rw [eb29]; exact and_15 (by omega) (by omega))
          refine jx_or (pc_q := 148) rfl rfl ?_
          obtain ⟨b30, eb30⟩ : ∃ z, z = (i32 (b28) ||| i32 (b29)).toInt := ⟨_, rfl⟩
          rw [← eb30]
          have rb30 : (-2147483648 : Int) ≤ b30 ∧ b30 ≤ 2147483647 := eb30 ▸ i32_rg _
          have hb30 : b30 = b28 + b29 := (by rw [eb30]; exact or_17 (f := 6) (by omega) (by omega) (by omega) (by omega) (by omega))
          refine jr_st (pc_q := 149) (i := 53) (m := 36000) (z := (b + j)) (y := b30) rfl (by decide) rfl (by decide) (by omega) (by omega) rfl ?_
          have hW32 : Wk Gx (uA Ax 53 ((b + j)).toNat (b30)) := Wk_a hWx (show (-2147483648 : Int) ≤ b30 by omega) (show b30 ≤ (2147483647 : Int) by omega)
          have hF33 := Fr_a (z := b30) (k := 53) (n := ((b + j)).toNat) hFx (by decide)
          obtain ⟨A31, eA31⟩ : ∃ q, q = uA Ax 53 ((b + j)).toNat (b30) := ⟨_, rfl⟩
          rw [← eA31]
          rw [← eA31] at hW32 hF33
          have q34 : A31 53 ((b + j)).toNat = b30 := by rw [eA31]; exact uA_eq
          have hWc35 : Fo [53] (6000 * p + A 49 (k).toNat) (6000 * p + A 49 (k).toNat + A 48 (k).toNat) A A31 := eA31 ▸ Fo_a hWcx (z := (b + j)) (by omega) (by omega) (by omega)
          have hby1 := BY_nx (j_q := j + (-1)) eA31 rfl (by omega) (by omega) (by omega) ((by omega : b30 = 96 + w % 16).trans (byt_m (by omega) iv_7 (by omega)).symm) iv_8
          refine jx_ld (pc_q := 151) (l_q := L) (st_q := [.int (i32 (w))]) rfl (jl_iload gL_7) ?_
          refine jx_ar (pc_q := 152) (st_q := [.int (i32 (4)), .int (i32 (w))]) rfl rfl rfl rfl ?_
          refine jx_shr (pc_q := 153) rfl rfl ?_
          obtain ⟨b36, eb36⟩ : ∃ z, z = (i32 (w) >>> (i32 (4) &&& 31)).toInt := ⟨_, rfl⟩
          rw [← eb36]
          have rb36 : (-2147483648 : Int) ≤ b36 ∧ b36 ≤ 2147483647 := eb36 ▸ i32_rg _
          have hb36 : b36 = w / 16 := (by rw [eb36]; exact shr_4 (by omega) (by omega)); have hwq1 := WQ_nx (j_q := j + (-1)) iv_7 hb36 (by omega) (by omega)
          refine jx_ld (pc_q := 155) (l_q := jSto1 L 7 (.int (i32 (b36)))) (st_q := []) rfl rfl ?_
          obtain ⟨L37, eL37⟩ : ∃ q, q = jSto1 L 7 (.int (i32 (b36))) := ⟨_, rfl⟩
          rw [← eL37]
          have gL37_0 : jGet L37 0 = some (.ref 66) := eL37 ▸ jg_ne (by decide) gL_0 rfl
          have gL37_1 : jGet L37 1 = some (.int (i32 (p))) := eL37 ▸ jg_ne (by decide) gL_1 rfl
          have gL37_2 : jGet L37 2 = some (.int (i32 (k))) := eL37 ▸ jg_ne (by decide) gL_2 rfl
          have gL37_6 : jGet L37 6 = some (.int (i32 (1))) := eL37 ▸ jg_ne (by decide) gL_6 rfl
          have gL37_3 : jGet L37 3 = some (.int (i32 (v))) := eL37 ▸ jg_ne (by decide) gL_3 rfl
          have gL37_4 : jGet L37 4 = some (.int (i32 (b))) := eL37 ▸ jg_ne (by decide) gL_4 rfl
          have gL37_5 : jGet L37 5 = some (.int (i32 (l1))) := eL37 ▸ jg_ne (by decide) gL_5 rfl
          have gL37_8 : jGet L37 8 = some (.int (i32 (j))) := eL37 ▸ jg_ne (by decide) gL_8 rfl
          have gL37_7 : jGet L37 7 = some (.int (i32 (b36))) := eL37 ▸ jg_eq
          refine jx_inc (pc_q := 158) (l_q := jSto1 L37 8 (.int (i32 ((j + (-1)))))) (x := j) rfl gL37_8 (by decide) rfl rfl ?_
          obtain ⟨L38, eL38⟩ : ∃ q, q = jSto1 L37 8 (.int (i32 ((j + (-1))))) := ⟨_, rfl⟩
          rw [← eL38]
          have gL38_0 : jGet L38 0 = some (.ref 66) := eL38 ▸ jg_ne (by decide) gL37_0 rfl
          have gL38_1 : jGet L38 1 = some (.int (i32 (p))) := eL38 ▸ jg_ne (by decide) gL37_1 rfl
          have gL38_2 : jGet L38 2 = some (.int (i32 (k))) := eL38 ▸ jg_ne (by decide) gL37_2 rfl
          have gL38_6 : jGet L38 6 = some (.int (i32 (1))) := eL38 ▸ jg_ne (by decide) gL37_6 rfl
          have gL38_3 : jGet L38 3 = some (.int (i32 (v))) := eL38 ▸ jg_ne (by decide) gL37_3 rfl
          have gL38_4 : jGet L38 4 = some (.int (i32 (b))) := eL38 ▸ jg_ne (by decide) gL37_4 rfl
          have gL38_5 : jGet L38 5 = some (.int (i32 (l1))) := eL38 ▸ jg_ne (by decide) gL37_5 rfl
          have gL38_7 : jGet L38 7 = some (.int (i32 (b36))) := eL38 ▸ jg_ne (by decide) gL37_7 rfl
          have gL38_8 : jGet L38 8 = some (.int (i32 ((j + (-1))))) := eL38 ▸ jg_eq
          refine jx_go (tg := 106) rfl rfl ?_
          exact ih106_1 _ (by omega) L38 Gx A31 (v) (b) (l1) (b36) ((j + (-1))) rfl gL38_0 gL38_1 gL38_2 gL38_6 gL38_3 gL38_4 gL38_5 gL38_7 gL38_8 hW32 hF33 hWc35 (by omega) (by omega) (by omega) (by omega) (by omega) (by omega) (by omega) (by omega) (by omega) (by omega) (by omega) (by omega) (hwq1) (hby1)
set_option maxRecDepth 20000 in
set_option maxHeartbeats 4000000 in
theorem c_write {X : jX} {dd : Nat} {c0 c1 : jC} {G : Nat → Int} {A : Nat → Nat → Int} {T : jH} {p k : Int} {st : Int} (hd : 3 ≤ dd) (hW : Wk G A) (e_st : G 70 = st) (h_p : (-2147483648 : Int) ≤ p ∧ p ≤ 2147483647) (h_k : (-2147483648 : Int) ≤ k ∧ k ≤ 2147483647) (p_0 : 0 ≤ st) (p_1 : st ≤ 7000) (p_2 : LN A (st)) (p_3 : AB A (st)) (p_4 : LR A (st) 0 (st)) (p_5 : 0 ≤ k) (p_6 : k < st) (p_7 : 0 ≤ p) (p_8 : p ≤ 5) (p_9 : A 49 (k).toNat + A 48 (k).toNat ≤ 6000) : wk X dd 364 [.ref 66, .int (i32 p), .int (i32 k)] (rV c0 c1 G A T) (fun o V_q => ∃ (G_q : Nat → Int) (A_q : Nat → Nat → Int), V_q = rV c0 c1 G_q A_q T ∧ o = .inl none ∧ Wk G_q A_q ∧ Fr [] [53] G A G_q A_q ∧ Fo [53] (6000 * p + A 49 (k).toNat) (6000 * p + A 49 (k).toNat + A 48 (k).toNat) A A_q ∧ (BYw A_q (6000 * p + A 49 (k).toNat) (A 48 (k).toNat) (A 44 (k).toNat) (vl A k) (-1)) ∧ True) := by
  obtain ⟨d, rfl⟩ : ∃ d, dd = d + 1 := ⟨dd - 1, by omega⟩
  refine wk_of (e := jm364) rfl (Nat.le_of_ble_eq_true rfl) ?_
  show wj X d jm364 (0, [(0, .ref 66), (1, .int (i32 (p))), (2, .int (i32 (k)))], [], rV c0 c1 G A T) _
  have hF0 : Fr [] [53] G A G A := Fr_rf
  have hWc0 : Fo [53] (6000 * p + A 49 (k).toNat) (6000 * p + A 49 (k).toNat + A 48 (k).toNat) A A := Fo_rf
  have b_st : (-2147483648 : Int) ≤ st ∧ st ≤ 2147483647 := e_st ▸ hW.1 70
  have hln := p_2 (k).toNat (by omega); have hab := p_3 (k).toNat (by omega); have hlr := p_4 (k).toNat (by omega) (by omega); have hfn := hlr.1
  refine jx_ld (pc_q := 1) (l_q := [(0, .ref 66), (1, .int (i32 (p))), (2, .int (i32 (k)))]) (st_q := [.ref 66]) rfl (jl_aloadn rfl) ?_
  refine jr_get (pc_q := 4) (i := 73) (v := .ref 113) rfl rfl (by decide) rfl rfl ?_
  refine jx_ld (pc_q := 5) (l_q := [(0, .ref 66), (1, .int (i32 (p))), (2, .int (i32 (k)))]) (st_q := [.int (i32 (k)), .ref 113]) rfl (jl_iloadn rfl) ?_
  have b39 : (-2147483648 : Int) ≤ A 46 (k).toNat ∧ A 46 (k).toNat ≤ 2147483647 := hW.2 46 _
  refine jr_ldv (pc_q := 6) (i := 46) (m := 7000) (z := k) (y := A 46 (k).toNat) rfl (by decide) rfl (by decide) (by omega) (by omega) rfl (show A 46 (k).toNat = A 46 (k).toNat from rfl) ?_
  refine jx_if_le (pc_q := 9) (tg := 17) rfl rfl rfl (Int.le_trans (by decide : (-2147483648 : Int) ≤ -2147483648) b39.1) (Int.le_trans b39.2 (by decide : (2147483647 : Int) ≤ 2147483647)) (fun h40 => ?_) (fun h40 => ?_)
  · have _q := h40
    refine jx_ld (pc_q := 18) (l_q := [(0, .ref 66), (1, .int (i32 (p))), (2, .int (i32 (k)))]) (st_q := [.ref 66]) rfl (jl_aloadn rfl) ?_
    refine jr_get (pc_q := 21) (i := 72) (v := .ref 112) rfl rfl (by decide) rfl rfl ?_
    refine jx_ld (pc_q := 22) (l_q := [(0, .ref 66), (1, .int (i32 (p))), (2, .int (i32 (k)))]) (st_q := [.int (i32 (k)), .ref 112]) rfl (jl_iloadn rfl) ?_
    have b41 : (-2147483648 : Int) ≤ A 45 (k).toNat ∧ A 45 (k).toNat ≤ 2147483647 := hW.2 45 _
    refine jr_ldv (pc_q := 23) (i := 45) (m := 7000) (z := k) (y := A 45 (k).toNat) rfl (by decide) rfl (by decide) (by omega) (by omega) rfl (show A 45 (k).toNat = A 45 (k).toNat from rfl) ?_
    have hvl : vl A k = A 45 (k).toNat := vl_v (by omega)
    refine jx_ld (pc_q := 24) (l_q := jSto1 [(0, .ref 66), (1, .int (i32 (p))), (2, .int (i32 (k)))] 3 (.int (i32 (A 45 (k).toNat)))) (st_q := []) rfl rfl ?_
    obtain ⟨L42, eL42⟩ : ∃ q, q = jSto1 [(0, .ref 66), (1, .int (i32 (p))), (2, .int (i32 (k)))] 3 (.int (i32 (A 45 (k).toNat))) := ⟨_, rfl⟩
    rw [← eL42]
    have gL42_0 : jGet L42 0 = some (.ref 66) := eL42 ▸ jg_ne (by decide) (rfl : jGet [(0, .ref 66), (1, .int (i32 (p))), (2, .int (i32 (k)))] 0 = some (.ref 66)) rfl
    have gL42_1 : jGet L42 1 = some (.int (i32 (p))) := eL42 ▸ jg_ne (by decide) (rfl : jGet [(0, .ref 66), (1, .int (i32 (p))), (2, .int (i32 (k)))] 1 = some (.int (i32 (p)))) rfl
    have gL42_2 : jGet L42 2 = some (.int (i32 (k))) := eL42 ▸ jg_ne (by decide) (rfl : jGet [(0, .ref 66), (1, .int (i32 (p))), (2, .int (i32 (k)))] 2 = some (.int (i32 (k)))) rfl
    have gL42_3 : jGet L42 3 = some (.int (i32 (A 45 (k).toNat))) := eL42 ▸ jg_eq
    refine jx_ar (pc_q := 27) (st_q := [.int (i32 (6000))]) rfl rfl rfl rfl ?_
    refine jx_ld (pc_q := 28) (l_q := L42) (st_q := [.int (i32 (p)), .int (i32 (6000))]) rfl (jl_iloadn gL42_1) ?_
    refine jx_mul (pc_q := 29) rfl rfl ?_
    refine jx_ld (pc_q := 30) (l_q := L42) (st_q := [.ref 66, .int (i32 ((6000 * p)))]) rfl (jl_aloadn gL42_0) ?_
    refine jr_get (pc_q := 33) (i := 76) (v := .ref 116) rfl rfl (by decide) rfl rfl ?_
    refine jx_ld (pc_q := 34) (l_q := L42) (st_q := [.int (i32 (k)), .ref 116, .int (i32 ((6000 * p)))]) rfl (jl_iloadn gL42_2) ?_
    have b43 : (-2147483648 : Int) ≤ A 49 (k).toNat ∧ A 49 (k).toNat ≤ 2147483647 := hW.2 49 _
    refine jr_ldv (pc_q := 35) (i := 49) (m := 7001) (z := k) (y := A 49 (k).toNat) rfl (by decide) rfl (by decide) (by omega) (by omega) rfl (show A 49 (k).toNat = A 49 (k).toNat from rfl) ?_
    refine jx_add (pc_q := 36) rfl rfl ?_
    refine jx_ld (pc_q := 38) (l_q := jSto1 L42 4 (.int (i32 (((6000 * p) + A 49 (k).toNat))))) (st_q := []) rfl rfl ?_
    obtain ⟨L44, eL44⟩ : ∃ q, q = jSto1 L42 4 (.int (i32 (((6000 * p) + A 49 (k).toNat)))) := ⟨_, rfl⟩
    rw [← eL44]
    have gL44_0 : jGet L44 0 = some (.ref 66) := eL44 ▸ jg_ne (by decide) gL42_0 rfl
    have gL44_1 : jGet L44 1 = some (.int (i32 (p))) := eL44 ▸ jg_ne (by decide) gL42_1 rfl
    have gL44_2 : jGet L44 2 = some (.int (i32 (k))) := eL44 ▸ jg_ne (by decide) gL42_2 rfl
    have gL44_3 : jGet L44 3 = some (.int (i32 (A 45 (k).toNat))) := eL44 ▸ jg_ne (by decide) gL42_3 rfl
    have gL44_4 : jGet L44 4 = some (.int (i32 (((6000 * p) + A 49 (k).toNat)))) := eL44 ▸ jg_eq
    refine jx_ld (pc_q := 39) (l_q := L44) (st_q := [.ref 66]) rfl (jl_aloadn gL44_0) ?_
    refine jr_get (pc_q := 42) (i := 75) (v := .ref 115) rfl rfl (by decide) rfl rfl ?_
    refine jx_ld (pc_q := 43) (l_q := L44) (st_q := [.int (i32 (k)), .ref 115]) rfl (jl_iloadn gL44_2) ?_
    have b45 : (-2147483648 : Int) ≤ A 48 (k).toNat ∧ A 48 (k).toNat ≤ 2147483647 := hW.2 48 _
    refine jr_ldv (pc_q := 44) (i := 48) (m := 7000) (z := k) (y := A 48 (k).toNat) rfl (by decide) rfl (by decide) (by omega) (by omega) rfl (show A 48 (k).toNat = A 48 (k).toNat from rfl) ?_
    refine jx_ar (pc_q := 45) (st_q := [.int (i32 (1)), .int (i32 (A 48 (k).toNat))]) rfl rfl rfl rfl ?_
    refine jx_sub (pc_q := 46) rfl rfl ?_
    refine jx_ld (pc_q := 48) (l_q := jSto1 L44 5 (.int (i32 ((A 48 (k).toNat - 1))))) (st_q := []) rfl rfl ?_
    obtain ⟨L46, eL46⟩ : ∃ q, q = jSto1 L44 5 (.int (i32 ((A 48 (k).toNat - 1)))) := ⟨_, rfl⟩
    rw [← eL46]
    have gL46_0 : jGet L46 0 = some (.ref 66) := eL46 ▸ jg_ne (by decide) gL44_0 rfl
    have gL46_1 : jGet L46 1 = some (.int (i32 (p))) := eL46 ▸ jg_ne (by decide) gL44_1 rfl
    have gL46_2 : jGet L46 2 = some (.int (i32 (k))) := eL46 ▸ jg_ne (by decide) gL44_2 rfl
    have gL46_3 : jGet L46 3 = some (.int (i32 (A 45 (k).toNat))) := eL46 ▸ jg_ne (by decide) gL44_3 rfl
    have gL46_4 : jGet L46 4 = some (.int (i32 (((6000 * p) + A 49 (k).toNat)))) := eL46 ▸ jg_ne (by decide) gL44_4 rfl
    have gL46_5 : jGet L46 5 = some (.int (i32 ((A 48 (k).toNat - 1)))) := eL46 ▸ jg_eq
    refine jx_ld (pc_q := 49) (l_q := L46) (st_q := [.ref 66]) rfl (jl_aloadn gL46_0) ?_
    refine jr_get (pc_q := 52) (i := 83) (v := .ref 120) rfl rfl (by decide) rfl rfl ?_
    refine jx_ld (pc_q := 54) (l_q := L46) (st_q := [.int (i32 (((6000 * p) + A 49 (k).toNat))), .ref 120]) rfl (jl_iload gL46_4) ?_
    refine jx_ld (pc_q := 56) (l_q := L46) (st_q := [.int (i32 ((A 48 (k).toNat - 1))), .int (i32 (((6000 * p) + A 49 (k).toNat))), .ref 120]) rfl (jl_iload gL46_5) ?_
    refine jx_add (pc_q := 57) rfl rfl ?_
    refine jx_ld (pc_q := 58) (l_q := L46) (st_q := [.ref 66, .int (i32 ((((6000 * p) + A 49 (k).toNat) + (A 48 (k).toNat - 1)))), .ref 120]) rfl (jl_aloadn gL46_0) ?_
    refine jr_get (pc_q := 61) (i := 71) (v := .ref 111) rfl rfl (by decide) rfl rfl ?_
    refine jx_ld (pc_q := 62) (l_q := L46) (st_q := [.int (i32 (k)), .ref 111, .int (i32 ((((6000 * p) + A 49 (k).toNat) + (A 48 (k).toNat - 1)))), .ref 120]) rfl (jl_iloadn gL46_2) ?_
    have b47 : (-2147483648 : Int) ≤ A 44 (k).toNat ∧ A 44 (k).toNat ≤ 2147483647 := hW.2 44 _
    refine jr_ldv (pc_q := 63) (i := 44) (m := 7000) (z := k) (y := A 44 (k).toNat) rfl (by decide) rfl (by decide) (by omega) (by omega) rfl (show A 44 (k).toNat = A 44 (k).toNat from rfl) ?_
    refine jx_ar (pc_q := 64) (st_q := [.int (i32 (4)), .int (i32 (A 44 (k).toNat)), .int (i32 ((((6000 * p) + A 49 (k).toNat) + (A 48 (k).toNat - 1)))), .ref 120]) rfl rfl rfl rfl ?_
    refine jx_shl (pc_q := 65) rfl rfl ?_
    obtain ⟨b48, eb48⟩ : ∃ z, z = (i32 (A 44 (k).toNat) <<< (i32 (4) &&& 31)).toInt := ⟨_, rfl⟩
    rw [← eb48]
    have rb48 : (-2147483648 : Int) ≤ b48 ∧ b48 ≤ 2147483647 := eb48 ▸ i32_rg _
    have hb48 : b48 = 16 * A 44 (k).toNat := (by rw [eb48]; exact shl_4 (by omega) (by omega))
    refine jx_ld (pc_q := 66) (l_q := L46) (st_q := [.int (i32 (A 45 (k).toNat)), .int (i32 (b48)), .int (i32 ((((6000 * p) + A 49 (k).toNat) + (A 48 (k).toNat - 1)))), .ref 120]) rfl (jl_iloadn gL46_3) ?_
    refine jx_ar (pc_q := 68) (st_q := [.int (i32 (15)), .int (i32 (A 45 (k).toNat)), .int (i32 (b48)), .int (i32 ((((6000 * p) + A 49 (k).toNat) + (A 48 (k).toNat - 1)))), .ref 120]) rfl rfl rfl rfl ?_
    refine jx_and (pc_q := 69) rfl rfl ?_
    obtain ⟨b49, eb49⟩ : ∃ z, z = (i32 (A 45 (k).toNat) &&& i32 (15)).toInt := ⟨_, rfl⟩
    rw [← eb49]
    have rb49 : (-2147483648 : Int) ≤ b49 ∧ b49 ≤ 2147483647 := eb49 ▸ i32_rg _
    have hb49 : b49 = A 45 (k).toNat % 16 := (by rw [eb49]; exact and_15 (by omega) (by omega))
    refine jx_or (pc_q := 70) rfl rfl ?_
    obtain ⟨b50, eb50⟩ : ∃ z, z = (i32 (b48) ||| i32 (b49)).toInt := ⟨_, rfl⟩
    rw [← eb50]
    have rb50 : (-2147483648 : Int) ≤ b50 ∧ b50 ≤ 2147483647 := eb50 ▸ i32_rg _
    have hb50 : b50 = b48 + b49 := (by rw [eb50]; exact or_17 (f := A 44 (k).toNat) (by omega) (by omega) (by omega) (by omega) (by omega))
    refine jr_st (pc_q := 71) (i := 53) (m := 36000) (z := (((6000 * p) + A 49 (k).toNat) + (A 48 (k).toNat - 1))) (y := b50) rfl (by decide) rfl (by decide) (by omega) (by omega) rfl ?_
    have hW52 : Wk G (uA A 53 ((((6000 * p) + A 49 (k).toNat) + (A 48 (k).toNat - 1))).toNat (b50)) := Wk_a hW (show (-2147483648 : Int) ≤ b50 by omega) (show b50 ≤ (2147483647 : Int) by omega)
    have hF53 := Fr_a (z := b50) (k := 53) (n := ((((6000 * p) + A 49 (k).toNat) + (A 48 (k).toNat - 1))).toNat) hF0 (by decide)
    obtain ⟨A51, eA51⟩ : ∃ q, q = uA A 53 ((((6000 * p) + A 49 (k).toNat) + (A 48 (k).toNat - 1))).toNat (b50) := ⟨_, rfl⟩
    rw [← eA51]
    rw [← eA51] at hW52 hF53
    have q54 : A51 53 ((((6000 * p) + A 49 (k).toNat) + (A 48 (k).toNat - 1))).toNat = b50 := by rw [eA51]; exact uA_eq
    have hWc55 : Fo [53] (6000 * p + A 49 (k).toNat) (6000 * p + A 49 (k).toNat + A 48 (k).toNat) A A51 := eA51 ▸ Fo_a hWc0 (z := (((6000 * p) + A 49 (k).toNat) + (A 48 (k).toNat - 1))) (by omega) (by omega) (by omega)
    have hby0 := BY_0 (l := (A 48 (k).toNat - 1)) (fn := A 44 (k).toNat) (v := A 45 (k).toNat) eA51 rfl (by omega) (by omega)
    refine jx_ld (pc_q := 72) (l_q := L46) (st_q := [.int (i32 (A 45 (k).toNat))]) rfl (jl_iloadn gL46_3) ?_
    refine jx_if_ge (pc_q := 75) (tg := 79) rfl rfl rfl (Int.le_trans (by decide : (-2147483648 : Int) ≤ -2147483648) b41.1) (Int.le_trans b41.2 (by decide : (2147483647 : Int) ≤ 2147483647)) (fun h56 => ?_) (fun h56 => ?_)
    · have _q := h56
      refine jx_ar (pc_q := 80) (st_q := [.int (i32 (0))]) rfl rfl rfl rfl ?_
      refine jx_ld (pc_q := 82) (l_q := jSto1 L46 6 (.int (i32 (0)))) (st_q := []) rfl rfl ?_
      obtain ⟨L57, eL57⟩ : ∃ q, q = jSto1 L46 6 (.int (i32 (0))) := ⟨_, rfl⟩
      rw [← eL57]
      have gL57_0 : jGet L57 0 = some (.ref 66) := eL57 ▸ jg_ne (by decide) gL46_0 rfl
      have gL57_1 : jGet L57 1 = some (.int (i32 (p))) := eL57 ▸ jg_ne (by decide) gL46_1 rfl
      have gL57_2 : jGet L57 2 = some (.int (i32 (k))) := eL57 ▸ jg_ne (by decide) gL46_2 rfl
      have gL57_3 : jGet L57 3 = some (.int (i32 (A 45 (k).toNat))) := eL57 ▸ jg_ne (by decide) gL46_3 rfl
      have gL57_4 : jGet L57 4 = some (.int (i32 (((6000 * p) + A 49 (k).toNat)))) := eL57 ▸ jg_ne (by decide) gL46_4 rfl
      have gL57_5 : jGet L57 5 = some (.int (i32 ((A 48 (k).toNat - 1)))) := eL57 ▸ jg_ne (by decide) gL46_5 rfl
      have gL57_6 : jGet L57 6 = some (.int (i32 (0))) := eL57 ▸ jg_eq
      refine jx_ld (pc_q := 84) (l_q := L57) (st_q := [.int (i32 (0))]) rfl (jl_iload gL57_6) ?_
      refine jx_if_eq (pc_q := 87) (tg := 95) rfl rfl rfl (by decide) (by decide) (fun h58 => ?_) (fun h58 => ?_)
      · have _q := h58
        refine jx_ld (pc_q := 96) (l_q := L57) (st_q := [.int (i32 (A 45 (k).toNat))]) rfl (jl_iloadn gL57_3) ?_
        refine jx_ar (pc_q := 97) (st_q := [.int (i32 (4)), .int (i32 (A 45 (k).toNat))]) rfl rfl rfl rfl ?_
        refine jx_shr (pc_q := 98) rfl rfl ?_
        obtain ⟨b59, eb59⟩ : ∃ z, z = (i32 (A 45 (k).toNat) >>> (i32 (4) &&& 31)).toInt := ⟨_, rfl⟩
        rw [← eb59]
        have rb59 : (-2147483648 : Int) ≤ b59 ∧ b59 ≤ 2147483647 := eb59 ▸ i32_rg _
        have hb59 : b59 = A 45 (k).toNat / 16 := (by rw [eb59]; exact shr_4 (by omega) (by omega))
        refine jx_ld (pc_q := 100) (l_q := jSto1 L57 7 (.int (i32 (b59)))) (st_q := []) rfl rfl ?_
        obtain ⟨L60, eL60⟩ : ∃ q, q = jSto1 L57 7 (.int (i32 (b59))) := ⟨_, rfl⟩
        rw [← eL60]
        have gL60_0 : jGet L60 0 = some (.ref 66) := eL60 ▸ jg_ne (by decide) gL57_0 rfl
        have gL60_1 : jGet L60 1 = some (.int (i32 (p))) := eL60 ▸ jg_ne (by decide) gL57_1 rfl
        have gL60_2 : jGet L60 2 = some (.int (i32 (k))) := eL60 ▸ jg_ne (by decide) gL57_2 rfl
        have gL60_3 : jGet L60 3 = some (.int (i32 (A 45 (k).toNat))) := eL60 ▸ jg_ne (by decide) gL57_3 rfl
        have gL60_4 : jGet L60 4 = some (.int (i32 (((6000 * p) + A 49 (k).toNat)))) := eL60 ▸ jg_ne (by decide) gL57_4 rfl
        have gL60_5 : jGet L60 5 = some (.int (i32 ((A 48 (k).toNat - 1)))) := eL60 ▸ jg_ne (by decide) gL57_5 rfl
        have gL60_6 : jGet L60 6 = some (.int (i32 (0))) := eL60 ▸ jg_ne (by decide) gL57_6 rfl
        have gL60_7 : jGet L60 7 = some (.int (i32 (b59))) := eL60 ▸ jg_eq
        refine jx_ld (pc_q := 102) (l_q := L60) (st_q := [.int (i32 ((A 48 (k).toNat - 1)))]) rfl (jl_iload gL60_5) ?_
        refine jx_ar (pc_q := 103) (st_q := [.int (i32 (1)), .int (i32 ((A 48 (k).toNat - 1)))]) rfl rfl rfl rfl ?_
        refine jx_sub (pc_q := 104) rfl rfl ?_
        have _q : True := trivial
        refine jx_ld (pc_q := 106) (l_q := jSto1 L60 8 (.int (i32 (((A 48 (k).toNat - 1) - 1))))) (st_q := []) rfl rfl ?_
        obtain ⟨L61, eL61⟩ : ∃ q, q = jSto1 L60 8 (.int (i32 (((A 48 (k).toNat - 1) - 1)))) := ⟨_, rfl⟩
        rw [← eL61]
        have gL61_0 : jGet L61 0 = some (.ref 66) := eL61 ▸ jg_ne (by decide) gL60_0 rfl
        have gL61_1 : jGet L61 1 = some (.int (i32 (p))) := eL61 ▸ jg_ne (by decide) gL60_1 rfl
        have gL61_2 : jGet L61 2 = some (.int (i32 (k))) := eL61 ▸ jg_ne (by decide) gL60_2 rfl
        have gL61_3 : jGet L61 3 = some (.int (i32 (A 45 (k).toNat))) := eL61 ▸ jg_ne (by decide) gL60_3 rfl
        have gL61_4 : jGet L61 4 = some (.int (i32 (((6000 * p) + A 49 (k).toNat)))) := eL61 ▸ jg_ne (by decide) gL60_4 rfl
        have gL61_5 : jGet L61 5 = some (.int (i32 ((A 48 (k).toNat - 1)))) := eL61 ▸ jg_ne (by decide) gL60_5 rfl
        have gL61_6 : jGet L61 6 = some (.int (i32 (0))) := eL61 ▸ jg_ne (by decide) gL60_6 rfl
        have gL61_7 : jGet L61 7 = some (.int (i32 (b59))) := eL61 ▸ jg_ne (by decide) gL60_7 rfl
        have gL61_8 : jGet L61 8 = some (.int (i32 (((A 48 (k).toNat - 1) - 1)))) := eL61 ▸ jg_eq
        exact c_write_at_106_0 (X := X) (d := d) (c0 := c0) (c1 := c1) (G := G) (A := A) (T := T) (p := p) (k := k) (st := st) (hd := hd) (hW := hW) (e_st := e_st) (h_p := h_p) (h_k := h_k) (p_0 := p_0) (p_1 := p_1) (p_2 := p_2) (p_3 := p_3) (p_4 := p_4) (p_5 := p_5) (p_6 := p_6) (p_7 := p_7) (p_8 := p_8) (p_9 := p_9) _ L61 G A51 (A 45 (k).toNat) (((6000 * p) + A 49 (k).toNat)) ((A 48 (k).toNat - 1)) (b59) (((A 48 (k).toNat - 1) - 1)) rfl gL61_0 gL61_1 gL61_2 gL61_6 gL61_3 gL61_4 gL61_5 gL61_7 gL61_8 hW52 hF53 hWc55 (by omega) (by omega) (by omega) (by omega) (by omega) (by omega) (by omega) (by omega) (by omega) (by omega) (by omega) (by omega) ((WQ_0p (by omega) (by omega) (by omega))) (hby0)
      · have _q := h58
        exact absurd h58 (by omega)
    · have _q := h56
      refine jx_ar (pc_q := 76) (st_q := [.int (i32 (1))]) rfl rfl rfl rfl ?_
      refine jx_go (tg := 80) rfl rfl ?_
      refine jx_ld (pc_q := 82) (l_q := jSto1 L46 6 (.int (i32 (1)))) (st_q := []) rfl rfl ?_
      obtain ⟨L62, eL62⟩ : ∃ q, q = jSto1 L46 6 (.int (i32 (1))) := ⟨_, rfl⟩
      rw [← eL62]
      have gL62_0 : jGet L62 0 = some (.ref 66) := eL62 ▸ jg_ne (by decide) gL46_0 rfl
      have gL62_1 : jGet L62 1 = some (.int (i32 (p))) := eL62 ▸ jg_ne (by decide) gL46_1 rfl
      have gL62_2 : jGet L62 2 = some (.int (i32 (k))) := eL62 ▸ jg_ne (by decide) gL46_2 rfl
      have gL62_3 : jGet L62 3 = some (.int (i32 (A 45 (k).toNat))) := eL62 ▸ jg_ne (by decide) gL46_3 rfl
      have gL62_4 : jGet L62 4 = some (.int (i32 (((6000 * p) + A 49 (k).toNat)))) := eL62 ▸ jg_ne (by decide) gL46_4 rfl
      have gL62_5 : jGet L62 5 = some (.int (i32 ((A 48 (k).toNat - 1)))) := eL62 ▸ jg_ne (by decide) gL46_5 rfl
      have gL62_6 : jGet L62 6 = some (.int (i32 (1))) := eL62 ▸ jg_eq
      refine jx_ld (pc_q := 84) (l_q := L62) (st_q := [.int (i32 (1))]) rfl (jl_iload gL62_6) ?_
      refine jx_if_eq (pc_q := 87) (tg := 95) rfl rfl rfl (by decide) (by decide) (fun h63 => ?_) (fun h63 => ?_)
      · have _q := h63
        exact absurd h63 (by omega)
      · have _q := h63
        refine jx_ld (pc_q := 88) (l_q := L62) (st_q := [.int (i32 (A 45 (k).toNat))]) rfl (jl_iloadn gL62_3) ?_
        refine jx_ar (pc_q := 89) (st_q := [.int (i32 (-1)), .int (i32 (A 45 (k).toNat))]) rfl rfl rfl rfl ?_
        refine jx_xor (pc_q := 90) rfl rfl ?_
        obtain ⟨b64, eb64⟩ : ∃ z, z = (i32 (A 45 (k).toNat) ^^^ i32 (-1)).toInt := ⟨_, rfl⟩
        rw [← eb64]
        have rb64 : (-2147483648 : Int) ≤ b64 ∧ b64 ≤ 2147483647 := eb64 ▸ i32_rg _
        have hb64 : b64 = -A 45 (k).toNat - 1 := (by rw [eb64]; exact not_1 (by omega) (by omega))
        refine jx_ar (pc_q := 91) (st_q := [.int (i32 (4)), .int (i32 (b64))]) rfl rfl rfl rfl ?_
        refine jx_shr (pc_q := 92) rfl rfl ?_
        obtain ⟨b65, eb65⟩ : ∃ z, z = (i32 (b64) >>> (i32 (4) &&& 31)).toInt := ⟨_, rfl⟩
        rw [← eb65]
        have rb65 : (-2147483648 : Int) ≤ b65 ∧ b65 ≤ 2147483647 := eb65 ▸ i32_rg _
        refine jx_go (tg := 98) rfl rfl ?_
        have hb65 : b65 = b64 / 16 := (by rw [eb65]; exact shr_4 (by omega) (by omega))
        refine jx_ld (pc_q := 100) (l_q := jSto1 L62 7 (.int (i32 (b65)))) (st_q := []) rfl rfl ?_
        obtain ⟨L66, eL66⟩ : ∃ q, q = jSto1 L62 7 (.int (i32 (b65))) := ⟨_, rfl⟩
        rw [← eL66]
        have gL66_0 : jGet L66 0 = some (.ref 66) := eL66 ▸ jg_ne (by decide) gL62_0 rfl
        have gL66_1 : jGet L66 1 = some (.int (i32 (p))) := eL66 ▸ jg_ne (by decide) gL62_1 rfl
        have gL66_2 : jGet L66 2 = some (.int (i32 (k))) := eL66 ▸ jg_ne (by decide) gL62_2 rfl
        have gL66_3 : jGet L66 3 = some (.int (i32 (A 45 (k).toNat))) := eL66 ▸ jg_ne (by decide) gL62_3 rfl
        have gL66_4 : jGet L66 4 = some (.int (i32 (((6000 * p) + A 49 (k).toNat)))) := eL66 ▸ jg_ne (by decide) gL62_4 rfl
        have gL66_5 : jGet L66 5 = some (.int (i32 ((A 48 (k).toNat - 1)))) := eL66 ▸ jg_ne (by decide) gL62_5 rfl
        have gL66_6 : jGet L66 6 = some (.int (i32 (1))) := eL66 ▸ jg_ne (by decide) gL62_6 rfl
        have gL66_7 : jGet L66 7 = some (.int (i32 (b65))) := eL66 ▸ jg_eq
        refine jx_ld (pc_q := 102) (l_q := L66) (st_q := [.int (i32 ((A 48 (k).toNat - 1)))]) rfl (jl_iload gL66_5) ?_
        refine jx_ar (pc_q := 103) (st_q := [.int (i32 (1)), .int (i32 ((A 48 (k).toNat - 1)))]) rfl rfl rfl rfl ?_
        refine jx_sub (pc_q := 104) rfl rfl ?_
        have _q : True := trivial
        refine jx_ld (pc_q := 106) (l_q := jSto1 L66 8 (.int (i32 (((A 48 (k).toNat - 1) - 1))))) (st_q := []) rfl rfl ?_
        obtain ⟨L67, eL67⟩ : ∃ q, q = jSto1 L66 8 (.int (i32 (((A 48 (k).toNat - 1) - 1)))) := ⟨_, rfl⟩
        rw [← eL67]
        have gL67_0 : jGet L67 0 = some (.ref 66) := eL67 ▸ jg_ne (by decide) gL66_0 rfl
        have gL67_1 : jGet L67 1 = some (.int (i32 (p))) := eL67 ▸ jg_ne (by decide) gL66_1 rfl
        have gL67_2 : jGet L67 2 = some (.int (i32 (k))) := eL67 ▸ jg_ne (by decide) gL66_2 rfl
        have gL67_3 : jGet L67 3 = some (.int (i32 (A 45 (k).toNat))) := eL67 ▸ jg_ne (by decide) gL66_3 rfl
        have gL67_4 : jGet L67 4 = some (.int (i32 (((6000 * p) + A 49 (k).toNat)))) := eL67 ▸ jg_ne (by decide) gL66_4 rfl
        have gL67_5 : jGet L67 5 = some (.int (i32 ((A 48 (k).toNat - 1)))) := eL67 ▸ jg_ne (by decide) gL66_5 rfl
        have gL67_6 : jGet L67 6 = some (.int (i32 (1))) := eL67 ▸ jg_ne (by decide) gL66_6 rfl
        have gL67_7 : jGet L67 7 = some (.int (i32 (b65))) := eL67 ▸ jg_ne (by decide) gL66_7 rfl
        have gL67_8 : jGet L67 8 = some (.int (i32 (((A 48 (k).toNat - 1) - 1)))) := eL67 ▸ jg_eq
        exact c_write_at_106_1 (X := X) (d := d) (c0 := c0) (c1 := c1) (G := G) (A := A) (T := T) (p := p) (k := k) (st := st) (hd := hd) (hW := hW) (e_st := e_st) (h_p := h_p) (h_k := h_k) (p_0 := p_0) (p_1 := p_1) (p_2 := p_2) (p_3 := p_3) (p_4 := p_4) (p_5 := p_5) (p_6 := p_6) (p_7 := p_7) (p_8 := p_8) (p_9 := p_9) _ L67 G A51 (A 45 (k).toNat) (((6000 * p) + A 49 (k).toNat)) ((A 48 (k).toNat - 1)) (b65) (((A 48 (k).toNat - 1) - 1)) rfl gL67_0 gL67_1 gL67_2 gL67_6 gL67_3 gL67_4 gL67_5 gL67_7 gL67_8 hW52 hF53 hWc55 (by omega) (by omega) (by omega) (by omega) (by omega) (by omega) (by omega) (by omega) (by omega) (by omega) (by omega) (by omega) ((WQ_0n (by omega) (by omega) (by omega))) (hby0)
  · have _q := h40
    have hpos : 0 < A 46 (k).toNat := (by omega)
    refine jx_ld (pc_q := 10) (l_q := [(0, .ref 66), (1, .int (i32 (p))), (2, .int (i32 (k)))]) (st_q := [.ref 66]) rfl (jl_aloadn rfl) ?_
    refine jx_ld (pc_q := 11) (l_q := [(0, .ref 66), (1, .int (i32 (p))), (2, .int (i32 (k)))]) (st_q := [.int (i32 (k)), .ref 66]) rfl (jl_iloadn rfl) ?_
    refine jx_vr (pc_q := 14) (as := [.int (i32 (k))]) (st := []) rfl rfl rfl rfl ⟨rfl, rfl, Nat.le_of_ble_eq_true rfl⟩ rfl rfl (c_wayOf2 (dd := d) (hd := by omega) (hW := hW) (k := k) (st := st) (e_st := show G 70 = st from (e_st))  (h_k := ⟨(Int.le_trans (by decide : (-2147483648 : Int) ≤ -2147483648) h_k.1), (Int.le_trans h_k.2 (by decide : (2147483647 : Int) ≤ 2147483647))⟩)  (p_0 := by omega) (p_1 := by omega) (p_2 := p_3) (p_3 := p_4) (p_4 := by omega) (p_5 := by omega) (p_6 := by omega)) (fun o V_q hq => ?_)
    obtain ⟨r68, rfl, rfl, b69, p70, p71, p72, -⟩ := hq
    refine .inr ⟨_, rfl, ?_⟩
    refine jx_go (tg := 23) rfl rfl ?_
    have hvl : vl A k = r68 := (vl_w (by omega)).trans (by omega)
    refine jx_ld (pc_q := 24) (l_q := jSto1 [(0, .ref 66), (1, .int (i32 (p))), (2, .int (i32 (k)))] 3 (.int (i32 (r68)))) (st_q := []) rfl rfl ?_
    obtain ⟨L74, eL74⟩ : ∃ q, q = jSto1 [(0, .ref 66), (1, .int (i32 (p))), (2, .int (i32 (k)))] 3 (.int (i32 (r68))) := ⟨_, rfl⟩
    rw [← eL74]
    have gL74_0 : jGet L74 0 = some (.ref 66) := eL74 ▸ jg_ne (by decide) (rfl : jGet [(0, .ref 66), (1, .int (i32 (p))), (2, .int (i32 (k)))] 0 = some (.ref 66)) rfl
    have gL74_1 : jGet L74 1 = some (.int (i32 (p))) := eL74 ▸ jg_ne (by decide) (rfl : jGet [(0, .ref 66), (1, .int (i32 (p))), (2, .int (i32 (k)))] 1 = some (.int (i32 (p)))) rfl
    have gL74_2 : jGet L74 2 = some (.int (i32 (k))) := eL74 ▸ jg_ne (by decide) (rfl : jGet [(0, .ref 66), (1, .int (i32 (p))), (2, .int (i32 (k)))] 2 = some (.int (i32 (k)))) rfl
    have gL74_3 : jGet L74 3 = some (.int (i32 (r68))) := eL74 ▸ jg_eq
    refine jx_ar (pc_q := 27) (st_q := [.int (i32 (6000))]) rfl rfl rfl rfl ?_
    refine jx_ld (pc_q := 28) (l_q := L74) (st_q := [.int (i32 (p)), .int (i32 (6000))]) rfl (jl_iloadn gL74_1) ?_
    refine jx_mul (pc_q := 29) rfl rfl ?_
    refine jx_ld (pc_q := 30) (l_q := L74) (st_q := [.ref 66, .int (i32 ((6000 * p)))]) rfl (jl_aloadn gL74_0) ?_
    refine jr_get (pc_q := 33) (i := 76) (v := .ref 116) rfl rfl (by decide) rfl rfl ?_
    refine jx_ld (pc_q := 34) (l_q := L74) (st_q := [.int (i32 (k)), .ref 116, .int (i32 ((6000 * p)))]) rfl (jl_iloadn gL74_2) ?_
    have b75 : (-2147483648 : Int) ≤ A 49 (k).toNat ∧ A 49 (k).toNat ≤ 2147483647 := hW.2 49 _
    refine jr_ldv (pc_q := 35) (i := 49) (m := 7001) (z := k) (y := A 49 (k).toNat) rfl (by decide) rfl (by decide) (by omega) (by omega) rfl (show A 49 (k).toNat = A 49 (k).toNat from rfl) ?_
    refine jx_add (pc_q := 36) rfl rfl ?_
    refine jx_ld (pc_q := 38) (l_q := jSto1 L74 4 (.int (i32 (((6000 * p) + A 49 (k).toNat))))) (st_q := []) rfl rfl ?_
    obtain ⟨L76, eL76⟩ : ∃ q, q = jSto1 L74 4 (.int (i32 (((6000 * p) + A 49 (k).toNat)))) := ⟨_, rfl⟩
    rw [← eL76]
    have gL76_0 : jGet L76 0 = some (.ref 66) := eL76 ▸ jg_ne (by decide) gL74_0 rfl
    have gL76_1 : jGet L76 1 = some (.int (i32 (p))) := eL76 ▸ jg_ne (by decide) gL74_1 rfl
    have gL76_2 : jGet L76 2 = some (.int (i32 (k))) := eL76 ▸ jg_ne (by decide) gL74_2 rfl
    have gL76_3 : jGet L76 3 = some (.int (i32 (r68))) := eL76 ▸ jg_ne (by decide) gL74_3 rfl
    have gL76_4 : jGet L76 4 = some (.int (i32 (((6000 * p) + A 49 (k).toNat)))) := eL76 ▸ jg_eq
    refine jx_ld (pc_q := 39) (l_q := L76) (st_q := [.ref 66]) rfl (jl_aloadn gL76_0) ?_
    refine jr_get (pc_q := 42) (i := 75) (v := .ref 115) rfl rfl (by decide) rfl rfl ?_
    refine jx_ld (pc_q := 43) (l_q := L76) (st_q := [.int (i32 (k)), .ref 115]) rfl (jl_iloadn gL76_2) ?_
    have b77 : (-2147483648 : Int) ≤ A 48 (k).toNat ∧ A 48 (k).toNat ≤ 2147483647 := hW.2 48 _
    refine jr_ldv (pc_q := 44) (i := 48) (m := 7000) (z := k) (y := A 48 (k).toNat) rfl (by decide) rfl (by decide) (by omega) (by omega) rfl (show A 48 (k).toNat = A 48 (k).toNat from rfl) ?_
    refine jx_ar (pc_q := 45) (st_q := [.int (i32 (1)), .int (i32 (A 48 (k).toNat))]) rfl rfl rfl rfl ?_
    refine jx_sub (pc_q := 46) rfl rfl ?_
    refine jx_ld (pc_q := 48) (l_q := jSto1 L76 5 (.int (i32 ((A 48 (k).toNat - 1))))) (st_q := []) rfl rfl ?_
    obtain ⟨L78, eL78⟩ : ∃ q, q = jSto1 L76 5 (.int (i32 ((A 48 (k).toNat - 1)))) := ⟨_, rfl⟩
    rw [← eL78]
    have gL78_0 : jGet L78 0 = some (.ref 66) := eL78 ▸ jg_ne (by decide) gL76_0 rfl
    have gL78_1 : jGet L78 1 = some (.int (i32 (p))) := eL78 ▸ jg_ne (by decide) gL76_1 rfl
    have gL78_2 : jGet L78 2 = some (.int (i32 (k))) := eL78 ▸ jg_ne (by decide) gL76_2 rfl
    have gL78_3 : jGet L78 3 = some (.int (i32 (r68))) := eL78 ▸ jg_ne (by decide) gL76_3 rfl
    have gL78_4 : jGet L78 4 = some (.int (i32 (((6000 * p) + A 49 (k).toNat)))) := eL78 ▸ jg_ne (by decide) gL76_4 rfl
    have gL78_5 : jGet L78 5 = some (.int (i32 ((A 48 (k).toNat - 1)))) := eL78 ▸ jg_eq
    refine jx_ld (pc_q := 49) (l_q := L78) (st_q := [.ref 66]) rfl (jl_aloadn gL78_0) ?_
    refine jr_get (pc_q := 52) (i := 83) (v := .ref 120) rfl rfl (by decide) rfl rfl ?_
    refine jx_ld (pc_q := 54) (l_q := L78) (st_q := [.int (i32 (((6000 * p) + A 49 (k).toNat))), .ref 120]) rfl (jl_iload gL78_4) ?_
    refine jx_ld (pc_q := 56) (l_q := L78) (st_q := [.int (i32 ((A 48 (k).toNat - 1))), .int (i32 (((6000 * p) + A 49 (k).toNat))), .ref 120]) rfl (jl_iload gL78_5) ?_
    refine jx_add (pc_q := 57) rfl rfl ?_
    refine jx_ld (pc_q := 58) (l_q := L78) (st_q := [.ref 66, .int (i32 ((((6000 * p) + A 49 (k).toNat) + (A 48 (k).toNat - 1)))), .ref 120]) rfl (jl_aloadn gL78_0) ?_
    refine jr_get (pc_q := 61) (i := 71) (v := .ref 111) rfl rfl (by decide) rfl rfl ?_
    refine jx_ld (pc_q := 62) (l_q := L78) (st_q := [.int (i32 (k)), .ref 111, .int (i32 ((((6000 * p) + A 49 (k).toNat) + (A 48 (k).toNat - 1)))), .ref 120]) rfl (jl_iloadn gL78_2) ?_
    have b79 : (-2147483648 : Int) ≤ A 44 (k).toNat ∧ A 44 (k).toNat ≤ 2147483647 := hW.2 44 _
    refine jr_ldv (pc_q := 63) (i := 44) (m := 7000) (z := k) (y := A 44 (k).toNat) rfl (by decide) rfl (by decide) (by omega) (by omega) rfl (show A 44 (k).toNat = A 44 (k).toNat from rfl) ?_
    refine jx_ar (pc_q := 64) (st_q := [.int (i32 (4)), .int (i32 (A 44 (k).toNat)), .int (i32 ((((6000 * p) + A 49 (k).toNat) + (A 48 (k).toNat - 1)))), .ref 120]) rfl rfl rfl rfl ?_
    refine jx_shl (pc_q := 65) rfl rfl ?_
    obtain ⟨b80, eb80⟩ : ∃ z, z = (i32 (A 44 (k).toNat) <<< (i32 (4) &&& 31)).toInt := ⟨_, rfl⟩
    rw [← eb80]
    have rb80 : (-2147483648 : Int) ≤ b80 ∧ b80 ≤ 2147483647 := eb80 ▸ i32_rg _
    have hb80 : b80 = 16 * A 44 (k).toNat := (by rw [eb80]; exact shl_4 (by omega) (by omega))
    refine jx_ld (pc_q := 66) (l_q := L78) (st_q := [.int (i32 (r68)), .int (i32 (b80)), .int (i32 ((((6000 * p) + A 49 (k).toNat) + (A 48 (k).toNat - 1)))), .ref 120]) rfl (jl_iloadn gL78_3) ?_
    refine jx_ar (pc_q := 68) (st_q := [.int (i32 (15)), .int (i32 (r68)), .int (i32 (b80)), .int (i32 ((((6000 * p) + A 49 (k).toNat) + (A 48 (k).toNat - 1)))), .ref 120]) rfl rfl rfl rfl ?_
    refine jx_and (pc_q := 69) rfl rfl ?_
    obtain ⟨b81, eb81⟩ : ∃ z, z = (i32 (r68) &&& i32 (15)).toInt := ⟨_, rfl⟩
    rw [← eb81]
    have rb81 : (-2147483648 : Int) ≤ b81 ∧ b81 ≤ 2147483647 := eb81 ▸ i32_rg _
    have hb81 : b81 = r68 % 16 := (by rw [eb81]; exact and_15 (by omega) (by omega))
    refine jx_or (pc_q := 70) rfl rfl ?_
    obtain ⟨b82, eb82⟩ : ∃ z, z = (i32 (b80) ||| i32 (b81)).toInt := ⟨_, rfl⟩
    rw [← eb82]
    have rb82 : (-2147483648 : Int) ≤ b82 ∧ b82 ≤ 2147483647 := eb82 ▸ i32_rg _
    have hb82 : b82 = b80 + b81 := (by rw [eb82]; exact or_17 (f := A 44 (k).toNat) (by omega) (by omega) (by omega) (by omega) (by omega))
    refine jr_st (pc_q := 71) (i := 53) (m := 36000) (z := (((6000 * p) + A 49 (k).toNat) + (A 48 (k).toNat - 1))) (y := b82) rfl (by decide) rfl (by decide) (by omega) (by omega) rfl ?_
    have hW84 : Wk G (uA A 53 ((((6000 * p) + A 49 (k).toNat) + (A 48 (k).toNat - 1))).toNat (b82)) := Wk_a hW (show (-2147483648 : Int) ≤ b82 by omega) (show b82 ≤ (2147483647 : Int) by omega)
    have hF85 := Fr_a (z := b82) (k := 53) (n := ((((6000 * p) + A 49 (k).toNat) + (A 48 (k).toNat - 1))).toNat) hF0 (by decide)
    obtain ⟨A83, eA83⟩ : ∃ q, q = uA A 53 ((((6000 * p) + A 49 (k).toNat) + (A 48 (k).toNat - 1))).toNat (b82) := ⟨_, rfl⟩
    rw [← eA83]
    rw [← eA83] at hW84 hF85
    have q86 : A83 53 ((((6000 * p) + A 49 (k).toNat) + (A 48 (k).toNat - 1))).toNat = b82 := by rw [eA83]; exact uA_eq
    have hWc87 : Fo [53] (6000 * p + A 49 (k).toNat) (6000 * p + A 49 (k).toNat + A 48 (k).toNat) A A83 := eA83 ▸ Fo_a hWc0 (z := (((6000 * p) + A 49 (k).toNat) + (A 48 (k).toNat - 1))) (by omega) (by omega) (by omega)
    have hby0 := BY_0 (l := (A 48 (k).toNat - 1)) (fn := A 44 (k).toNat) (v := r68) eA83 rfl (by omega) (by omega)
    refine jx_ld (pc_q := 72) (l_q := L78) (st_q := [.int (i32 (r68))]) rfl (jl_iloadn gL78_3) ?_
    refine jx_if_ge (pc_q := 75) (tg := 79) rfl rfl rfl (Int.le_trans (by decide : (-2147483648 : Int) ≤ -2147483648) b69.1) (Int.le_trans b69.2 (by decide : (2147483647 : Int) ≤ 2147483647)) (fun h88 => ?_) (fun h88 => ?_)
    · have _q := h88
      refine jx_ar (pc_q := 80) (st_q := [.int (i32 (0))]) rfl rfl rfl rfl ?_
      refine jx_ld (pc_q := 82) (l_q := jSto1 L78 6 (.int (i32 (0)))) (st_q := []) rfl rfl ?_
      obtain ⟨L89, eL89⟩ : ∃ q, q = jSto1 L78 6 (.int (i32 (0))) := ⟨_, rfl⟩
      rw [← eL89]
      have gL89_0 : jGet L89 0 = some (.ref 66) := eL89 ▸ jg_ne (by decide) gL78_0 rfl
      have gL89_1 : jGet L89 1 = some (.int (i32 (p))) := eL89 ▸ jg_ne (by decide) gL78_1 rfl
      have gL89_2 : jGet L89 2 = some (.int (i32 (k))) := eL89 ▸ jg_ne (by decide) gL78_2 rfl
      have gL89_3 : jGet L89 3 = some (.int (i32 (r68))) := eL89 ▸ jg_ne (by decide) gL78_3 rfl
      have gL89_4 : jGet L89 4 = some (.int (i32 (((6000 * p) + A 49 (k).toNat)))) := eL89 ▸ jg_ne (by decide) gL78_4 rfl
      have gL89_5 : jGet L89 5 = some (.int (i32 ((A 48 (k).toNat - 1)))) := eL89 ▸ jg_ne (by decide) gL78_5 rfl
      have gL89_6 : jGet L89 6 = some (.int (i32 (0))) := eL89 ▸ jg_eq
      refine jx_ld (pc_q := 84) (l_q := L89) (st_q := [.int (i32 (0))]) rfl (jl_iload gL89_6) ?_
      refine jx_if_eq (pc_q := 87) (tg := 95) rfl rfl rfl (by decide) (by decide) (fun h90 => ?_) (fun h90 => ?_)
      · have _q := h90
        refine jx_ld (pc_q := 96) (l_q := L89) (st_q := [.int (i32 (r68))]) rfl (jl_iloadn gL89_3) ?_
        refine jx_ar (pc_q := 97) (st_q := [.int (i32 (4)), .int (i32 (r68))]) rfl rfl rfl rfl ?_
        refine jx_shr (pc_q := 98) rfl rfl ?_
        obtain ⟨b91, eb91⟩ : ∃ z, z = (i32 (r68) >>> (i32 (4) &&& 31)).toInt := ⟨_, rfl⟩
        rw [← eb91]
        have rb91 : (-2147483648 : Int) ≤ b91 ∧ b91 ≤ 2147483647 := eb91 ▸ i32_rg _
        have hb91 : b91 = r68 / 16 := (by rw [eb91]; exact shr_4 (by omega) (by omega))
        refine jx_ld (pc_q := 100) (l_q := jSto1 L89 7 (.int (i32 (b91)))) (st_q := []) rfl rfl ?_
        obtain ⟨L92, eL92⟩ : ∃ q, q = jSto1 L89 7 (.int (i32 (b91))) := ⟨_, rfl⟩
        rw [← eL92]
        have gL92_0 : jGet L92 0 = some (.ref 66) := eL92 ▸ jg_ne (by decide) gL89_0 rfl
        have gL92_1 : jGet L92 1 = some (.int (i32 (p))) := eL92 ▸ jg_ne (by decide) gL89_1 rfl
        have gL92_2 : jGet L92 2 = some (.int (i32 (k))) := eL92 ▸ jg_ne (by decide) gL89_2 rfl
        have gL92_3 : jGet L92 3 = some (.int (i32 (r68))) := eL92 ▸ jg_ne (by decide) gL89_3 rfl
        have gL92_4 : jGet L92 4 = some (.int (i32 (((6000 * p) + A 49 (k).toNat)))) := eL92 ▸ jg_ne (by decide) gL89_4 rfl
        have gL92_5 : jGet L92 5 = some (.int (i32 ((A 48 (k).toNat - 1)))) := eL92 ▸ jg_ne (by decide) gL89_5 rfl
        have gL92_6 : jGet L92 6 = some (.int (i32 (0))) := eL92 ▸ jg_ne (by decide) gL89_6 rfl
        have gL92_7 : jGet L92 7 = some (.int (i32 (b91))) := eL92 ▸ jg_eq
        refine jx_ld (pc_q := 102) (l_q := L92) (st_q := [.int (i32 ((A 48 (k).toNat - 1)))]) rfl (jl_iload gL92_5) ?_
        refine jx_ar (pc_q := 103) (st_q := [.int (i32 (1)), .int (i32 ((A 48 (k).toNat - 1)))]) rfl rfl rfl rfl ?_
        refine jx_sub (pc_q := 104) rfl rfl ?_
        have _q : True := trivial
        refine jx_ld (pc_q := 106) (l_q := jSto1 L92 8 (.int (i32 (((A 48 (k).toNat - 1) - 1))))) (st_q := []) rfl rfl ?_
        obtain ⟨L93, eL93⟩ : ∃ q, q = jSto1 L92 8 (.int (i32 (((A 48 (k).toNat - 1) - 1)))) := ⟨_, rfl⟩
        rw [← eL93]
        have gL93_0 : jGet L93 0 = some (.ref 66) := eL93 ▸ jg_ne (by decide) gL92_0 rfl
        have gL93_1 : jGet L93 1 = some (.int (i32 (p))) := eL93 ▸ jg_ne (by decide) gL92_1 rfl
        have gL93_2 : jGet L93 2 = some (.int (i32 (k))) := eL93 ▸ jg_ne (by decide) gL92_2 rfl
        have gL93_3 : jGet L93 3 = some (.int (i32 (r68))) := eL93 ▸ jg_ne (by decide) gL92_3 rfl
        have gL93_4 : jGet L93 4 = some (.int (i32 (((6000 * p) + A 49 (k).toNat)))) := eL93 ▸ jg_ne (by decide) gL92_4 rfl
        have gL93_5 : jGet L93 5 = some (.int (i32 ((A 48 (k).toNat - 1)))) := eL93 ▸ jg_ne (by decide) gL92_5 rfl
        have gL93_6 : jGet L93 6 = some (.int (i32 (0))) := eL93 ▸ jg_ne (by decide) gL92_6 rfl
        have gL93_7 : jGet L93 7 = some (.int (i32 (b91))) := eL93 ▸ jg_ne (by decide) gL92_7 rfl
        have gL93_8 : jGet L93 8 = some (.int (i32 (((A 48 (k).toNat - 1) - 1)))) := eL93 ▸ jg_eq
        exact c_write_at_106_0 (X := X) (d := d) (c0 := c0) (c1 := c1) (G := G) (A := A) (T := T) (p := p) (k := k) (st := st) (hd := hd) (hW := hW) (e_st := e_st) (h_p := h_p) (h_k := h_k) (p_0 := p_0) (p_1 := p_1) (p_2 := p_2) (p_3 := p_3) (p_4 := p_4) (p_5 := p_5) (p_6 := p_6) (p_7 := p_7) (p_8 := p_8) (p_9 := p_9) _ L93 G A83 (r68) (((6000 * p) + A 49 (k).toNat)) ((A 48 (k).toNat - 1)) (b91) (((A 48 (k).toNat - 1) - 1)) rfl gL93_0 gL93_1 gL93_2 gL93_6 gL93_3 gL93_4 gL93_5 gL93_7 gL93_8 hW84 hF85 hWc87 (by omega) (by omega) (by omega) (by omega) (by omega) (by omega) (by omega) (by omega) (by omega) (by omega) (by omega) (by omega) ((WQ_0p (by omega) (by omega) (by omega))) (hby0)
      · have _q := h90
        exact absurd h90 (by omega)
    · have _q := h88
      refine jx_ar (pc_q := 76) (st_q := [.int (i32 (1))]) rfl rfl rfl rfl ?_
      refine jx_go (tg := 80) rfl rfl ?_
      refine jx_ld (pc_q := 82) (l_q := jSto1 L78 6 (.int (i32 (1)))) (st_q := []) rfl rfl ?_
      obtain ⟨L94, eL94⟩ : ∃ q, q = jSto1 L78 6 (.int (i32 (1))) := ⟨_, rfl⟩
      rw [← eL94]
      have gL94_0 : jGet L94 0 = some (.ref 66) := eL94 ▸ jg_ne (by decide) gL78_0 rfl
      have gL94_1 : jGet L94 1 = some (.int (i32 (p))) := eL94 ▸ jg_ne (by decide) gL78_1 rfl
      have gL94_2 : jGet L94 2 = some (.int (i32 (k))) := eL94 ▸ jg_ne (by decide) gL78_2 rfl
      have gL94_3 : jGet L94 3 = some (.int (i32 (r68))) := eL94 ▸ jg_ne (by decide) gL78_3 rfl
      have gL94_4 : jGet L94 4 = some (.int (i32 (((6000 * p) + A 49 (k).toNat)))) := eL94 ▸ jg_ne (by decide) gL78_4 rfl
      have gL94_5 : jGet L94 5 = some (.int (i32 ((A 48 (k).toNat - 1)))) := eL94 ▸ jg_ne (by decide) gL78_5 rfl
      have gL94_6 : jGet L94 6 = some (.int (i32 (1))) := eL94 ▸ jg_eq
      refine jx_ld (pc_q := 84) (l_q := L94) (st_q := [.int (i32 (1))]) rfl (jl_iload gL94_6) ?_
      refine jx_if_eq (pc_q := 87) (tg := 95) rfl rfl rfl (by decide) (by decide) (fun h95 => ?_) (fun h95 => ?_)
      · have _q := h95
        exact absurd h95 (by omega)
      · have _q := h95
        refine jx_ld (pc_q := 88) (l_q := L94) (st_q := [.int (i32 (r68))]) rfl (jl_iloadn gL94_3) ?_
        refine jx_ar (pc_q := 89) (st_q := [.int (i32 (-1)), .int (i32 (r68))]) rfl rfl rfl rfl ?_
        refine jx_xor (pc_q := 90) rfl rfl ?_
        obtain ⟨b96, eb96⟩ : ∃ z, z = (i32 (r68) ^^^ i32 (-1)).toInt := ⟨_, rfl⟩
        rw [← eb96]
        have rb96 : (-2147483648 : Int) ≤ b96 ∧ b96 ≤ 2147483647 := eb96 ▸ i32_rg _
        have hb96 : b96 = -r68 - 1 := (by rw [eb96]; exact not_1 (by omega) (by omega))
        refine jx_ar (pc_q := 91) (st_q := [.int (i32 (4)), .int (i32 (b96))]) rfl rfl rfl rfl ?_
        refine jx_shr (pc_q := 92) rfl rfl ?_
        obtain ⟨b97, eb97⟩ : ∃ z, z = (i32 (b96) >>> (i32 (4) &&& 31)).toInt := ⟨_, rfl⟩
        rw [← eb97]
        have rb97 : (-2147483648 : Int) ≤ b97 ∧ b97 ≤ 2147483647 := eb97 ▸ i32_rg _
        refine jx_go (tg := 98) rfl rfl ?_
        have hb97 : b97 = b96 / 16 := (by rw [eb97]; exact shr_4 (by omega) (by omega))
        refine jx_ld (pc_q := 100) (l_q := jSto1 L94 7 (.int (i32 (b97)))) (st_q := []) rfl rfl ?_
        obtain ⟨L98, eL98⟩ : ∃ q, q = jSto1 L94 7 (.int (i32 (b97))) := ⟨_, rfl⟩
        rw [← eL98]
        have gL98_0 : jGet L98 0 = some (.ref 66) := eL98 ▸ jg_ne (by decide) gL94_0 rfl
        have gL98_1 : jGet L98 1 = some (.int (i32 (p))) := eL98 ▸ jg_ne (by decide) gL94_1 rfl
        have gL98_2 : jGet L98 2 = some (.int (i32 (k))) := eL98 ▸ jg_ne (by decide) gL94_2 rfl
        have gL98_3 : jGet L98 3 = some (.int (i32 (r68))) := eL98 ▸ jg_ne (by decide) gL94_3 rfl
        have gL98_4 : jGet L98 4 = some (.int (i32 (((6000 * p) + A 49 (k).toNat)))) := eL98 ▸ jg_ne (by decide) gL94_4 rfl
        have gL98_5 : jGet L98 5 = some (.int (i32 ((A 48 (k).toNat - 1)))) := eL98 ▸ jg_ne (by decide) gL94_5 rfl
        have gL98_6 : jGet L98 6 = some (.int (i32 (1))) := eL98 ▸ jg_ne (by decide) gL94_6 rfl
        have gL98_7 : jGet L98 7 = some (.int (i32 (b97))) := eL98 ▸ jg_eq
        refine jx_ld (pc_q := 102) (l_q := L98) (st_q := [.int (i32 ((A 48 (k).toNat - 1)))]) rfl (jl_iload gL98_5) ?_
        refine jx_ar (pc_q := 103) (st_q := [.int (i32 (1)), .int (i32 ((A 48 (k).toNat - 1)))]) rfl rfl rfl rfl ?_
        refine jx_sub (pc_q := 104) rfl rfl ?_
        have _q : True := trivial
        refine jx_ld (pc_q := 106) (l_q := jSto1 L98 8 (.int (i32 (((A 48 (k).toNat - 1) - 1))))) (st_q := []) rfl rfl ?_
        obtain ⟨L99, eL99⟩ : ∃ q, q = jSto1 L98 8 (.int (i32 (((A 48 (k).toNat - 1) - 1)))) := ⟨_, rfl⟩
        rw [← eL99]
        have gL99_0 : jGet L99 0 = some (.ref 66) := eL99 ▸ jg_ne (by decide) gL98_0 rfl
        have gL99_1 : jGet L99 1 = some (.int (i32 (p))) := eL99 ▸ jg_ne (by decide) gL98_1 rfl
        have gL99_2 : jGet L99 2 = some (.int (i32 (k))) := eL99 ▸ jg_ne (by decide) gL98_2 rfl
        have gL99_3 : jGet L99 3 = some (.int (i32 (r68))) := eL99 ▸ jg_ne (by decide) gL98_3 rfl
        have gL99_4 : jGet L99 4 = some (.int (i32 (((6000 * p) + A 49 (k).toNat)))) := eL99 ▸ jg_ne (by decide) gL98_4 rfl
        have gL99_5 : jGet L99 5 = some (.int (i32 ((A 48 (k).toNat - 1)))) := eL99 ▸ jg_ne (by decide) gL98_5 rfl
        have gL99_6 : jGet L99 6 = some (.int (i32 (1))) := eL99 ▸ jg_ne (by decide) gL98_6 rfl
        have gL99_7 : jGet L99 7 = some (.int (i32 (b97))) := eL99 ▸ jg_ne (by decide) gL98_7 rfl
        have gL99_8 : jGet L99 8 = some (.int (i32 (((A 48 (k).toNat - 1) - 1)))) := eL99 ▸ jg_eq
        exact c_write_at_106_1 (X := X) (d := d) (c0 := c0) (c1 := c1) (G := G) (A := A) (T := T) (p := p) (k := k) (st := st) (hd := hd) (hW := hW) (e_st := e_st) (h_p := h_p) (h_k := h_k) (p_0 := p_0) (p_1 := p_1) (p_2 := p_2) (p_3 := p_3) (p_4 := p_4) (p_5 := p_5) (p_6 := p_6) (p_7 := p_7) (p_8 := p_8) (p_9 := p_9) _ L99 G A83 (r68) (((6000 * p) + A 49 (k).toNat)) ((A 48 (k).toNat - 1)) (b97) (((A 48 (k).toNat - 1) - 1)) rfl gL99_0 gL99_1 gL99_2 gL99_6 gL99_3 gL99_4 gL99_5 gL99_7 gL99_8 hW84 hF85 hWc87 (by omega) (by omega) (by omega) (by omega) (by omega) (by omega) (by omega) (by omega) (by omega) (by omega) (by omega) (by omega) ((WQ_0n (by omega) (by omega) (by omega))) (hby0)
