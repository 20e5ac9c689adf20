/-! RESET -/
def MZ (A : Nat → Nat → Int) (k : Int) : Prop := ∀ n : Nat, (n : Int) < k → A 59 n = 0
theorem MZ_s {A B : Nat → Nat → Int} {k : Int} (h : MZ A k) (k0 : 0 ≤ k) (e : B = uA A 59 k.toNat 0) : MZ B (k + 1) := fun n hn => by
  by_cases w : n = k.toNat
  · rw [e, w, uA_eq]
  · rw [e, uA_ni w]
    exact h n (by omega)
def MMz (A : Nat → Nat → Int) (p a : Int) : Prop := ∀ q x : Int, 0 ≤ q → q ≤ 5 → 0 ≤ x → x ≤ 4015 → A 59 (4016 * q + x).toNat = if x < 14 ∧ (q < p ∨ (q = p ∧ x < a)) then -1 else 0
theorem MM_0 {A : Nat → Nat → Int} {k : Int} (h : MZ A k) (hk : 24096 ≤ k) : MMz A 0 0 := fun q x q0 q1 x0 x1 => by
  rw [if_neg (by omega)]
  exact h _ (by omega)
theorem MM_s {A B : Nat → Nat → Int} {p a v : Int} (h : MMz A p a) (p0 : 0 ≤ p) (a0 : 0 ≤ a) (a1 : a ≤ 15) (hv : (a < 14 ∧ v = -1) ∨ (14 ≤ a ∧ v = 0)) (e : B = uA A 59 ((4016 * p) + a).toNat v) : MMz B p (a + 1) := fun q x q0 q1 x0 x1 => by
  by_cases w : (4016 * q + x).toNat = (4016 * p + a).toNat
  · rw [e, w, uA_eq]
    have w2 : q = p ∧ x = a := by omega
    rcases hv with hv | hv
    · rw [if_pos (by omega)]
      exact hv.2
    · rw [if_neg (by omega)]
      exact hv.2
  · rw [e, uA_ni w, h q x q0 q1 x0 x1]
    have w2 : ¬ (q = p ∧ x = a) := fun z => w (by rw [z.1, z.2])
    by_cases c : x < 14 ∧ (q < p ∨ (q = p ∧ x < a))
    · rw [if_pos c, if_pos (by omega)]
    · rw [if_neg c, if_neg (by omega)]
theorem MM_n {A : Nat → Nat → Int} {p a : Int} (h : MMz A p a) (ha : 16 ≤ a) : MMz A (p + 1) 0 := fun q x q0 q1 x0 x1 => by
  rw [h q x q0 q1 x0 x1]
  by_cases c : x < 14 ∧ (q < p ∨ (q = p ∧ x < a))
  · rw [if_pos c, if_pos (by omega)]
  · rw [if_neg c, if_neg (by omega)]
theorem MM_o {A B : Nat → Nat → Int} {p a : Int} (h : MMz A p a) (e : B 59 = A 59) : MMz B p a := by
  unfold MMz
  rw [e]
  exact h
theorem MM_c {A : Nat → Nat → Int} {p : Int} (h : MMz A p 0) (e : p = 6) : MMz A 6 0 := e ▸ h
/-- core q as it begins -/
def RSq (A A_q : Nat → Nat → Int) (q : Int) : Prop := A_q 72 (2 * q).toNat = 0 ∧ A_q 72 (2 * q + 1).toNat = 0 ∧ A_q 73 q.toNat = 0 ∧ A_q 60 q.toNat = 0 ∧ A_q 61 q.toNat = 0 ∧ A_q 62 q.toNat = 0 ∧ A_q 65 q.toNat = 0 ∧ A_q 63 q.toNat = A 55 q.toNat ∧ (0 < A 36 q.toNat → 0 ≤ A 38 q.toNat → A 38 q.toNat ≤ 4000 → A_q 64 q.toNat = 19 + A 38 q.toNat ∧ A_q 66 q.toNat = 2 * (19 + A 38 q.toNat) + 1) ∧ (A 36 q.toNat ≤ 0 → A_q 66 q.toNat = -1)
def RQz (A A_q : Nat → Nat → Int) (p : Int) : Prop := ∀ q : Int, 0 ≤ q → q < p → RSq A A_q q
theorem RQ_o {A B C : Nat → Nat → Int} {p : Int} (h : RQz A B p) (e : ∀ k : Nat, 60 ≤ k → k ≤ 73 → C k = B k) : RQz A C p := fun q q0 q1 => by
  have w := h q q0 q1
  unfold RSq at w ⊢
  rw [e 72 (by decide) (by decide), e 73 (by decide) (by decide), e 60 (by decide) (by decide), e 61 (by decide) (by decide), e 62 (by decide) (by decide), e 63 (by decide) (by decide), e 64 (by decide) (by decide), e 65 (by decide) (by decide), e 66 (by decide) (by decide)]
  exact w
theorem RQ_c {A B : Nat → Nat → Int} {p : Int} (h : RQz A B p) (e : p = 6) : RQz A B 6 := e ▸ h
theorem RQ_0 {A B : Nat → Nat → Int} : RQz A B 0 := fun q q0 q1 => absurd q1 (by omega)
theorem RQ_s {A B0 B1 B2 B3 B4 B5 B6 B7 B8 B9 B10 B11 B12 B13 B14 : Nat → Nat → Int} {p w rn : Int} (h : RQz A B0 p) (p0 : 0 ≤ p) (e1 : B1 = uA B0 72 (2 * p).toNat 0) (e2 : B2 = uA B1 72 ((2 * p) + 1).toNat 0) (e3 : B3 = uA B2 73 p.toNat 0) (e4 : B4 = uA B3 67 p.toNat 0) (e5 : B5 = uA B4 68 p.toNat 0) (e6 : B6 = uA B5 69 p.toNat 0) (e7 : B7 = uA B6 70 p.toNat 0) (e8 : B8 = uA B7 60 p.toNat 0) (e9 : B9 = uA B8 61 p.toNat 0) (e10 : B10 = uA B9 62 p.toNat 0) (e11 : B11 = uA B10 65 p.toNat 0) (e12 : B12 = uA B11 63 p.toNat (A 55 p.toNat)) (e13 : B13 = uA B12 64 p.toNat w) (e14 : B14 = uA B13 66 p.toNat rn)
    (hw : 0 < A 36 p.toNat → 0 ≤ A 38 p.toNat → A 38 p.toNat ≤ 4000 → w = 19 + A 38 p.toNat ∧ rn = 2 * (19 + A 38 p.toNat) + 1) (hn : A 36 p.toNat ≤ 0 → rn = -1) : RQz A B14 (p + 1) := fun q q0 q1 => by
  have r72 : B14 72 = B2 72 := by rw [e14, uA_ne (by decide), e13, uA_ne (by decide), e12, uA_ne (by decide), e11, uA_ne (by decide), e10, uA_ne (by decide), e9, uA_ne (by decide), e8, uA_ne (by decide), e7, uA_ne (by decide), e6, uA_ne (by decide), e5, uA_ne (by decide), e4, uA_ne (by decide), e3, uA_ne (by decide)]
  have r73 : B14 73 = B3 73 := by rw [e14, uA_ne (by decide), e13, uA_ne (by decide), e12, uA_ne (by decide), e11, uA_ne (by decide), e10, uA_ne (by decide), e9, uA_ne (by decide), e8, uA_ne (by decide), e7, uA_ne (by decide), e6, uA_ne (by decide), e5, uA_ne (by decide), e4, uA_ne (by decide)]
  have r60 : B14 60 = B8 60 := by rw [e14, uA_ne (by decide), e13, uA_ne (by decide), e12, uA_ne (by decide), e11, uA_ne (by decide), e10, uA_ne (by decide), e9, uA_ne (by decide)]
  have r61 : B14 61 = B9 61 := by rw [e14, uA_ne (by decide), e13, uA_ne (by decide), e12, uA_ne (by decide), e11, uA_ne (by decide), e10, uA_ne (by decide)]
  have r62 : B14 62 = B10 62 := by rw [e14, uA_ne (by decide), e13, uA_ne (by decide), e12, uA_ne (by decide), e11, uA_ne (by decide)]
  have r65 : B14 65 = B11 65 := by rw [e14, uA_ne (by decide), e13, uA_ne (by decide), e12, uA_ne (by decide)]
  have r63 : B14 63 = B12 63 := by rw [e14, uA_ne (by decide), e13, uA_ne (by decide)]
  have r64 : B14 64 = B13 64 := by rw [e14, uA_ne (by decide)]
  have s72 : B0 72 = B0 72 := rfl
  have l73 : B2 73 = B0 73 := by rw [e2, uA_ne (by decide), e1, uA_ne (by decide)]
  have low : ∀ k : Nat, 60 ≤ k → k ≤ 66 → B7 k = B0 k := fun k k1 k2 => by rw [e7, uA_ne (by omega), e6, uA_ne (by omega), e5, uA_ne (by omega), e4, uA_ne (by omega), e3, uA_ne (by omega), e2, uA_ne (by omega), e1, uA_ne (by omega)]
  have l61 : B8 61 = B0 61 := by rw [e8, uA_ne (by decide), low 61 (by decide) (by decide)]
  have l62 : B9 62 = B0 62 := by rw [e9, uA_ne (by decide), e8, uA_ne (by decide), low 62 (by decide) (by decide)]
  have l65 : B10 65 = B0 65 := by rw [e10, uA_ne (by decide), e9, uA_ne (by decide), e8, uA_ne (by decide), low 65 (by decide) (by decide)]
  have l63 : B11 63 = B0 63 := by rw [e11, uA_ne (by decide), e10, uA_ne (by decide), e9, uA_ne (by decide), e8, uA_ne (by decide), low 63 (by decide) (by decide)]
  have l64 : B12 64 = B0 64 := by rw [e12, uA_ne (by decide), e11, uA_ne (by decide), e10, uA_ne (by decide), e9, uA_ne (by decide), e8, uA_ne (by decide), low 64 (by decide) (by decide)]
  have l66 : B13 66 = B0 66 := by rw [e13, uA_ne (by decide), e12, uA_ne (by decide), e11, uA_ne (by decide), e10, uA_ne (by decide), e9, uA_ne (by decide), e8, uA_ne (by decide), low 66 (by decide) (by decide)]
  unfold RSq
  rw [r72, r73, r60, r61, r62, r63, r64, r65]
  by_cases n : q = p
  · subst n
    refine ⟨?_, ?_, ?_, ?_, ?_, ?_, ?_, ?_, fun a b c => ⟨?_, ?_⟩, fun a => ?_⟩
    · rw [e2, uA_ni (by omega), e1, uA_eq]
    · rw [e2, uA_eq]
    · rw [e3, uA_eq]
    · rw [e8, uA_eq]
    · rw [e9, uA_eq]
    · rw [e10, uA_eq]
    · rw [e11, uA_eq]
    · rw [e12, uA_eq]
    · rw [e13, uA_eq]
      exact (hw a b c).1
    · rw [e14, uA_eq]
      exact (hw a b c).2
    · rw [e14, uA_eq]
      exact hn a
  · have z := h q q0 (by omega)
    unfold RSq at z
    have nn : q.toNat ≠ p.toNat := by omega
    rw [e2, uA_ni (by omega), uA_ni (by omega), e1, uA_ni (by omega), uA_ni (by omega), e3, uA_ni nn, l73, e8, uA_ni nn, low 60 (by decide) (by decide), e9, uA_ni nn, l61, e10, uA_ni nn, l62, e11, uA_ni nn, l65, e12, uA_ni nn, l63, e13, uA_ni nn, l64, e14, uA_ni nn, l66]
    exact z
def LZz (A : Nat → Nat → Int) (l : Int) : Prop := ∀ x : Int, 0 ≤ x → x < l → A 80 x.toNat = 0 ∧ A 83 x.toNat = 0 ∧ A 84 x.toNat = 0
theorem LZ_0 {A : Nat → Nat → Int} : LZz A 0 := fun q q0 q1 => absurd q1 (by omega)
theorem LZ_s {B0 B1 B2 B3 B4 B5 B6 : Nat → Nat → Int} {l : Int} (h : LZz B0 l) (l0 : 0 ≤ l) (e1 : B1 = uA B0 80 l.toNat 0) (e2 : B2 = uA B1 81 l.toNat 0) (e3 : B3 = uA B2 82 l.toNat 0) (e4 : B4 = uA B3 83 l.toNat 0) (e5 : B5 = uA B4 84 l.toNat 0) (e6 : B6 = uA B5 85 l.toNat 0) : LZz B6 (l + 1) := fun x x0 x1 => by
  have r80 : B6 80 = B1 80 := by rw [e6, uA_ne (by decide), e5, uA_ne (by decide), e4, uA_ne (by decide), e3, uA_ne (by decide), e2, uA_ne (by decide)]
  have r83 : B6 83 = B4 83 := by rw [e6, uA_ne (by decide), e5, uA_ne (by decide)]
  have r84 : B6 84 = B5 84 := by rw [e6, uA_ne (by decide)]
  have l83 : B3 83 = B0 83 := by rw [e3, uA_ne (by decide), e2, uA_ne (by decide), e1, uA_ne (by decide)]
  have l84 : B4 84 = B0 84 := by rw [e4, uA_ne (by decide), e3, uA_ne (by decide), e2, uA_ne (by decide), e1, uA_ne (by decide)]
  rw [r80, r83, r84]
  by_cases n : x = l
  · subst n
    rw [e1, uA_eq, e4, uA_eq, e5, uA_eq]
    exact ⟨rfl, rfl, rfl⟩
  · have nn : x.toNat ≠ l.toNat := by omega
    rw [e1, uA_ni nn, e4, uA_ni nn, l83, e5, uA_ni nn, l84]
    exact h x x0 (by omega)
/-- what reset makes -/
def RS (A A_q : Nat → Nat → Int) : Prop := MMz A_q 6 0 ∧ RQz A A_q 6 ∧ LZz A_q 12
theorem RS_i {A A_q : Nat → Nat → Int} {l : Int} (h1 : MMz A_q 6 0) (h2 : RQz A A_q 6) (h3 : LZz A_q l) (e : 12 ≤ l) : RS A A_q := ⟨h1, h2, fun x x0 x1 => h3 x x0 (by omega)⟩
theorem rs_w {z v1 v2 v3 v4 : Int} (e1 : v1 = (i32 (16 + z)).toInt) (e2 : v2 = (i32 (v1 + 3)).toInt) (e3 : v3 = (i32 (2 * v2)).toInt) (e4 : v4 = (i32 (v3 + 1)).toInt) (h0 : 0 ≤ z) (h1 : z ≤ 4000) : v2 = 19 + z ∧ v4 = 2 * (19 + z) + 1 := by
  rw [i32_to (by omega) (by omega)] at e1
  rw [i32_to (by omega) (by omega)] at e2
  rw [i32_to (by omega) (by omega)] at e3
  rw [i32_to (by omega) (by omega)] at e4
  omega
set_option maxRecDepth 20000 in
set_option maxHeartbeats 4000000 in
theorem c_reset_at_216 {X : jX} {d : Nat} {c0 c1 : jC} {G : Nat → Int} {A : Nat → Nat → Int} {T : jH} (hd : 1 ≤ d + 1) (hW : Wk G A) : ∀ (m : Nat) (L : jL) (Gx : Nat → Int) (Ax : Nat → Nat → Int) (l : Int), (12 - l).toNat = m → jGet L 0 = some (.ref 66) → jGet L 1 = some (.int (i32 l)) → Wk Gx Ax → Fr [110, 111, 113, 120, 121] [59, 60, 61, 62, 63, 64, 65, 66, 67, 68, 69, 70, 72, 73, 80, 81, 82, 83, 84, 85] G A Gx Ax → ((-2147483648 : Int) ≤ l ∧ l ≤ 2147483647) → (0 ≤ l) → (l ≤ 12) → (MMz Ax (6) (0)) → (RQz A Ax (6)) → (LZz Ax (l)) → wj X d jm368 (216, L, [], rV c0 c1 Gx Ax T) (fun o V_q => ∃ (G_q : Nat → Int) (A_q : Nat → Nat → Int) (im2 : Int) (it2 : Int) (om2 : Int), V_q = rV c0 c1 G_q A_q T ∧ o = .inl none ∧ Wk G_q A_q ∧ Fr [110, 111, 113, 120, 121] [59, 60, 61, 62, 63, 64, 65, 66, 67, 68, 69, 70, 72, 73, 80, 81, 82, 83, 84, 85] G A G_q A_q ∧ G_q 110 = im2 ∧ G_q 111 = it2 ∧ G_q 113 = om2 ∧ (im2 = 0) ∧ (it2 = 0) ∧ (om2 = 0) ∧ (RS A A_q) ∧ True) := by
  have hF0 : Fr [110, 111, 113, 120, 121] [59, 60, 61, 62, 63, 64, 65, 66, 67, 68, 69, 70, 72, 73, 80, 81, 82, 83, 84, 85] G A G A := Fr_rf
  intro m
  induction m using Nat.strongRecOn with
  | ind m ih216 =>
    intro L Gx Ax l hm gL_0 gL_1 hWx hFx rx_l iv_0 iv_1 iv_2 iv_3 iv_4
    have _q : True := trivial
    refine jx_ld (pc_q := 217) (l_q := L) (st_q := [.int (i32 (l))]) rfl (jl_iloadn gL_1) ?_
    refine jx_ar (pc_q := 219) (st_q := [.int (i32 (12)), .int (i32 (l))]) rfl rfl rfl rfl ?_
    refine jx_icmp_ge (pc_q := 222) (tg := 270) rfl rfl rfl (Int.le_trans (by decide : (-2147483648 : Int) ≤ -2147483648) rx_l.1) (Int.le_trans rx_l.2 (by decide : (2147483647 : Int) ≤ 2147483647)) (by decide) (by decide) (fun h1 => ?_) (fun h1 => ?_)
    · have _q := h1
      refine jx_ld (pc_q := 271) (l_q := L) (st_q := [.ref 66]) rfl (jl_aloadn gL_0) ?_
      refine jx_ar (pc_q := 272) (st_q := [.int (i32 (0)), .ref 66]) rfl rfl rfl rfl ?_
      refine jr_put (pc_q := 275) (i := 110) (z := 0) rfl rfl (by decide) rfl rfl rfl rfl rfl rfl ?_
      have hW2 : Wk (uG Gx 110 (0)) Ax := Wk_g hWx (show (-2147483648 : Int) ≤ 0 by omega) (show 0 ≤ (2147483647 : Int) by omega)
      have hF3 := Fr_g (z := 0) (i := 110) hFx (by decide)
      refine jx_ld (pc_q := 276) (l_q := L) (st_q := [.ref 66]) rfl (jl_aloadn gL_0) ?_
      refine jx_ar (pc_q := 277) (st_q := [.int (i32 (0)), .ref 66]) rfl rfl rfl rfl ?_
      refine jr_put (pc_q := 280) (i := 111) (z := 0) rfl rfl (by decide) rfl rfl rfl rfl rfl rfl ?_
      have hW4 : Wk (uG (uG Gx 110 (0)) 111 (0)) Ax := Wk_g hW2 (show (-2147483648 : Int) ≤ 0 by omega) (show 0 ≤ (2147483647 : Int) by omega)
      have hF5 := Fr_g (z := 0) (i := 111) hF3 (by decide)
      refine jx_ld (pc_q := 281) (l_q := L) (st_q := [.ref 66]) rfl (jl_aloadn gL_0) ?_
      refine jx_ar (pc_q := 282) (st_q := [.int (i32 (0)), .ref 66]) rfl rfl rfl rfl ?_
      refine jr_put (pc_q := 285) (i := 113) (z := 0) rfl rfl (by decide) rfl rfl rfl rfl rfl rfl ?_
      have hW6 : Wk (uG (uG (uG Gx 110 (0)) 111 (0)) 113 (0)) Ax := Wk_g hW4 (show (-2147483648 : Int) ≤ 0 by omega) (show 0 ≤ (2147483647 : Int) by omega)
      have hF7 := Fr_g (z := 0) (i := 113) hF5 (by decide)
      refine jx_ld (pc_q := 286) (l_q := L) (st_q := [.ref 66]) rfl (jl_aloadn gL_0) ?_
      refine jx_ar (pc_q := 287) (st_q := [.int (i32 (0)), .ref 66]) rfl rfl rfl rfl ?_
      refine jr_put (pc_q := 290) (i := 120) (z := 0) rfl rfl (by decide) rfl rfl rfl rfl rfl rfl ?_
      have hW8 : Wk (uG (uG (uG (uG Gx 110 (0)) 111 (0)) 113 (0)) 120 (0)) Ax := Wk_g hW6 (show (-2147483648 : Int) ≤ 0 by omega) (show 0 ≤ (2147483647 : Int) by omega)
      have hF9 := Fr_g (z := 0) (i := 120) hF7 (by decide)
      refine jx_ld (pc_q := 291) (l_q := L) (st_q := [.ref 66]) rfl (jl_aloadn gL_0) ?_
      refine jx_ar (pc_q := 292) (st_q := [.int (i32 (0)), .ref 66]) rfl rfl rfl rfl ?_
      refine jr_put (pc_q := 295) (i := 121) (z := 0) rfl rfl (by decide) rfl rfl rfl rfl rfl rfl ?_
      have hW10 : Wk (uG (uG (uG (uG (uG Gx 110 (0)) 111 (0)) 113 (0)) 120 (0)) 121 (0)) Ax := Wk_g hW8 (show (-2147483648 : Int) ≤ 0 by omega) (show 0 ≤ (2147483647 : Int) by omega)
      have hF11 := Fr_g (z := 0) (i := 121) hF9 (by decide)
      refine jx_rt (v := none) rfl rfl rfl rfl rfl rfl ?_
      exact ⟨_, _, 0, 0, 0, rfl, rfl, hW10, hF11, rfl, rfl, rfl, by omega, by omega, by omega, (RS_i iv_2 iv_3 iv_4 (by omega)), trivial⟩
    · have _q := h1
      refine jx_ld (pc_q := 223) (l_q := L) (st_q := [.ref 66]) rfl (jl_aloadn gL_0) ?_
      refine jr_get (pc_q := 226) (i := 114) (v := .ref 147) rfl rfl (by decide) rfl rfl ?_
      refine jx_ld (pc_q := 227) (l_q := L) (st_q := [.int (i32 (l)), .ref 147]) rfl (jl_iloadn gL_1) ?_
      refine jx_ar (pc_q := 228) (st_q := [.int (i32 (0)), .int (i32 (l)), .ref 147]) rfl rfl rfl rfl ?_
      refine jr_sb (pc_q := 229) (i := 80) (m := 12) (z := l) (y := 0) rfl (by decide) rfl (by decide) (by omega) (by omega) (by omega) rfl ?_
      have hW13 : Wk Gx (uA Ax 80 (l).toNat (0)) := Wk_a hWx (show (0 : Int) ≤ 0 by omega) (show 0 ≤ (1 : Int) by omega)
      have hF14 := Fr_a (z := 0) (k := 80) (n := (l).toNat) hFx (by decide)
      obtain ⟨A12, eA12⟩ : ∃ q, q = uA Ax 80 (l).toNat (0) := ⟨_, rfl⟩
      rw [← eA12]
      rw [← eA12] at hW13 hF14
      have q15 : A12 80 (l).toNat = 0 := by rw [eA12]; exact uA_eq
      refine jx_ld (pc_q := 230) (l_q := L) (st_q := [.ref 66]) rfl (jl_aloadn gL_0) ?_
      refine jr_get (pc_q := 233) (i := 115) (v := .ref 148) rfl rfl (by decide) rfl rfl ?_
      refine jx_ld (pc_q := 234) (l_q := L) (st_q := [.int (i32 (l)), .ref 148]) rfl (jl_iloadn gL_1) ?_
      refine jx_ar (pc_q := 235) (st_q := [.int (i32 (0)), .int (i32 (l)), .ref 148]) rfl rfl rfl rfl ?_
      refine jr_st (pc_q := 236) (i := 81) (m := 12) (z := l) (y := 0) rfl (by decide) rfl (by decide) (by omega) (by omega) rfl ?_
      have hW17 : Wk Gx (uA A12 81 (l).toNat (0)) := Wk_a hW13 (show (-2147483648 : Int) ≤ 0 by omega) (show 0 ≤ (2147483647 : Int) by omega)
      have hF18 := Fr_a (z := 0) (k := 81) (n := (l).toNat) hF14 (by decide)
      obtain ⟨A16, eA16⟩ : ∃ q, q = uA A12 81 (l).toNat (0) := ⟨_, rfl⟩
      rw [← eA16]
      rw [← eA16] at hW17 hF18
      have q19 : A16 81 (l).toNat = 0 := by rw [eA16]; exact uA_eq
      refine jx_ld (pc_q := 237) (l_q := L) (st_q := [.ref 66]) rfl (jl_aloadn gL_0) ?_
      refine jr_get (pc_q := 240) (i := 116) (v := .ref 149) rfl rfl (by decide) rfl rfl ?_
      refine jx_ld (pc_q := 241) (l_q := L) (st_q := [.int (i32 (l)), .ref 149]) rfl (jl_iloadn gL_1) ?_
      refine jx_ar (pc_q := 242) (st_q := [.int (i32 (0)), .int (i32 (l)), .ref 149]) rfl rfl rfl rfl ?_
      refine jr_st (pc_q := 243) (i := 82) (m := 12) (z := l) (y := 0) rfl (by decide) rfl (by decide) (by omega) (by omega) rfl ?_
      have hW21 : Wk Gx (uA A16 82 (l).toNat (0)) := Wk_a hW17 (show (-2147483648 : Int) ≤ 0 by omega) (show 0 ≤ (2147483647 : Int) by omega)
      have hF22 := Fr_a (z := 0) (k := 82) (n := (l).toNat) hF18 (by decide)
      obtain ⟨A20, eA20⟩ : ∃ q, q = uA A16 82 (l).toNat (0) := ⟨_, rfl⟩
      rw [← eA20]
      rw [← eA20] at hW21 hF22
      have q23 : A20 82 (l).toNat = 0 := by rw [eA20]; exact uA_eq
      refine jx_ld (pc_q := 244) (l_q := L) (st_q := [.ref 66]) rfl (jl_aloadn gL_0) ?_
      refine jr_get (pc_q := 247) (i := 117) (v := .ref 150) rfl rfl (by decide) rfl rfl ?_
      refine jx_ld (pc_q := 248) (l_q := L) (st_q := [.int (i32 (l)), .ref 150]) rfl (jl_iloadn gL_1) ?_
      refine jx_ar (pc_q := 249) (st_q := [.int (i32 (0)), .int (i32 (l)), .ref 150]) rfl rfl rfl rfl ?_
      refine jr_st (pc_q := 250) (i := 83) (m := 12) (z := l) (y := 0) rfl (by decide) rfl (by decide) (by omega) (by omega) rfl ?_
      have hW25 : Wk Gx (uA A20 83 (l).toNat (0)) := Wk_a hW21 (show (-2147483648 : Int) ≤ 0 by omega) (show 0 ≤ (2147483647 : Int) by omega)
      have hF26 := Fr_a (z := 0) (k := 83) (n := (l).toNat) hF22 (by decide)
      obtain ⟨A24, eA24⟩ : ∃ q, q = uA A20 83 (l).toNat (0) := ⟨_, rfl⟩
      rw [← eA24]
      rw [← eA24] at hW25 hF26
      have q27 : A24 83 (l).toNat = 0 := by rw [eA24]; exact uA_eq
      refine jx_ld (pc_q := 251) (l_q := L) (st_q := [.ref 66]) rfl (jl_aloadn gL_0) ?_
      refine jr_get (pc_q := 254) (i := 118) (v := .ref 151) rfl rfl (by decide) rfl rfl ?_
      refine jx_ld (pc_q := 255) (l_q := L) (st_q := [.int (i32 (l)), .ref 151]) rfl (jl_iloadn gL_1) ?_
      refine jx_ar (pc_q := 256) (st_q := [.int (i32 (0)), .int (i32 (l)), .ref 151]) rfl rfl rfl rfl ?_
      refine jr_sb (pc_q := 257) (i := 84) (m := 12) (z := l) (y := 0) rfl (by decide) rfl (by decide) (by omega) (by omega) (by omega) rfl ?_
      have hW29 : Wk Gx (uA A24 84 (l).toNat (0)) := Wk_a hW25 (show (0 : Int) ≤ 0 by omega) (show 0 ≤ (1 : Int) by omega)
      have hF30 := Fr_a (z := 0) (k := 84) (n := (l).toNat) hF26 (by decide)
      obtain ⟨A28, eA28⟩ : ∃ q, q = uA A24 84 (l).toNat (0) := ⟨_, rfl⟩
      rw [← eA28]
      rw [← eA28] at hW29 hF30
      have q31 : A28 84 (l).toNat = 0 := by rw [eA28]; exact uA_eq
      refine jx_ld (pc_q := 258) (l_q := L) (st_q := [.ref 66]) rfl (jl_aloadn gL_0) ?_
      refine jr_get (pc_q := 261) (i := 119) (v := .ref 152) rfl rfl (by decide) rfl rfl ?_
      refine jx_ld (pc_q := 262) (l_q := L) (st_q := [.int (i32 (l)), .ref 152]) rfl (jl_iloadn gL_1) ?_
      refine jx_ar (pc_q := 263) (st_q := [.int (i32 (0)), .int (i32 (l)), .ref 152]) rfl rfl rfl rfl ?_
      refine jr_sb (pc_q := 264) (i := 85) (m := 12) (z := l) (y := 0) rfl (by decide) rfl (by decide) (by omega) (by omega) (by omega) rfl ?_
      have hW33 : Wk Gx (uA A28 85 (l).toNat (0)) := Wk_a hW29 (show (0 : Int) ≤ 0 by omega) (show 0 ≤ (1 : Int) by omega)
      have hF34 := Fr_a (z := 0) (k := 85) (n := (l).toNat) hF30 (by decide)
      obtain ⟨A32, eA32⟩ : ∃ q, q = uA A28 85 (l).toNat (0) := ⟨_, rfl⟩
      rw [← eA32]
      rw [← eA32] at hW33 hF34
      have q35 : A32 85 (l).toNat = 0 := by rw [eA32]; exact uA_eq
      refine jx_inc (pc_q := 267) (l_q := jSto1 L 1 (.int (i32 ((l + (1)))))) (x := l) rfl gL_1 (by decide) rfl rfl ?_
      obtain ⟨L36, eL36⟩ : ∃ q, q = jSto1 L 1 (.int (i32 ((l + (1))))) := ⟨_, rfl⟩
      rw [← eL36]
      have gL36_0 : jGet L36 0 = some (.ref 66) := eL36 ▸ jg_ne (by decide) gL_0 rfl
      have gL36_1 : jGet L36 1 = some (.int (i32 ((l + (1))))) := eL36 ▸ jg_eq
      refine jx_go (tg := 216) rfl rfl ?_
      exact ih216 _ (by omega) L36 Gx A32 ((l + (1))) rfl gL36_0 gL36_1 hW33 hF34 (by omega) (by omega) (by omega) ((MM_o iv_2 (by rw [eA32, uA_ne (by decide), eA28, uA_ne (by decide), eA24, uA_ne (by decide), eA20, uA_ne (by decide), eA16, uA_ne (by decide), eA12, uA_ne (by decide)]))) ((RQ_o iv_3 (fun k k1 k2 => by rw [eA32, uA_ne (by omega), eA28, uA_ne (by omega), eA24, uA_ne (by omega), eA20, uA_ne (by omega), eA16, uA_ne (by omega), eA12, uA_ne (by omega)]))) ((LZ_s iv_4 (by omega) eA12 eA16 eA20 eA24 eA28 eA32))
set_option maxRecDepth 20000 in
set_option maxHeartbeats 4000000 in
theorem c_reset_at_24 {X : jX} {d : Nat} {c0 c1 : jC} {G : Nat → Int} {A : Nat → Nat → Int} {T : jH} (hd : 1 ≤ d + 1) (hW : Wk G A) : ∀ (m : Nat) (L : jL) (Gx : Nat → Int) (Ax : Nat → Nat → Int) (p : Int), (6 - p).toNat = m → jGet L 0 = some (.ref 66) → jGet L 1 = some (.int (i32 p)) → Wk Gx Ax → Fr [110, 111, 113, 120, 121] [59, 60, 61, 62, 63, 64, 65, 66, 67, 68, 69, 70, 72, 73, 80, 81, 82, 83, 84, 85] G A Gx Ax → ((-2147483648 : Int) ≤ p ∧ p ≤ 2147483647) → (0 ≤ p) → (p ≤ 6) → (MMz Ax (p) (0)) → (RQz A Ax (p)) → wj X d jm368 (24, L, [], rV c0 c1 Gx Ax T) (fun o V_q => ∃ (G_q : Nat → Int) (A_q : Nat → Nat → Int) (im2 : Int) (it2 : Int) (om2 : Int), V_q = rV c0 c1 G_q A_q T ∧ o = .inl none ∧ Wk G_q A_q ∧ Fr [110, 111, 113, 120, 121] [59, 60, 61, 62, 63, 64, 65, 66, 67, 68, 69, 70, 72, 73, 80, 81, 82, 83, 84, 85] G A G_q A_q ∧ G_q 110 = im2 ∧ G_q 111 = it2 ∧ G_q 113 = om2 ∧ (im2 = 0) ∧ (it2 = 0) ∧ (om2 = 0) ∧ (RS A A_q) ∧ True) := by
  have hF0 : Fr [110, 111, 113, 120, 121] [59, 60, 61, 62, 63, 64, 65, 66, 67, 68, 69, 70, 72, 73, 80, 81, 82, 83, 84, 85] G A G A := Fr_rf
  intro m
  induction m using Nat.strongRecOn with
  | ind m ih24 =>
    intro L Gx Ax p hm gL_0 gL_1 hWx hFx rx_p iv_0 iv_1 iv_2 iv_3
    have _q : True := trivial
    have at_32 : ∀ (m : Nat) (L : jL) (Gx : Nat → Int) (Ax : Nat → Nat → Int) (a : Int), (16 - a).toNat = m → jGet L 0 = some (.ref 66) → jGet L 1 = some (.int (i32 (p))) → jGet L 2 = some (.int (i32 a)) → Wk Gx Ax → Fr [110, 111, 113, 120, 121] [59, 60, 61, 62, 63, 64, 65, 66, 67, 68, 69, 70, 72, 73, 80, 81, 82, 83, 84, 85] G A Gx Ax → ((-2147483648 : Int) ≤ a ∧ a ≤ 2147483647) → (p ≤ 5) → (0 ≤ a) → (a ≤ 16) → (MMz Ax (p) (a)) → (RQz A Ax (p)) → wj X d jm368 (32, L, [], rV c0 c1 Gx Ax T) (fun o V_q => ∃ (G_q : Nat → Int) (A_q : Nat → Nat → Int) (im2 : Int) (it2 : Int) (om2 : Int), V_q = rV c0 c1 G_q A_q T ∧ o = .inl none ∧ Wk G_q A_q ∧ Fr [110, 111, 113, 120, 121] [59, 60, 61, 62, 63, 64, 65, 66, 67, 68, 69, 70, 72, 73, 80, 81, 82, 83, 84, 85] G A G_q A_q ∧ G_q 110 = im2 ∧ G_q 111 = it2 ∧ G_q 113 = om2 ∧ (im2 = 0) ∧ (it2 = 0) ∧ (om2 = 0) ∧ (RS A A_q) ∧ True) := by
      intro m
      induction m using Nat.strongRecOn with
      | ind m ih32 =>
        intro L Gx Ax a hm gL_0 gL_1 gL_2 hWx hFx rx_a iv_0 iv_1 iv_2 iv_3 iv_4
        have _q : True := trivial
        refine jx_ld (pc_q := 33) (l_q := L) (st_q := [.int (i32 (a))]) rfl (jl_iloadn gL_2) ?_
        refine jx_ar (pc_q := 35) (st_q := [.int (i32 (16)), .int (i32 (a))]) rfl rfl rfl rfl ?_
        refine jx_icmp_ge (pc_q := 38) (tg := 67) rfl rfl rfl (Int.le_trans (by decide : (-2147483648 : Int) ≤ -2147483648) rx_a.1) (Int.le_trans rx_a.2 (by decide : (2147483647 : Int) ≤ 2147483647)) (by decide) (by decide) (fun h37 => ?_) (fun h37 => ?_)
        · have _q := h37
          refine jx_ld (pc_q := 68) (l_q := L) (st_q := [.ref 66]) rfl (jl_aloadn gL_0) ?_
          refine jr_get (pc_q := 71) (i := 103) (v := .ref 139) rfl rfl (by decide) rfl rfl ?_
          refine jx_ar (pc_q := 72) (st_q := [.int (i32 (2)), .ref 139]) rfl rfl rfl rfl ?_
          refine jx_ld (pc_q := 73) (l_q := L) (st_q := [.int (i32 (p)), .int (i32 (2)), .ref 139]) rfl (jl_iloadn gL_1) ?_
          refine jx_mul (pc_q := 74) rfl rfl ?_
          refine jx_ar (pc_q := 75) (st_q := [.int (i32 (0)), .int (i32 ((2 * p))), .ref 139]) rfl rfl rfl rfl ?_
          refine jr_st (pc_q := 76) (i := 72) (m := 12) (z := (2 * p)) (y := 0) rfl (by decide) rfl (by decide) (by omega) (by omega) rfl ?_
          have hW39 : Wk Gx (uA Ax 72 ((2 * p)).toNat (0)) := Wk_a hWx (show (-2147483648 : Int) ≤ 0 by omega) (show 0 ≤ (2147483647 : Int) by omega)
          have hF40 := Fr_a (z := 0) (k := 72) (n := ((2 * p)).toNat) hFx (by decide)
          obtain ⟨A38, eA38⟩ : ∃ q, q = uA Ax 72 ((2 * p)).toNat (0) := ⟨_, rfl⟩
          rw [← eA38]
          rw [← eA38] at hW39 hF40
          have q41 : A38 72 ((2 * p)).toNat = 0 := by rw [eA38]; exact uA_eq
          refine jx_ld (pc_q := 77) (l_q := L) (st_q := [.ref 66]) rfl (jl_aloadn gL_0) ?_
          refine jr_get (pc_q := 80) (i := 103) (v := .ref 139) rfl rfl (by decide) rfl rfl ?_
          refine jx_ar (pc_q := 81) (st_q := [.int (i32 (2)), .ref 139]) rfl rfl rfl rfl ?_
          refine jx_ld (pc_q := 82) (l_q := L) (st_q := [.int (i32 (p)), .int (i32 (2)), .ref 139]) rfl (jl_iloadn gL_1) ?_
          refine jx_mul (pc_q := 83) rfl rfl ?_
          refine jx_ar (pc_q := 84) (st_q := [.int (i32 (1)), .int (i32 ((2 * p))), .ref 139]) rfl rfl rfl rfl ?_
          refine jx_add (pc_q := 85) rfl rfl ?_
          refine jx_ar (pc_q := 86) (st_q := [.int (i32 (0)), .int (i32 (((2 * p) + 1))), .ref 139]) rfl rfl rfl rfl ?_
          refine jr_st (pc_q := 87) (i := 72) (m := 12) (z := ((2 * p) + 1)) (y := 0) rfl (by decide) rfl (by decide) (by omega) (by omega) rfl ?_
          have hW43 : Wk Gx (uA A38 72 (((2 * p) + 1)).toNat (0)) := Wk_a hW39 (show (-2147483648 : Int) ≤ 0 by omega) (show 0 ≤ (2147483647 : Int) by omega)
          have hF44 := Fr_a (z := 0) (k := 72) (n := (((2 * p) + 1)).toNat) hF40 (by decide)
          obtain ⟨A42, eA42⟩ : ∃ q, q = uA A38 72 (((2 * p) + 1)).toNat (0) := ⟨_, rfl⟩
          rw [← eA42]
          rw [← eA42] at hW43 hF44
          have q45 : A42 72 (((2 * p) + 1)).toNat = 0 := by rw [eA42]; exact uA_eq
          refine jx_ld (pc_q := 88) (l_q := L) (st_q := [.ref 66]) rfl (jl_aloadn gL_0) ?_
          refine jr_get (pc_q := 91) (i := 104) (v := .ref 140) rfl rfl (by decide) rfl rfl ?_
          refine jx_ld (pc_q := 92) (l_q := L) (st_q := [.int (i32 (p)), .ref 140]) rfl (jl_iloadn gL_1) ?_
          refine jx_ar (pc_q := 93) (st_q := [.int (i32 (0)), .int (i32 (p)), .ref 140]) rfl rfl rfl rfl ?_
          refine jr_sb (pc_q := 94) (i := 73) (m := 6) (z := p) (y := 0) rfl (by decide) rfl (by decide) (by omega) (by omega) (by omega) rfl ?_
          have hW47 : Wk Gx (uA A42 73 (p).toNat (0)) := Wk_a hW43 (show (0 : Int) ≤ 0 by omega) (show 0 ≤ (1 : Int) by omega)
          have hF48 := Fr_a (z := 0) (k := 73) (n := (p).toNat) hF44 (by decide)
          obtain ⟨A46, eA46⟩ : ∃ q, q = uA A42 73 (p).toNat (0) := ⟨_, rfl⟩
          rw [← eA46]
          rw [← eA46] at hW47 hF48
          have q49 : A46 73 (p).toNat = 0 := by rw [eA46]; exact uA_eq
          refine jx_ld (pc_q := 95) (l_q := L) (st_q := [.ref 66]) rfl (jl_aloadn gL_0) ?_
          refine jr_get (pc_q := 98) (i := 98) (v := .ref 134) rfl rfl (by decide) rfl rfl ?_
          refine jx_ld (pc_q := 99) (l_q := L) (st_q := [.int (i32 (p)), .ref 134]) rfl (jl_iloadn gL_1) ?_
          refine jx_ar (pc_q := 100) (st_q := [.int (i32 (0)), .int (i32 (p)), .ref 134]) rfl rfl rfl rfl ?_
          refine jr_sb (pc_q := 101) (i := 67) (m := 6) (z := p) (y := 0) rfl (by decide) rfl (by decide) (by omega) (by omega) (by omega) rfl ?_
          have hW51 : Wk Gx (uA A46 67 (p).toNat (0)) := Wk_a hW47 (show (0 : Int) ≤ 0 by omega) (show 0 ≤ (1 : Int) by omega)
          have hF52 := Fr_a (z := 0) (k := 67) (n := (p).toNat) hF48 (by decide)
          obtain ⟨A50, eA50⟩ : ∃ q, q = uA A46 67 (p).toNat (0) := ⟨_, rfl⟩
          rw [← eA50]
          rw [← eA50] at hW51 hF52
          have q53 : A50 67 (p).toNat = 0 := by rw [eA50]; exact uA_eq
          refine jx_ld (pc_q := 102) (l_q := L) (st_q := [.ref 66]) rfl (jl_aloadn gL_0) ?_
          refine jr_get (pc_q := 105) (i := 99) (v := .ref 135) rfl rfl (by decide) rfl rfl ?_
          refine jx_ld (pc_q := 106) (l_q := L) (st_q := [.int (i32 (p)), .ref 135]) rfl (jl_iloadn gL_1) ?_
          refine jx_ar (pc_q := 107) (st_q := [.int (i32 (0)), .int (i32 (p)), .ref 135]) rfl rfl rfl rfl ?_
          refine jr_sb (pc_q := 108) (i := 68) (m := 6) (z := p) (y := 0) rfl (by decide) rfl (by decide) (by omega) (by omega) (by omega) rfl ?_
          have hW55 : Wk Gx (uA A50 68 (p).toNat (0)) := Wk_a hW51 (show (0 : Int) ≤ 0 by omega) (show 0 ≤ (1 : Int) by omega)
          have hF56 := Fr_a (z := 0) (k := 68) (n := (p).toNat) hF52 (by decide)
          obtain ⟨A54, eA54⟩ : ∃ q, q = uA A50 68 (p).toNat (0) := ⟨_, rfl⟩
          rw [← eA54]
          rw [← eA54] at hW55 hF56
          have q57 : A54 68 (p).toNat = 0 := by rw [eA54]; exact uA_eq
          refine jx_ld (pc_q := 109) (l_q := L) (st_q := [.ref 66]) rfl (jl_aloadn gL_0) ?_
          refine jr_get (pc_q := 112) (i := 100) (v := .ref 136) rfl rfl (by decide) rfl rfl ?_
          refine jx_ld (pc_q := 113) (l_q := L) (st_q := [.int (i32 (p)), .ref 136]) rfl (jl_iloadn gL_1) ?_
          refine jx_ar (pc_q := 114) (st_q := [.int (i32 (0)), .int (i32 (p)), .ref 136]) rfl rfl rfl rfl ?_
          refine jr_st (pc_q := 115) (i := 69) (m := 6) (z := p) (y := 0) rfl (by decide) rfl (by decide) (by omega) (by omega) rfl ?_
          have hW59 : Wk Gx (uA A54 69 (p).toNat (0)) := Wk_a hW55 (show (-2147483648 : Int) ≤ 0 by omega) (show 0 ≤ (2147483647 : Int) by omega)
          have hF60 := Fr_a (z := 0) (k := 69) (n := (p).toNat) hF56 (by decide)
          obtain ⟨A58, eA58⟩ : ∃ q, q = uA A54 69 (p).toNat (0) := ⟨_, rfl⟩
          rw [← eA58]
          rw [← eA58] at hW59 hF60
          have q61 : A58 69 (p).toNat = 0 := by rw [eA58]; exact uA_eq
          refine jx_ld (pc_q := 116) (l_q := L) (st_q := [.ref 66]) rfl (jl_aloadn gL_0) ?_
          refine jr_get (pc_q := 119) (i := 101) (v := .ref 137) rfl rfl (by decide) rfl rfl ?_
          refine jx_ld (pc_q := 120) (l_q := L) (st_q := [.int (i32 (p)), .ref 137]) rfl (jl_iloadn gL_1) ?_
          refine jx_ar (pc_q := 121) (st_q := [.int (i32 (0)), .int (i32 (p)), .ref 137]) rfl rfl rfl rfl ?_
          refine jr_st (pc_q := 122) (i := 70) (m := 6) (z := p) (y := 0) rfl (by decide) rfl (by decide) (by omega) (by omega) rfl ?_
          have hW63 : Wk Gx (uA A58 70 (p).toNat (0)) := Wk_a hW59 (show (-2147483648 : Int) ≤ 0 by omega) (show 0 ≤ (2147483647 : Int) by omega)
          have hF64 := Fr_a (z := 0) (k := 70) (n := (p).toNat) hF60 (by decide)
          obtain ⟨A62, eA62⟩ : ∃ q, q = uA A58 70 (p).toNat (0) := ⟨_, rfl⟩
          rw [← eA62]
          rw [← eA62] at hW63 hF64
          have q65 : A62 70 (p).toNat = 0 := by rw [eA62]; exact uA_eq
          refine jx_ld (pc_q := 123) (l_q := L) (st_q := [.ref 66]) rfl (jl_aloadn gL_0) ?_
          refine jr_get (pc_q := 126) (i := 91) (v := .ref 127) rfl rfl (by decide) rfl rfl ?_
          refine jx_ld (pc_q := 127) (l_q := L) (st_q := [.int (i32 (p)), .ref 127]) rfl (jl_iloadn gL_1) ?_
          refine jx_ar (pc_q := 128) (st_q := [.int (i32 (0)), .int (i32 (p)), .ref 127]) rfl rfl rfl rfl ?_
          refine jr_st (pc_q := 129) (i := 60) (m := 6) (z := p) (y := 0) rfl (by decide) rfl (by decide) (by omega) (by omega) rfl ?_
          have hW67 : Wk Gx (uA A62 60 (p).toNat (0)) := Wk_a hW63 (show (-2147483648 : Int) ≤ 0 by omega) (show 0 ≤ (2147483647 : Int) by omega)
          have hF68 := Fr_a (z := 0) (k := 60) (n := (p).toNat) hF64 (by decide)
          obtain ⟨A66, eA66⟩ : ∃ q, q = uA A62 60 (p).toNat (0) := ⟨_, rfl⟩
          rw [← eA66]
          rw [← eA66] at hW67 hF68
          have q69 : A66 60 (p).toNat = 0 := by rw [eA66]; exact uA_eq
          refine jx_ld (pc_q := 130) (l_q := L) (st_q := [.ref 66]) rfl (jl_aloadn gL_0) ?_
          refine jr_get (pc_q := 133) (i := 92) (v := .ref 128) rfl rfl (by decide) rfl rfl ?_
          refine jx_ld (pc_q := 134) (l_q := L) (st_q := [.int (i32 (p)), .ref 128]) rfl (jl_iloadn gL_1) ?_
          refine jx_ar (pc_q := 135) (st_q := [.int (i32 (0)), .int (i32 (p)), .ref 128]) rfl rfl rfl rfl ?_
          refine jr_st (pc_q := 136) (i := 61) (m := 6) (z := p) (y := 0) rfl (by decide) rfl (by decide) (by omega) (by omega) rfl ?_
          have hW71 : Wk Gx (uA A66 61 (p).toNat (0)) := Wk_a hW67 (show (-2147483648 : Int) ≤ 0 by omega) (show 0 ≤ (2147483647 : Int) by omega)
          have hF72 := Fr_a (z := 0) (k := 61) (n := (p).toNat) hF68 (by decide)
          obtain ⟨A70, eA70⟩ : ∃ q, q = uA A66 61 (p).toNat (0) := ⟨_, rfl⟩
          rw [← eA70]
          rw [← eA70] at hW71 hF72
          have q73 : A70 61 (p).toNat = 0 := by rw [eA70]; exact uA_eq
          refine jx_ld (pc_q := 137) (l_q := L) (st_q := [.ref 66]) rfl (jl_aloadn gL_0) ?_
          refine jr_get (pc_q := 140) (i := 93) (v := .ref 129) rfl rfl (by decide) rfl rfl ?_
          refine jx_ld (pc_q := 141) (l_q := L) (st_q := [.int (i32 (p)), .ref 129]) rfl (jl_iloadn gL_1) ?_
          refine jx_ar (pc_q := 142) (st_q := [.int (i32 (0)), .int (i32 (p)), .ref 129]) rfl rfl rfl rfl ?_
          refine jr_st (pc_q := 143) (i := 62) (m := 6) (z := p) (y := 0) rfl (by decide) rfl (by decide) (by omega) (by omega) rfl ?_
          have hW75 : Wk Gx (uA A70 62 (p).toNat (0)) := Wk_a hW71 (show (-2147483648 : Int) ≤ 0 by omega) (show 0 ≤ (2147483647 : Int) by omega)
          have hF76 := Fr_a (z := 0) (k := 62) (n := (p).toNat) hF72 (by decide)
          obtain ⟨A74, eA74⟩ : ∃ q, q = uA A70 62 (p).toNat (0) := ⟨_, rfl⟩
          rw [← eA74]
          rw [← eA74] at hW75 hF76
          have q77 : A74 62 (p).toNat = 0 := by rw [eA74]; exact uA_eq
          refine jx_ld (pc_q := 144) (l_q := L) (st_q := [.ref 66]) rfl (jl_aloadn gL_0) ?_
          refine jr_get (pc_q := 147) (i := 96) (v := .ref 132) rfl rfl (by decide) rfl rfl ?_
          refine jx_ld (pc_q := 148) (l_q := L) (st_q := [.int (i32 (p)), .ref 132]) rfl (jl_iloadn gL_1) ?_
          refine jx_ar (pc_q := 149) (st_q := [.int (i32 (0)), .int (i32 (p)), .ref 132]) rfl rfl rfl rfl ?_
          refine jr_st (pc_q := 150) (i := 65) (m := 6) (z := p) (y := 0) rfl (by decide) rfl (by decide) (by omega) (by omega) rfl ?_
          have hW79 : Wk Gx (uA A74 65 (p).toNat (0)) := Wk_a hW75 (show (-2147483648 : Int) ≤ 0 by omega) (show 0 ≤ (2147483647 : Int) by omega)
          have hF80 := Fr_a (z := 0) (k := 65) (n := (p).toNat) hF76 (by decide)
          obtain ⟨A78, eA78⟩ : ∃ q, q = uA A74 65 (p).toNat (0) := ⟨_, rfl⟩
          rw [← eA78]
          rw [← eA78] at hW79 hF80
          have q81 : A78 65 (p).toNat = 0 := by rw [eA78]; exact uA_eq
          refine jx_ld (pc_q := 151) (l_q := L) (st_q := [.ref 66]) rfl (jl_aloadn gL_0) ?_
          refine jr_get (pc_q := 154) (i := 94) (v := .ref 130) rfl rfl (by decide) rfl rfl ?_
          refine jx_ld (pc_q := 155) (l_q := L) (st_q := [.int (i32 (p)), .ref 130]) rfl (jl_iloadn gL_1) ?_
          refine jx_ld (pc_q := 156) (l_q := L) (st_q := [.ref 66, .int (i32 (p)), .ref 130]) rfl (jl_aloadn gL_0) ?_
          refine jr_get (pc_q := 159) (i := 85) (v := .ref 122) rfl rfl (by decide) rfl rfl ?_
          refine jx_ld (pc_q := 160) (l_q := L) (st_q := [.int (i32 (p)), .ref 122, .int (i32 (p)), .ref 130]) rfl (jl_iloadn gL_1) ?_
          have b82 : (-2147483648 : Int) ≤ A 55 (p).toNat ∧ A 55 (p).toNat ≤ 2147483647 := hW.2 55 _
          refine jr_ldv (pc_q := 161) (i := 55) (m := 6) (z := p) (y := A 55 (p).toNat) rfl (by decide) rfl (by decide) (by omega) (by omega) rfl (show A78 55 (p).toNat = A 55 (p).toNat from (congrFun (((congrFun eA78 55).trans (uA_ne (by decide))).trans (((congrFun eA74 55).trans (uA_ne (by decide))).trans (((congrFun eA70 55).trans (uA_ne (by decide))).trans (((congrFun eA66 55).trans (uA_ne (by decide))).trans (((congrFun eA62 55).trans (uA_ne (by decide))).trans (((congrFun eA58 55).trans (uA_ne (by decide))).trans (((congrFun eA54 55).trans (uA_ne (by decide))).trans (((congrFun eA50 55).trans (uA_ne (by decide))).trans (((congrFun eA46 55).trans (uA_ne (by decide))).trans (((congrFun eA42 55).trans (uA_ne (by decide))).trans (((congrFun eA38 55).trans (uA_ne (by decide))).trans (hFx.2 55 rfl)))))))))))) _)) ?_
          refine jr_st (pc_q := 162) (i := 63) (m := 6) (z := p) (y := A 55 (p).toNat) rfl (by decide) rfl (by decide) (by omega) (by omega) rfl ?_
          have hW84 : Wk Gx (uA A78 63 (p).toNat (A 55 (p).toNat)) := Wk_a hW79 (show (-2147483648 : Int) ≤ A 55 (p).toNat by omega) (show A 55 (p).toNat ≤ (2147483647 : Int) by omega)
          have hF85 := Fr_a (z := A 55 (p).toNat) (k := 63) (n := (p).toNat) hF80 (by decide)
          obtain ⟨A83, eA83⟩ : ∃ q, q = uA A78 63 (p).toNat (A 55 (p).toNat) := ⟨_, rfl⟩
          rw [← eA83]
          rw [← eA83] at hW84 hF85
          have q86 : A83 63 (p).toNat = A 55 (p).toNat := by rw [eA83]; exact uA_eq
          refine jx_ld (pc_q := 163) (l_q := L) (st_q := [.ref 66]) rfl (jl_aloadn gL_0) ?_
          refine jr_get (pc_q := 166) (i := 95) (v := .ref 131) rfl rfl (by decide) rfl rfl ?_
          refine jx_ld (pc_q := 167) (l_q := L) (st_q := [.int (i32 (p)), .ref 131]) rfl (jl_iloadn gL_1) ?_
          refine jx_ar (pc_q := 169) (st_q := [.int (i32 (16)), .int (i32 (p)), .ref 131]) rfl rfl rfl rfl ?_
          refine jx_ld (pc_q := 170) (l_q := L) (st_q := [.ref 66, .int (i32 (16)), .int (i32 (p)), .ref 131]) rfl (jl_aloadn gL_0) ?_
          refine jr_get (pc_q := 173) (i := 57) (v := .ref 105) rfl rfl (by decide) rfl rfl ?_
          refine jx_ld (pc_q := 174) (l_q := L) (st_q := [.int (i32 (p)), .ref 105, .int (i32 (16)), .int (i32 (p)), .ref 131]) rfl (jl_iloadn gL_1) ?_
          have b87 : (-2147483648 : Int) ≤ A 38 (p).toNat ∧ A 38 (p).toNat ≤ 2147483647 := hW.2 38 _
          refine jr_ldv (pc_q := 175) (i := 38) (m := 6) (z := p) (y := A 38 (p).toNat) rfl (by decide) rfl (by decide) (by omega) (by omega) rfl (show A83 38 (p).toNat = A 38 (p).toNat from (congrFun (((congrFun eA83 38).trans (uA_ne (by decide))).trans (((congrFun eA78 38).trans (uA_ne (by decide))).trans (((congrFun eA74 38).trans (uA_ne (by decide))).trans (((congrFun eA70 38).trans (uA_ne (by decide))).trans (((congrFun eA66 38).trans (uA_ne (by decide))).trans (((congrFun eA62 38).trans (uA_ne (by decide))).trans (((congrFun eA58 38).trans (uA_ne (by decide))).trans (((congrFun eA54 38).trans (uA_ne (by decide))).trans (((congrFun eA50 38).trans (uA_ne (by decide))).trans (((congrFun eA46 38).trans (uA_ne (by decide))).trans (((congrFun eA42 38).trans (uA_ne (by decide))).trans (((congrFun eA38 38).trans (uA_ne (by decide))).trans (hFx.2 38 rfl))))))))))))) _)) ?_
          refine jx_add (pc_q := 176) rfl rfl ?_
          obtain ⟨v88, ev88⟩ : ∃ z, z = (i32 (16 + A 38 (p).toNat)).toInt := ⟨_, rfl⟩; have fv88 : i32 (16 + A 38 (p).toNat) = i32 v88 := (by rw [ev88]; exact (i32_of _).symm); rw [fv88]; have rv88 : (-2147483648 : Int) ≤ v88 ∧ v88 ≤ 2147483647 := ev88 ▸ i32_rg _
          refine jx_ar (pc_q := 177) (st_q := [.int (i32 (3)), .int (i32 (v88)), .int (i32 (p)), .ref 131]) rfl rfl rfl rfl ?_
          refine jx_add (pc_q := 178) rfl rfl ?_
          obtain ⟨v89, ev89⟩ : ∃ z, z = (i32 (v88 + 3)).toInt := ⟨_, rfl⟩; have fv89 : i32 (v88 + 3) = i32 v89 := (by rw [ev89]; exact (i32_of _).symm); rw [fv89]; have rv89 : (-2147483648 : Int) ≤ v89 ∧ v89 ≤ 2147483647 := ev89 ▸ i32_rg _
          refine jr_st (pc_q := 179) (i := 64) (m := 6) (z := p) (y := v89) rfl (by decide) rfl (by decide) (by omega) (by omega) rfl ?_
          have hW91 : Wk Gx (uA A83 64 (p).toNat (v89)) := Wk_a hW84 (show (-2147483648 : Int) ≤ v89 by omega) (show v89 ≤ (2147483647 : Int) by omega)
          have hF92 := Fr_a (z := v89) (k := 64) (n := (p).toNat) hF85 (by decide)
          obtain ⟨A90, eA90⟩ : ∃ q, q = uA A83 64 (p).toNat (v89) := ⟨_, rfl⟩
          rw [← eA90]
          rw [← eA90] at hW91 hF92
          have q93 : A90 64 (p).toNat = v89 := by rw [eA90]; exact uA_eq
          refine jx_ld (pc_q := 180) (l_q := L) (st_q := [.ref 66]) rfl (jl_aloadn gL_0) ?_
          refine jr_get (pc_q := 183) (i := 97) (v := .ref 133) rfl rfl (by decide) rfl rfl ?_
          refine jx_ld (pc_q := 184) (l_q := L) (st_q := [.int (i32 (p)), .ref 133]) rfl (jl_iloadn gL_1) ?_
          refine jx_ld (pc_q := 185) (l_q := L) (st_q := [.ref 66, .int (i32 (p)), .ref 133]) rfl (jl_aloadn gL_0) ?_
          refine jr_get (pc_q := 188) (i := 55) (v := .ref 103) rfl rfl (by decide) rfl rfl ?_
          refine jx_ld (pc_q := 189) (l_q := L) (st_q := [.int (i32 (p)), .ref 103, .int (i32 (p)), .ref 133]) rfl (jl_iloadn gL_1) ?_
          have b94 : (-2147483648 : Int) ≤ A 36 (p).toNat ∧ A 36 (p).toNat ≤ 2147483647 := hW.2 36 _
          refine jr_ldv (pc_q := 190) (i := 36) (m := 6) (z := p) (y := A 36 (p).toNat) rfl (by decide) rfl (by decide) (by omega) (by omega) rfl (show A90 36 (p).toNat = A 36 (p).toNat from (congrFun (((congrFun eA90 36).trans (uA_ne (by decide))).trans (((congrFun eA83 36).trans (uA_ne (by decide))).trans (((congrFun eA78 36).trans (uA_ne (by decide))).trans (((congrFun eA74 36).trans (uA_ne (by decide))).trans (((congrFun eA70 36).trans (uA_ne (by decide))).trans (((congrFun eA66 36).trans (uA_ne (by decide))).trans (((congrFun eA62 36).trans (uA_ne (by decide))).trans (((congrFun eA58 36).trans (uA_ne (by decide))).trans (((congrFun eA54 36).trans (uA_ne (by decide))).trans (((congrFun eA50 36).trans (uA_ne (by decide))).trans (((congrFun eA46 36).trans (uA_ne (by decide))).trans (((congrFun eA42 36).trans (uA_ne (by decide))).trans (((congrFun eA38 36).trans (uA_ne (by decide))).trans (hFx.2 36 rfl)))))))))))))) _)) ?_
          refine jx_if_le (pc_q := 193) (tg := 206) rfl rfl rfl (Int.le_trans (by decide : (-2147483648 : Int) ≤ -2147483648) b94.1) (Int.le_trans b94.2 (by decide : (2147483647 : Int) ≤ 2147483647)) (fun h95 => ?_) (fun h95 => ?_)
          · have _q := h95
            refine jx_ar (pc_q := 207) (st_q := [.int (i32 (-1)), .int (i32 (p)), .ref 133]) rfl rfl rfl rfl ?_
            refine jr_st (pc_q := 208) (i := 66) (m := 6) (z := p) (y := -1) rfl (by decide) rfl (by decide) (by omega) (by omega) rfl ?_
            have hW97 : Wk Gx (uA A90 66 (p).toNat (-1)) := Wk_a hW91 (show (-2147483648 : Int) ≤ -1 by omega) (show -1 ≤ (2147483647 : Int) by omega)
            have hF98 := Fr_a (z := -1) (k := 66) (n := (p).toNat) hF92 (by decide)
            obtain ⟨A96, eA96⟩ : ∃ q, q = uA A90 66 (p).toNat (-1) := ⟨_, rfl⟩
            rw [← eA96]
            rw [← eA96] at hW97 hF98
            have q99 : A96 66 (p).toNat = -1 := by rw [eA96]; exact uA_eq
            refine jx_inc (pc_q := 211) (l_q := jSto1 L 1 (.int (i32 ((p + (1)))))) (x := p) rfl gL_1 (by decide) rfl rfl ?_
            obtain ⟨L100, eL100⟩ : ∃ q, q = jSto1 L 1 (.int (i32 ((p + (1))))) := ⟨_, rfl⟩
            rw [← eL100]
            have gL100_0 : jGet L100 0 = some (.ref 66) := eL100 ▸ jg_ne (by decide) gL_0 rfl
            have gL100_2 : jGet L100 2 = some (.int (i32 (a))) := eL100 ▸ jg_ne (by decide) gL_2 rfl
            have gL100_1 : jGet L100 1 = some (.int (i32 ((p + (1))))) := eL100 ▸ jg_eq
            refine jx_go (tg := 24) rfl rfl ?_
            exact ih24 _ (by omega) L100 Gx A96 ((p + (1))) rfl gL100_0 gL100_1 hW97 hF98 (by omega) (by omega) (by omega) ((MM_n (MM_o iv_3 (by rw [eA96, uA_ne (by decide), eA90, uA_ne (by decide), eA83, uA_ne (by decide), eA78, uA_ne (by decide), eA74, uA_ne (by decide), eA70, uA_ne (by decide), eA66, uA_ne (by decide), eA62, uA_ne (by decide), eA58, uA_ne (by decide), eA54, uA_ne (by decide), eA50, uA_ne (by decide), eA46, uA_ne (by decide), eA42, uA_ne (by decide), eA38, uA_ne (by decide)])) (by omega))) ((RQ_s iv_4 (by omega) eA38 eA42 eA46 eA50 eA54 eA58 eA62 eA66 eA70 eA74 eA78 eA83 eA90 eA96 (fun h1 h2 h3 => absurd h1 (by omega)) (fun _ => rfl)))
          · have _q := h95
            refine jx_ar (pc_q := 194) (st_q := [.int (i32 (2)), .int (i32 (p)), .ref 133]) rfl rfl rfl rfl ?_
            refine jx_ld (pc_q := 195) (l_q := L) (st_q := [.ref 66, .int (i32 (2)), .int (i32 (p)), .ref 133]) rfl (jl_aloadn gL_0) ?_
            refine jr_get (pc_q := 198) (i := 95) (v := .ref 131) rfl rfl (by decide) rfl rfl ?_
            refine jx_ld (pc_q := 199) (l_q := L) (st_q := [.int (i32 (p)), .ref 131, .int (i32 (2)), .int (i32 (p)), .ref 133]) rfl (jl_iloadn gL_1) ?_
            refine jr_ldv (pc_q := 200) (i := 64) (m := 6) (z := p) (y := v89) rfl (by decide) rfl (by decide) (by omega) (by omega) rfl (show A90 64 (p).toNat = v89 from (q93)) ?_
            refine jx_mul (pc_q := 201) rfl rfl ?_
            obtain ⟨v101, ev101⟩ : ∃ z, z = (i32 (2 * v89)).toInt := ⟨_, rfl⟩; have fv101 : i32 (2 * v89) = i32 v101 := (by rw [ev101]; exact (i32_of _).symm); rw [fv101]; have rv101 : (-2147483648 : Int) ≤ v101 ∧ v101 ≤ 2147483647 := ev101 ▸ i32_rg _
            refine jx_ar (pc_q := 202) (st_q := [.int (i32 (1)), .int (i32 (v101)), .int (i32 (p)), .ref 133]) rfl rfl rfl rfl ?_
            refine jx_add (pc_q := 203) rfl rfl ?_
            obtain ⟨v102, ev102⟩ : ∃ z, z = (i32 (v101 + 1)).toInt := ⟨_, rfl⟩; have fv102 : i32 (v101 + 1) = i32 v102 := (by rw [ev102]; exact (i32_of _).symm); rw [fv102]; have rv102 : (-2147483648 : Int) ≤ v102 ∧ v102 ≤ 2147483647 := ev102 ▸ i32_rg _
            refine jx_go (tg := 207) rfl rfl ?_
            refine jr_st (pc_q := 208) (i := 66) (m := 6) (z := p) (y := v102) rfl (by decide) rfl (by decide) (by omega) (by omega) rfl ?_
            have hW104 : Wk Gx (uA A90 66 (p).toNat (v102)) := Wk_a hW91 (show (-2147483648 : Int) ≤ v102 by omega) (show v102 ≤ (2147483647 : Int) by omega)
            have hF105 := Fr_a (z := v102) (k := 66) (n := (p).toNat) hF92 (by decide)
            obtain ⟨A103, eA103⟩ : ∃ q, q = uA A90 66 (p).toNat (v102) := ⟨_, rfl⟩
            rw [← eA103]
            rw [← eA103] at hW104 hF105
            have q106 : A103 66 (p).toNat = v102 := by rw [eA103]; exact uA_eq
            refine jx_inc (pc_q := 211) (l_q := jSto1 L 1 (.int (i32 ((p + (1)))))) (x := p) rfl gL_1 (by decide) rfl rfl ?_
            obtain ⟨L107, eL107⟩ : ∃ q, q = jSto1 L 1 (.int (i32 ((p + (1))))) := ⟨_, rfl⟩
            rw [← eL107]
            have gL107_0 : jGet L107 0 = some (.ref 66) := eL107 ▸ jg_ne (by decide) gL_0 rfl
            have gL107_2 : jGet L107 2 = some (.int (i32 (a))) := eL107 ▸ jg_ne (by decide) gL_2 rfl
            have gL107_1 : jGet L107 1 = some (.int (i32 ((p + (1))))) := eL107 ▸ jg_eq
            refine jx_go (tg := 24) rfl rfl ?_
            exact ih24 _ (by omega) L107 Gx A103 ((p + (1))) rfl gL107_0 gL107_1 hW104 hF105 (by omega) (by omega) (by omega) ((MM_n (MM_o iv_3 (by rw [eA103, uA_ne (by decide), eA90, uA_ne (by decide), eA83, uA_ne (by decide), eA78, uA_ne (by decide), eA74, uA_ne (by decide), eA70, uA_ne (by decide), eA66, uA_ne (by decide), eA62, uA_ne (by decide), eA58, uA_ne (by decide), eA54, uA_ne (by decide), eA50, uA_ne (by decide), eA46, uA_ne (by decide), eA42, uA_ne (by decide), eA38, uA_ne (by decide)])) (by omega))) ((RQ_s iv_4 (by omega) eA38 eA42 eA46 eA50 eA54 eA58 eA62 eA66 eA70 eA74 eA78 eA83 eA90 eA103 (fun h1 h2 h3 => rs_w ev88 ev89 ev101 ev102 h2 h3) (fun h1 => absurd h1 (by omega))))
        · have _q := h37
          refine jx_ld (pc_q := 39) (l_q := L) (st_q := [.ref 66]) rfl (jl_aloadn gL_0) ?_
          refine jr_get (pc_q := 42) (i := 90) (v := .ref 126) rfl rfl (by decide) rfl rfl ?_
          refine jx_ar (pc_q := 45) (st_q := [.int (i32 (4016)), .ref 126]) rfl rfl rfl rfl ?_
          refine jx_ld (pc_q := 46) (l_q := L) (st_q := [.int (i32 (p)), .int (i32 (4016)), .ref 126]) rfl (jl_iloadn gL_1) ?_
          refine jx_mul (pc_q := 47) rfl rfl ?_
          refine jx_ld (pc_q := 48) (l_q := L) (st_q := [.int (i32 (a)), .int (i32 ((4016 * p))), .ref 126]) rfl (jl_iloadn gL_2) ?_
          refine jx_add (pc_q := 49) rfl rfl ?_
          refine jx_ld (pc_q := 50) (l_q := L) (st_q := [.int (i32 (a)), .int (i32 (((4016 * p) + a))), .ref 126]) rfl (jl_iloadn gL_2) ?_
          refine jx_ar (pc_q := 52) (st_q := [.int (i32 (14)), .int (i32 (a)), .int (i32 (((4016 * p) + a))), .ref 126]) rfl rfl rfl rfl ?_
          refine jx_icmp_ge (pc_q := 55) (tg := 59) rfl rfl rfl (Int.le_trans (by decide : (-2147483648 : Int) ≤ -2147483648) rx_a.1) (Int.le_trans rx_a.2 (by decide : (2147483647 : Int) ≤ 2147483647)) (by decide) (by decide) (fun h108 => ?_) (fun h108 => ?_)
          · have _q := h108
            refine jx_ar (pc_q := 60) (st_q := [.int (i32 (0)), .int (i32 (((4016 * p) + a))), .ref 126]) rfl rfl rfl rfl ?_
            refine jr_st (pc_q := 61) (i := 59) (m := 24096) (z := ((4016 * p) + a)) (y := 0) rfl (by decide) rfl (by decide) (by omega) (by omega) rfl ?_
            have hW110 : Wk Gx (uA Ax 59 (((4016 * p) + a)).toNat (0)) := Wk_a hWx (show (-2147483648 : Int) ≤ 0 by omega) (show 0 ≤ (2147483647 : Int) by omega)
            have hF111 := Fr_a (z := 0) (k := 59) (n := (((4016 * p) + a)).toNat) hFx (by decide)
            obtain ⟨A109, eA109⟩ : ∃ q, q = uA Ax 59 (((4016 * p) + a)).toNat (0) := ⟨_, rfl⟩
            rw [← eA109]
            rw [← eA109] at hW110 hF111
            have q112 : A109 59 (((4016 * p) + a)).toNat = 0 := by rw [eA109]; exact uA_eq
            refine jx_inc (pc_q := 64) (l_q := jSto1 L 2 (.int (i32 ((a + (1)))))) (x := a) rfl gL_2 (by decide) rfl rfl ?_
            obtain ⟨L113, eL113⟩ : ∃ q, q = jSto1 L 2 (.int (i32 ((a + (1))))) := ⟨_, rfl⟩
            rw [← eL113]
            have gL113_0 : jGet L113 0 = some (.ref 66) := eL113 ▸ jg_ne (by decide) gL_0 rfl
            have gL113_1 : jGet L113 1 = some (.int (i32 (p))) := eL113 ▸ jg_ne (by decide) gL_1 rfl
            have gL113_2 : jGet L113 2 = some (.int (i32 ((a + (1))))) := eL113 ▸ jg_eq
            refine jx_go (tg := 32) rfl rfl ?_
            exact ih32 _ (by omega) L113 Gx A109 ((a + (1))) rfl gL113_0 gL113_1 gL113_2 hW110 hF111 (by omega) (by omega) (by omega) (by omega) ((MM_s iv_3 (by omega) (by omega) (by omega) (by omega) eA109)) ((RQ_o iv_4 (fun k k1 k2 => by rw [eA109, uA_ne (by omega)])))
          · have _q := h108
            refine jx_ar (pc_q := 56) (st_q := [.int (i32 (-1)), .int (i32 (((4016 * p) + a))), .ref 126]) rfl rfl rfl rfl ?_
            refine jx_go (tg := 60) rfl rfl ?_
            refine jr_st (pc_q := 61) (i := 59) (m := 24096) (z := ((4016 * p) + a)) (y := -1) rfl (by decide) rfl (by decide) (by omega) (by omega) rfl ?_
            have hW115 : Wk Gx (uA Ax 59 (((4016 * p) + a)).toNat (-1)) := Wk_a hWx (show (-2147483648 : Int) ≤ -1 by omega) (show -1 ≤ (2147483647 : Int) by omega)
            have hF116 := Fr_a (z := -1) (k := 59) (n := (((4016 * p) + a)).toNat) hFx (by decide)
            obtain ⟨A114, eA114⟩ : ∃ q, q = uA Ax 59 (((4016 * p) + a)).toNat (-1) := ⟨_, rfl⟩
            rw [← eA114]
            rw [← eA114] at hW115 hF116
            have q117 : A114 59 (((4016 * p) + a)).toNat = -1 := by rw [eA114]; exact uA_eq
            refine jx_inc (pc_q := 64) (l_q := jSto1 L 2 (.int (i32 ((a + (1)))))) (x := a) rfl gL_2 (by decide) rfl rfl ?_
            obtain ⟨L118, eL118⟩ : ∃ q, q = jSto1 L 2 (.int (i32 ((a + (1))))) := ⟨_, rfl⟩
            rw [← eL118]
            have gL118_0 : jGet L118 0 = some (.ref 66) := eL118 ▸ jg_ne (by decide) gL_0 rfl
            have gL118_1 : jGet L118 1 = some (.int (i32 (p))) := eL118 ▸ jg_ne (by decide) gL_1 rfl
            have gL118_2 : jGet L118 2 = some (.int (i32 ((a + (1))))) := eL118 ▸ jg_eq
            refine jx_go (tg := 32) rfl rfl ?_
            exact ih32 _ (by omega) L118 Gx A114 ((a + (1))) rfl gL118_0 gL118_1 gL118_2 hW115 hF116 (by omega) (by omega) (by omega) (by omega) ((MM_s iv_3 (by omega) (by omega) (by omega) (by omega) eA114)) ((RQ_o iv_4 (fun k k1 k2 => by rw [eA114, uA_ne (by omega)])))
    refine jx_ld (pc_q := 25) (l_q := L) (st_q := [.int (i32 (p))]) rfl (jl_iloadn gL_1) ?_
    refine jx_ar (pc_q := 27) (st_q := [.int (i32 (6)), .int (i32 (p))]) rfl rfl rfl rfl ?_
    refine jx_icmp_ge (pc_q := 30) (tg := 214) rfl rfl rfl (Int.le_trans (by decide : (-2147483648 : Int) ≤ -2147483648) rx_p.1) (Int.le_trans rx_p.2 (by decide : (2147483647 : Int) ≤ 2147483647)) (by decide) (by decide) (fun h119 => ?_) (fun h119 => ?_)
    · have _q := h119
      refine jx_ar (pc_q := 215) (st_q := [.int (i32 (0))]) rfl rfl rfl rfl ?_
      refine jx_ld (pc_q := 216) (l_q := jSto1 L 1 (.int (i32 (0)))) (st_q := []) rfl rfl ?_
      obtain ⟨L120, eL120⟩ : ∃ q, q = jSto1 L 1 (.int (i32 (0))) := ⟨_, rfl⟩
      rw [← eL120]
      have gL120_0 : jGet L120 0 = some (.ref 66) := eL120 ▸ jg_ne (by decide) gL_0 rfl
      have gL120_1 : jGet L120 1 = some (.int (i32 (0))) := eL120 ▸ jg_eq
      exact c_reset_at_216 (X := X) (d := d) (c0 := c0) (c1 := c1) (G := G) (A := A) (T := T) (hd := hd) (hW := hW) _ L120 Gx Ax (0) rfl gL120_0 gL120_1 hWx hFx (by omega) (by omega) (by omega) ((MM_c iv_2 (by omega))) ((RQ_c iv_3 (by omega))) (LZ_0)
    · have _q := h119
      refine jx_ar (pc_q := 31) (st_q := [.int (i32 (0))]) rfl rfl rfl rfl ?_
      refine jx_ld (pc_q := 32) (l_q := jSto1 L 2 (.int (i32 (0)))) (st_q := []) rfl rfl ?_
      obtain ⟨L121, eL121⟩ : ∃ q, q = jSto1 L 2 (.int (i32 (0))) := ⟨_, rfl⟩
      rw [← eL121]
      have gL121_0 : jGet L121 0 = some (.ref 66) := eL121 ▸ jg_ne (by decide) gL_0 rfl
      have gL121_1 : jGet L121 1 = some (.int (i32 (p))) := eL121 ▸ jg_ne (by decide) gL_1 rfl
      have gL121_2 : jGet L121 2 = some (.int (i32 (0))) := eL121 ▸ jg_eq
      exact at_32 _ L121 Gx Ax (0) rfl gL121_0 gL121_1 gL121_2 hWx hFx (by omega) (by omega) (by omega) (by omega) (iv_2) (iv_3)
set_option maxRecDepth 20000 in
set_option maxHeartbeats 4000000 in
theorem c_reset_at_2 {X : jX} {d : Nat} {c0 c1 : jC} {G : Nat → Int} {A : Nat → Nat → Int} {T : jH} (hd : 1 ≤ d + 1) (hW : Wk G A) : ∀ (m : Nat) (L : jL) (Gx : Nat → Int) (Ax : Nat → Nat → Int) (k : Int), (24096 - k).toNat = m → jGet L 0 = some (.ref 66) → jGet L 1 = some (.int (i32 k)) → Wk Gx Ax → Fr [110, 111, 113, 120, 121] [59, 60, 61, 62, 63, 64, 65, 66, 67, 68, 69, 70, 72, 73, 80, 81, 82, 83, 84, 85] G A Gx Ax → ((-2147483648 : Int) ≤ k ∧ k ≤ 2147483647) → (0 ≤ k) → (k ≤ 24096) → (MZ Ax (k)) → wj X d jm368 (2, L, [], rV c0 c1 Gx Ax T) (fun o V_q => ∃ (G_q : Nat → Int) (A_q : Nat → Nat → Int) (im2 : Int) (it2 : Int) (om2 : Int), V_q = rV c0 c1 G_q A_q T ∧ o = .inl none ∧ Wk G_q A_q ∧ Fr [110, 111, 113, 120, 121] [59, 60, 61, 62, 63, 64, 65, 66, 67, 68, 69, 70, 72, 73, 80, 81, 82, 83, 84, 85] G A G_q A_q ∧ G_q 110 = im2 ∧ G_q 111 = it2 ∧ G_q 113 = om2 ∧ (im2 = 0) ∧ (it2 = 0) ∧ (om2 = 0) ∧ (RS A A_q) ∧ True) := by
  have hF0 : Fr [110, 111, 113, 120, 121] [59, 60, 61, 62, 63, 64, 65, 66, 67, 68, 69, 70, 72, 73, 80, 81, 82, 83, 84, 85] G A G A := Fr_rf
  intro m
  induction m using Nat.strongRecOn with
  | ind m ih2 =>
    intro L Gx Ax k hm gL_0 gL_1 hWx hFx rx_k iv_0 iv_1 iv_2
    have _q : True := trivial
    refine jx_ld (pc_q := 3) (l_q := L) (st_q := [.int (i32 (k))]) rfl (jl_iloadn gL_1) ?_
    refine jx_ar (pc_q := 6) (st_q := [.int (i32 (24096)), .int (i32 (k))]) rfl rfl rfl rfl ?_
    refine jx_icmp_ge (pc_q := 9) (tg := 22) rfl rfl rfl (Int.le_trans (by decide : (-2147483648 : Int) ≤ -2147483648) rx_k.1) (Int.le_trans rx_k.2 (by decide : (2147483647 : Int) ≤ 2147483647)) (by decide) (by decide) (fun h122 => ?_) (fun h122 => ?_)
    · have _q := h122
      refine jx_ar (pc_q := 23) (st_q := [.int (i32 (0))]) rfl rfl rfl rfl ?_
      refine jx_ld (pc_q := 24) (l_q := jSto1 L 1 (.int (i32 (0)))) (st_q := []) rfl rfl ?_
      obtain ⟨L123, eL123⟩ : ∃ q, q = jSto1 L 1 (.int (i32 (0))) := ⟨_, rfl⟩
      rw [← eL123]
      have gL123_0 : jGet L123 0 = some (.ref 66) := eL123 ▸ jg_ne (by decide) gL_0 rfl
      have gL123_1 : jGet L123 1 = some (.int (i32 (0))) := eL123 ▸ jg_eq
      exact c_reset_at_24 (X := X) (d := d) (c0 := c0) (c1 := c1) (G := G) (A := A) (T := T) (hd := hd) (hW := hW) _ L123 Gx Ax (0) rfl gL123_0 gL123_1 hWx hFx (by omega) (by omega) (by omega) ((MM_0 iv_2 (by omega))) (RQ_0)
    · have _q := h122
      refine jx_ld (pc_q := 10) (l_q := L) (st_q := [.ref 66]) rfl (jl_aloadn gL_0) ?_
      refine jr_get (pc_q := 13) (i := 90) (v := .ref 126) rfl rfl (by decide) rfl rfl ?_
      refine jx_ld (pc_q := 14) (l_q := L) (st_q := [.int (i32 (k)), .ref 126]) rfl (jl_iloadn gL_1) ?_
      refine jx_ar (pc_q := 15) (st_q := [.int (i32 (0)), .int (i32 (k)), .ref 126]) rfl rfl rfl rfl ?_
      refine jr_st (pc_q := 16) (i := 59) (m := 24096) (z := k) (y := 0) rfl (by decide) rfl (by decide) (by omega) (by omega) rfl ?_
      have hW125 : Wk Gx (uA Ax 59 (k).toNat (0)) := Wk_a hWx (show (-2147483648 : Int) ≤ 0 by omega) (show 0 ≤ (2147483647 : Int) by omega)
      have hF126 := Fr_a (z := 0) (k := 59) (n := (k).toNat) hFx (by decide)
      obtain ⟨A124, eA124⟩ : ∃ q, q = uA Ax 59 (k).toNat (0) := ⟨_, rfl⟩
      rw [← eA124]
      rw [← eA124] at hW125 hF126
      have q127 : A124 59 (k).toNat = 0 := by rw [eA124]; exact uA_eq
      refine jx_inc (pc_q := 19) (l_q := jSto1 L 1 (.int (i32 ((k + (1)))))) (x := k) rfl gL_1 (by decide) rfl rfl ?_
      obtain ⟨L128, eL128⟩ : ∃ q, q = jSto1 L 1 (.int (i32 ((k + (1))))) := ⟨_, rfl⟩
      rw [← eL128]
      have gL128_0 : jGet L128 0 = some (.ref 66) := eL128 ▸ jg_ne (by decide) gL_0 rfl
      have gL128_1 : jGet L128 1 = some (.int (i32 ((k + (1))))) := eL128 ▸ jg_eq
      refine jx_go (tg := 2) rfl rfl ?_
      exact ih2 _ (by omega) L128 Gx A124 ((k + (1))) rfl gL128_0 gL128_1 hW125 hF126 (by omega) (by omega) (by omega) ((MZ_s iv_2 (by omega) eA124))
set_option maxRecDepth 20000 in
set_option maxHeartbeats 4000000 in
theorem c_reset {X : jX} {dd : Nat} {c0 c1 : jC} {G : Nat → Int} {A : Nat → Nat → Int} {T : jH} (hd : 1 ≤ dd) (hW : Wk G A) : wk X dd 368 [.ref 66] (rV c0 c1 G A T) (fun o V_q => ∃ (G_q : Nat → Int) (A_q : Nat → Nat → Int) (im2 : Int) (it2 : Int) (om2 : Int), V_q = rV c0 c1 G_q A_q T ∧ o = .inl none ∧ Wk G_q A_q ∧ Fr [110, 111, 113, 120, 121] [59, 60, 61, 62, 63, 64, 65, 66, 67, 68, 69, 70, 72, 73, 80, 81, 82, 83, 84, 85] G A G_q A_q ∧ G_q 110 = im2 ∧ G_q 111 = it2 ∧ G_q 113 = om2 ∧ (im2 = 0) ∧ (it2 = 0) ∧ (om2 = 0) ∧ (RS A A_q) ∧ True) := by
  obtain ⟨d, rfl⟩ : ∃ d, dd = d + 1 := ⟨dd - 1, by omega⟩
  refine wk_of (e := jm368) rfl (Nat.le_of_ble_eq_true rfl) ?_
  show wj X d jm368 (0, [(0, .ref 66)], [], rV c0 c1 G A T) _
  have hF0 : Fr [110, 111, 113, 120, 121] [59, 60, 61, 62, 63, 64, 65, 66, 67, 68, 69, 70, 72, 73, 80, 81, 82, 83, 84, 85] G A G A := Fr_rf
  refine jx_ar (pc_q := 1) (st_q := [.int (i32 (0))]) rfl rfl rfl rfl ?_
  refine jx_ld (pc_q := 2) (l_q := jSto1 [(0, .ref 66)] 1 (.int (i32 (0)))) (st_q := []) rfl rfl ?_
  obtain ⟨L129, eL129⟩ : ∃ q, q = jSto1 [(0, .ref 66)] 1 (.int (i32 (0))) := ⟨_, rfl⟩
  rw [← eL129]
  have gL129_0 : jGet L129 0 = some (.ref 66) := eL129 ▸ jg_ne (by decide) (rfl : jGet [(0, .ref 66)] 0 = some (.ref 66)) rfl
  have gL129_1 : jGet L129 1 = some (.int (i32 (0))) := eL129 ▸ jg_eq
  exact c_reset_at_2 (X := X) (d := d) (c0 := c0) (c1 := c1) (G := G) (A := A) (T := T) (hd := hd) (hW := hW) _ L129 G A (0) rfl gL129_0 gL129_1 hW hF0 (by omega) (by omega) (by omega) ((fun n hn => absurd hn (by omega)))
