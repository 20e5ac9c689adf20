/-- counts and W of a core, with room to spare -/
def Cm (A : Nat → Nat → Int) (q : Int) : Prop := 0 ≤ A 72 (2 * q).toNat ∧ A 72 (2 * q).toNat ≤ 1050 ∧ 0 ≤ A 72 (2 * q + 1).toNat ∧ A 72 (2 * q + 1).toNat ≤ 1050 ∧ (A 66 q.toNat = -1 ∨ (-1000000 ≤ A 64 q.toNat ∧ A 64 q.toNat ≤ 1000000))
theorem shr_lo {x : Int} : -1073741824 ≤ (i32 x >>> (i32 1 &&& 31)).toInt := by
  have r := i32_rg (i32 x)
  have e := shr_1 (x := (i32 x).toInt) r.1 r.2
  rw [i32_of] at e
  rw [e]
  omega
theorem disp_g {A A_q : Nat → Nat → Int} {p : Int} (h0 : 0 ≤ A 72 (2 * p).toNat ∧ A 72 (2 * p).toNat ≤ 1052) (h1 : 0 ≤ A 72 (2 * p + 1).toNat ∧ A 72 (2 * p + 1).toNat ≤ 1052) (hp : 0 ≤ p) (h : dispR A A_q p) : 0 ≤ A_q 72 (2 * p).toNat ∧ A_q 72 (2 * p).toNat ≤ 1099 ∧ 0 ≤ A_q 72 (2 * p + 1).toNat ∧ A_q 72 (2 * p + 1).toNat ≤ 1099 ∧ -2147483647 ≤ A_q 64 p.toNat := by
  have tk : ∀ q i, rdQ A p q → 0 ≤ shM (tkM A p q) q i 72 (2 * p).toNat ∧ shM (tkM A p q) q i 72 (2 * p).toNat ≤ 1099 ∧ 0 ≤ shM (tkM A p q) q i 72 (2 * p + 1).toNat ∧ shM (tkM A p q) q i 72 (2 * p + 1).toNat ≤ 1099 := fun q i hq => by
    rcases hq with ⟨w1, w2⟩ | ⟨w1, w2, w3⟩
    · subst w2
      rw [tk_72, tk_72o (by omega)]
      omega
    · subst w3
      rw [tk_72, tk_72o (by omega)]
      omega
  rcases h with ⟨_, _, e⟩ | ⟨q, i, hq, hi, e⟩
  · rw [e, no_o (k := 72) ⟨by decide, by decide, by decide, by decide, by decide, by decide, by decide, by decide⟩]
    refine ⟨by omega, by omega, by omega, by omega, ?_⟩
    unfold noM
    rw [uA_eq]
    decide
  · have t := tk q i hq
    have g64 : -2147483647 ≤ gtM (shM (tkM A p q) q i) p 64 p.toNat := by
      rw [gt_64]
      have := shr_lo (x := shM (tkM A p q) q i 66 p.toNat)
      omega
    rcases e with ⟨_, e⟩ | ⟨_, _, e⟩
    · rw [e, gt_o (k := 72) ⟨by decide, by decide⟩]
      exact ⟨t.1, t.2.1, t.2.2.1, t.2.2.2, g64⟩
    · rw [e, kp_o (k := 72) ⟨by decide, by decide, by decide, by decide, by decide⟩, kp_o (k := 64) ⟨by decide, by decide, by decide, by decide, by decide⟩, gt_o (k := 72) ⟨by decide, by decide⟩]
      exact ⟨t.1, t.2.1, t.2.2.1, t.2.2.2, g64⟩
theorem mk_g {A A4 A5 : Nat → Nat → Int} {p d : Int} (h : mkR A4 A5 p d) (e72 : A4 72 = A 72) (e64 : A4 64 = A 64) (e66 : A4 66 = A 66) (hp : 0 ≤ p) (cm : Cm A p) : 0 ≤ A5 72 (2 * p).toNat ∧ A5 72 (2 * p).toNat ≤ 1099 ∧ 0 ≤ A5 72 (2 * p + 1).toNat ∧ A5 72 (2 * p + 1).toNat ≤ 1099 ∧ -2147483647 ≤ A5 64 p.toNat := by
  obtain ⟨c1, c2, c3, c4, c5⟩ := cm
  rw [← e72] at c1 c2 c3 c4
  rw [← e64, ← e66] at c5
  have cb : 0 ≤ A4 72 (2 * p + d % 2).toNat ∧ A4 72 (2 * p + d % 2).toNat ≤ 1050 := by
    have : d % 2 = 0 ∨ d % 2 = 1 := by omega
    rcases this with w | w
    · rw [w, Int.add_zero]
      exact ⟨c1, c2⟩
    · rw [w]
      exact ⟨c3, c4⟩
  have a72 : ∀ i, 0 ≤ A4 72 i → A4 72 i ≤ 1050 → 0 ≤ adM A4 (2 * p + d % 2) d 72 i ∧ adM A4 (2 * p + d % 2) d 72 i ≤ 1051 := fun i h0 h1 => by
    by_cases w : i = (2 * p + d % 2).toNat
    · subst w
      rw [ad_72]
      omega
    · rw [ad_72o w]
      omega
  have x0 := a72 _ c1 c2
  have x1 := a72 _ c3 c4
  rcases h with ⟨h1, h2⟩ | ⟨_, h2⟩
  · rw [h2, ad_o (k := 64) ⟨by decide, by decide⟩]
    refine ⟨x0.1, by omega, x1.1, by omega, ?_⟩
    rcases c5 with c5 | c5
    · exact absurd c5 h1
    · omega
  · exact disp_g (by omega) (by omega) hp h2
theorem wk_g {A A3 A5 : Nat → Nat → Int} {p d : Int} (h : wkR A3 A5 p d) (e72 : A3 72 = A 72) (e64 : A3 64 = A 64) (e66 : A3 66 = A 66) (hp : 0 ≤ p) (cm : Cm A p) : 0 ≤ A5 72 (2 * p).toNat ∧ A5 72 (2 * p).toNat ≤ 1099 ∧ 0 ≤ A5 72 (2 * p + 1).toNat ∧ A5 72 (2 * p + 1).toNat ≤ 1099 ∧ (A5 66 p.toNat = -1 ∨ -2147483647 ≤ A5 64 p.toNat) := by
  rcases h with ⟨_, e⟩ | ⟨_, m⟩
  · obtain ⟨c1, c2, c3, c4, c5⟩ := cm
    rw [e, stM_ne (by decide), stM_ne (by decide), stM_ne (by decide), e72, e64, e66]
    omega
  · obtain ⟨y1, y2, y3, y4, y5⟩ := mk_g m ((stM_ne (by decide)).trans e72) ((stM_ne (by decide)).trans e64) ((stM_ne (by decide)).trans e66) hp cm
    exact ⟨y1, y2, y3, y4, Or.inr y5⟩
/-- a beat of the link l -/
def btR (A A_q : Nat → Nat → Int) (l : Int) : Prop :=
  (∃ fr d : Int, ∃ A1 A2 A3 A4 A5 : Nat → Nat → Int, (A 34 l.toNat = fr) ∧ (A 84 l.toNat ≠ 0) ∧ (A1 = uA A 84 l.toNat 0) ∧ (A 82 l.toNat = 4) ∧ (d = ldM A1 fr l) ∧ (A2 = stM A1 fr l (-1)) ∧ (A3 = uA A2 80 l.toNat 0) ∧ (A4 = uA A3 82 l.toNat 0) ∧ (mkR A4 A5 fr d) ∧ (yR A5 A_q fr)) ∨
  (∃ A1 : Nat → Nat → Int, (A 84 l.toNat ≠ 0) ∧ (A1 = uA A 84 l.toNat 0) ∧ (A_q = uA A1 85 l.toNat 1)) ∨
  ((A 84 l.toNat = 0) ∧ (A_q = A)) ∨
  (∃ x c : Int, ∃ A1 A2 A3 : Nat → Nat → Int, (A 84 l.toNat = 0) ∧ (A 80 l.toNat ≠ 0) ∧ (A1 = uA A 85 l.toNat 0) ∧ (A2 = uA A1 82 l.toNat x) ∧ (A3 = uA A2 83 l.toNat c) ∧ (c < 4) ∧ (A_q = uA A3 84 l.toNat 1)) ∨
  (∃ to1 d x c : Int, ∃ A1 A2 A3 : Nat → Nat → Int, (A 35 l.toNat = to1) ∧ (A 84 l.toNat = 0) ∧ (A 80 l.toNat ≠ 0) ∧ (A1 = uA A 85 l.toNat 0) ∧ (A2 = uA A1 82 l.toNat x) ∧ (A3 = uA A2 83 l.toNat c) ∧ (d = ldM A3 to1 l) ∧ (d = -1) ∧ (yR A3 A_q to1)) ∨
  (∃ to1 d x c b v : Int, ∃ A1 A2 A3 A4 : Nat → Nat → Int, (A 35 l.toNat = to1) ∧ (A 84 l.toNat = 0) ∧ (A 80 l.toNat ≠ 0) ∧ (A1 = uA A 85 l.toNat 0) ∧ (A2 = uA A1 82 l.toNat x) ∧ (A3 = uA A2 83 l.toNat c) ∧ (d = ldM A3 to1 l) ∧ (d ≠ -1) ∧ (b = d / 2) ∧ (v = ldM A3 to1 (b - 3)) ∧ (v ≠ 0) ∧ (wkR A3 A4 to1 d) ∧ (yR A4 A_q to1)) ∨
  (∃ to1 d x c b v b2 t z : Int, ∃ A1 A2 A3 A4 A5 A6 A7 A8 : Nat → Nat → Int, (A 35 l.toNat = to1) ∧ (A 84 l.toNat = 0) ∧ (A 80 l.toNat ≠ 0) ∧ (A1 = uA A 85 l.toNat 0) ∧ (A2 = uA A1 82 l.toNat x) ∧ (A3 = uA A2 83 l.toNat c) ∧ (d = ldM A3 to1 l) ∧ (d ≠ -1) ∧ (b = d / 2) ∧ (v = ldM A3 to1 (b - 3)) ∧ (v = 0) ∧ (b2 = d / 2) ∧ (t = ldM A3 to1 (b2 - 2)) ∧ (A4 = stM A3 to1 t z) ∧ (A5 = stM A4 to1 l (-1)) ∧ (A6 = uA A5 83 l.toNat 0) ∧ (A7 = uA A6 84 l.toNat 1) ∧ (mkR A7 A8 to1 d) ∧ (yR A8 A_q to1))
theorem btR_due4 {A A_q : Nat → Nat → Int} {l : Int} (fr d : Int) (A1 A2 A3 A4 A5 : Nat → Nat → Int) (hf : A 34 l.toNat = fr) (h : A 84 l.toNat ≠ 0) (e1 : A1 = uA A 84 l.toNat 0) (h4 : A 82 l.toNat = 4) (ld : d = ldM A1 fr l) (s2 : A2 = stM A1 fr l (-1)) (e3 : A3 = uA A2 80 l.toNat 0) (e4 : A4 = uA A3 82 l.toNat 0) (m : mkR A4 A5 fr d) (y : yR A5 A_q fr) : btR A A_q l := .inl ⟨fr, d, A1, A2, A3, A4, A5, hf, h, e1, h4, ld, s2, e3, e4, m, y⟩
theorem btR_due {A A_q : Nat → Nat → Int} {l : Int} (A1 : Nat → Nat → Int) (h : A 84 l.toNat ≠ 0) (e1 : A1 = uA A 84 l.toNat 0) (e : A_q = uA A1 85 l.toNat 1) : btR A A_q l := .inr (.inl ⟨A1, h, e1, e⟩)
theorem btR_idle {A A_q : Nat → Nat → Int} {l : Int}  (h : A 84 l.toNat = 0) (e : A_q = A) : btR A A_q l := .inr (.inr (.inl ⟨h, e⟩))
theorem btR_byte {A A_q : Nat → Nat → Int} {l : Int} (x c : Int) (A1 A2 A3 : Nat → Nat → Int) (h : A 84 l.toNat = 0) (h8 : A 80 l.toNat ≠ 0) (e1 : A1 = uA A 85 l.toNat 0) (e2 : A2 = uA A1 82 l.toNat x) (e3 : A3 = uA A2 83 l.toNat c) (hc : c < 4) (e : A_q = uA A3 84 l.toNat 1) : btR A A_q l := .inr (.inr (.inr (.inl ⟨x, c, A1, A2, A3, h, h8, e1, e2, e3, hc, e⟩)))
theorem btR_come0 {A A_q : Nat → Nat → Int} {l : Int} (to1 d x c : Int) (A1 A2 A3 : Nat → Nat → Int) (ht : A 35 l.toNat = to1) (h : A 84 l.toNat = 0) (h8 : A 80 l.toNat ≠ 0) (e1 : A1 = uA A 85 l.toNat 0) (e2 : A2 = uA A1 82 l.toNat x) (e3 : A3 = uA A2 83 l.toNat c) (ld : d = ldM A3 to1 l) (hd : d = -1) (y : yR A3 A_q to1) : btR A A_q l := .inr (.inr (.inr (.inr (.inl ⟨to1, d, x, c, A1, A2, A3, ht, h, h8, e1, e2, e3, ld, hd, y⟩))))
theorem btR_comeA {A A_q : Nat → Nat → Int} {l : Int} (to1 d x c b v : Int) (A1 A2 A3 A4 : Nat → Nat → Int) (ht : A 35 l.toNat = to1) (h : A 84 l.toNat = 0) (h8 : A 80 l.toNat ≠ 0) (e1 : A1 = uA A 85 l.toNat 0) (e2 : A2 = uA A1 82 l.toNat x) (e3 : A3 = uA A2 83 l.toNat c) (ld : d = ldM A3 to1 l) (hd : d ≠ -1) (hb : b = d / 2) (l3 : v = ldM A3 to1 (b - 3)) (hv : v ≠ 0) (k : wkR A3 A4 to1 d) (y : yR A4 A_q to1) : btR A A_q l := .inr (.inr (.inr (.inr (.inr (.inl ⟨to1, d, x, c, b, v, A1, A2, A3, A4, ht, h, h8, e1, e2, e3, ld, hd, hb, l3, hv, k, y⟩)))))
theorem btR_comeI {A A_q : Nat → Nat → Int} {l : Int} (to1 d x c b v b2 t z : Int) (A1 A2 A3 A4 A5 A6 A7 A8 : Nat → Nat → Int) (ht : A 35 l.toNat = to1) (h : A 84 l.toNat = 0) (h8 : A 80 l.toNat ≠ 0) (e1 : A1 = uA A 85 l.toNat 0) (e2 : A2 = uA A1 82 l.toNat x) (e3 : A3 = uA A2 83 l.toNat c) (ld : d = ldM A3 to1 l) (hd : d ≠ -1) (hb : b = d / 2) (l3 : v = ldM A3 to1 (b - 3)) (hv : v = 0) (hb2 : b2 = d / 2) (l2 : t = ldM A3 to1 (b2 - 2)) (s4 : A4 = stM A3 to1 t z) (s5 : A5 = stM A4 to1 l (-1)) (e6 : A6 = uA A5 83 l.toNat 0) (e7 : A7 = uA A6 84 l.toNat 1) (m : mkR A7 A8 to1 d) (y : yR A8 A_q to1) : btR A A_q l := .inr (.inr (.inr (.inr (.inr (.inr (⟨to1, d, x, c, b, v, b2, t, z, A1, A2, A3, A4, A5, A6, A7, A8, ht, h, h8, e1, e2, e3, ld, hd, hb, l3, hv, hb2, l2, s4, s5, e6, e7, m, y⟩))))))

set_option maxRecDepth 20000 in
set_option maxHeartbeats 4000000 in
theorem c_beatOf {X : jX} {dd : Nat} {c0 c1 : jC} {G : Nat → Int} {A : Nat → Nat → Int} {T : jH} {l : Int} {fr to1 du snt cam sen may wrd : Int} (hd : 6 ≤ dd) (hW : Wk G A) (e_fr : A 34 (l).toNat = fr) (e_to1 : A 35 (l).toNat = to1) (e_du : A 84 (l).toNat = du) (e_snt : A 82 (l).toNat = snt) (e_cam : A 83 (l).toNat = cam) (e_sen : A 80 (l).toNat = sen) (e_may : A 85 (l).toNat = may) (e_wrd : A 81 (l).toNat = wrd) (h_l : (-2147483648 : Int) ≤ l ∧ l ≤ 2147483647) (p_0 : 0 ≤ l) (p_1 : l ≤ 11) (p_2 : 0 ≤ fr) (p_3 : fr ≤ 5) (p_4 : 0 ≤ to1) (p_5 : to1 ≤ 5) (p_6 : ∀ q : Int, 0 ≤ q → q ≤ 5 → Cm A q) : wk X dd 393 [.ref 66, .int (i32 l)] (rV c0 c1 G A T) (fun o V_q => ∃ (G_q : Nat → Int) (A_q : Nat → Nat → Int) (r : Int), V_q = rV c0 c1 G_q A_q T ∧ o = .inl (some (.int (i32 r))) ∧ Wk G_q A_q ∧ Fr [121] [59, 60, 61, 62, 63, 64, 65, 66, 70, 71, 72, 73, 74, 75, 76, 77, 80, 82, 83, 84, 85] G A G_q A_q ∧ ((0 : Int) ≤ r ∧ r ≤ 1) ∧ (btR A A_q (l)) ∧ True) := by
  obtain ⟨d, rfl⟩ : ∃ d, dd = d + 1 := ⟨dd - 1, by omega⟩
  refine wk_of (e := jm393) rfl (Nat.le_of_ble_eq_true rfl) ?_
  show wj X d jm393 (0, [(0, .ref 66), (1, .int (i32 (l)))], [], rV c0 c1 G A T) _
  have hF0 : Fr [121] [59, 60, 61, 62, 63, 64, 65, 66, 70, 71, 72, 73, 74, 75, 76, 77, 80, 82, 83, 84, 85] G A G A := Fr_rf
  have b_fr : (-2147483648 : Int) ≤ fr ∧ fr ≤ 2147483647 := e_fr ▸ hW.2 34 _
  have b_to1 : (-2147483648 : Int) ≤ to1 ∧ to1 ≤ 2147483647 := e_to1 ▸ hW.2 35 _
  have b_du : (0 : Int) ≤ du ∧ du ≤ 1 := e_du ▸ hW.2 84 _
  have b_snt : (-2147483648 : Int) ≤ snt ∧ snt ≤ 2147483647 := e_snt ▸ hW.2 82 _
  have b_cam : (-2147483648 : Int) ≤ cam ∧ cam ≤ 2147483647 := e_cam ▸ hW.2 83 _
  have b_sen : (0 : Int) ≤ sen ∧ sen ≤ 1 := e_sen ▸ hW.2 80 _
  have b_may : (0 : Int) ≤ may ∧ may ≤ 1 := e_may ▸ hW.2 85 _
  have b_wrd : (-2147483648 : Int) ≤ wrd ∧ wrd ≤ 2147483647 := e_wrd ▸ hW.2 81 _
  refine jx_ld (pc_q := 1) (l_q := [(0, .ref 66), (1, .int (i32 (l)))]) (st_q := [.ref 66]) rfl (jl_aloadn rfl) ?_
  refine jr_get (pc_q := 4) (i := 53) (v := .ref 101) rfl rfl (by decide) rfl rfl ?_
  refine jx_ld (pc_q := 5) (l_q := [(0, .ref 66), (1, .int (i32 (l)))]) (st_q := [.int (i32 (l)), .ref 101]) rfl (jl_iloadn rfl) ?_
  refine jr_ldv (pc_q := 6) (i := 34) (m := 13) (z := l) (y := fr) rfl (by decide) rfl (by decide) (by omega) (by omega) rfl (show A 34 (l).toNat = fr from (e_fr)) ?_
  refine jx_ld (pc_q := 7) (l_q := jSto1 [(0, .ref 66), (1, .int (i32 (l)))] 2 (.int (i32 (fr)))) (st_q := []) rfl rfl ?_
  obtain ⟨L1, eL1⟩ : ∃ q, q = jSto1 [(0, .ref 66), (1, .int (i32 (l)))] 2 (.int (i32 (fr))) := ⟨_, rfl⟩
  rw [← eL1]
  have gL1_0 : jGet L1 0 = some (.ref 66) := eL1 ▸ jg_ne (by decide) (rfl : jGet [(0, .ref 66), (1, .int (i32 (l)))] 0 = some (.ref 66)) rfl
  have gL1_1 : jGet L1 1 = some (.int (i32 (l))) := eL1 ▸ jg_ne (by decide) (rfl : jGet [(0, .ref 66), (1, .int (i32 (l)))] 1 = some (.int (i32 (l)))) rfl
  have gL1_2 : jGet L1 2 = some (.int (i32 (fr))) := eL1 ▸ jg_eq
  refine jx_ld (pc_q := 8) (l_q := L1) (st_q := [.ref 66]) rfl (jl_aloadn gL1_0) ?_
  refine jr_get (pc_q := 11) (i := 54) (v := .ref 102) rfl rfl (by decide) rfl rfl ?_
  refine jx_ld (pc_q := 12) (l_q := L1) (st_q := [.int (i32 (l)), .ref 102]) rfl (jl_iloadn gL1_1) ?_
  refine jr_ldv (pc_q := 13) (i := 35) (m := 13) (z := l) (y := to1) rfl (by decide) rfl (by decide) (by omega) (by omega) rfl (show A 35 (l).toNat = to1 from (e_to1)) ?_
  refine jx_ld (pc_q := 14) (l_q := jSto1 L1 3 (.int (i32 (to1)))) (st_q := []) rfl rfl ?_
  obtain ⟨L2, eL2⟩ : ∃ q, q = jSto1 L1 3 (.int (i32 (to1))) := ⟨_, rfl⟩
  rw [← eL2]
  have gL2_0 : jGet L2 0 = some (.ref 66) := eL2 ▸ jg_ne (by decide) gL1_0 rfl
  have gL2_1 : jGet L2 1 = some (.int (i32 (l))) := eL2 ▸ jg_ne (by decide) gL1_1 rfl
  have gL2_2 : jGet L2 2 = some (.int (i32 (fr))) := eL2 ▸ jg_ne (by decide) gL1_2 rfl
  have gL2_3 : jGet L2 3 = some (.int (i32 (to1))) := eL2 ▸ jg_eq
  refine jx_ld (pc_q := 15) (l_q := L2) (st_q := [.ref 66]) rfl (jl_aloadn gL2_0) ?_
  refine jr_get (pc_q := 18) (i := 118) (v := .ref 151) rfl rfl (by decide) rfl rfl ?_
  refine jx_ld (pc_q := 19) (l_q := L2) (st_q := [.int (i32 (l)), .ref 151]) rfl (jl_iloadn gL2_1) ?_
  refine jr_lbv (pc_q := 20) (i := 84) (m := 12) (z := l) (y := du) rfl (by decide) rfl (by decide) (by omega) (by omega) rfl (show A 84 (l).toNat = du from (e_du)) ?_
  refine jx_if_eq (pc_q := 23) (tg := 103) rfl rfl rfl (Int.le_trans (by decide : (-2147483648 : Int) ≤ 0) b_du.1) (Int.le_trans b_du.2 (by decide : (1 : Int) ≤ 2147483647)) (fun h3 => ?_) (fun h3 => ?_)
  · have _q := h3
    refine jx_ld (pc_q := 104) (l_q := L2) (st_q := [.ref 66]) rfl (jl_aloadn gL2_0) ?_
    refine jr_get (pc_q := 107) (i := 114) (v := .ref 147) rfl rfl (by decide) rfl rfl ?_
    refine jx_ld (pc_q := 108) (l_q := L2) (st_q := [.int (i32 (l)), .ref 147]) rfl (jl_iloadn gL2_1) ?_
    refine jr_lbv (pc_q := 109) (i := 80) (m := 12) (z := l) (y := sen) rfl (by decide) rfl (by decide) (by omega) (by omega) rfl (show A 80 (l).toNat = sen from (e_sen)) ?_
    refine jx_if_eq (pc_q := 112) (tg := 121) rfl rfl rfl (Int.le_trans (by decide : (-2147483648 : Int) ≤ 0) b_sen.1) (Int.le_trans b_sen.2 (by decide : (1 : Int) ≤ 2147483647)) (fun h4 => ?_) (fun h4 => ?_)
    · have _q := h4
      refine jx_ar (pc_q := 122) (st_q := [.int (i32 (0))]) rfl rfl rfl rfl ?_
      refine jx_rt (v := some (.int (i32 (0)))) rfl rfl rfl rfl rfl (by first | rfl | exact jRet_b (by omega)) ?_
      exact ⟨_, _, _, rfl, rfl, hW, hF0, by omega, (btR_idle (by rw [show A 84 (l).toNat = du from e_du]; omega) rfl), trivial⟩
    · have _q := h4
      refine jx_ld (pc_q := 113) (l_q := L2) (st_q := [.ref 66]) rfl (jl_aloadn gL2_0) ?_
      refine jr_get (pc_q := 116) (i := 119) (v := .ref 152) rfl rfl (by decide) rfl rfl ?_
      refine jx_ld (pc_q := 117) (l_q := L2) (st_q := [.int (i32 (l)), .ref 152]) rfl (jl_iloadn gL2_1) ?_
      refine jr_lbv (pc_q := 118) (i := 85) (m := 12) (z := l) (y := may) rfl (by decide) rfl (by decide) (by omega) (by omega) rfl (show A 85 (l).toNat = may from (e_may)) ?_
      refine jx_if_ne (pc_q := 121) (tg := 123) rfl rfl rfl (Int.le_trans (by decide : (-2147483648 : Int) ≤ 0) b_may.1) (Int.le_trans b_may.2 (by decide : (1 : Int) ≤ 2147483647)) (fun h5 => ?_) (fun h5 => ?_)
      · have _q := h5
        refine jx_ld (pc_q := 124) (l_q := L2) (st_q := [.ref 66]) rfl (jl_aloadn gL2_0) ?_
        refine jr_get (pc_q := 127) (i := 119) (v := .ref 152) rfl rfl (by decide) rfl rfl ?_
        refine jx_ld (pc_q := 128) (l_q := L2) (st_q := [.int (i32 (l)), .ref 152]) rfl (jl_iloadn gL2_1) ?_
        refine jx_ar (pc_q := 129) (st_q := [.int (i32 (0)), .int (i32 (l)), .ref 152]) rfl rfl rfl rfl ?_
        refine jr_sb (pc_q := 130) (i := 85) (m := 12) (z := l) (y := 0) rfl (by decide) rfl (by decide) (by omega) (by omega) (by omega) rfl ?_
        have hW7 : Wk G (uA A 85 (l).toNat (0)) := Wk_a hW (show (0 : Int) ≤ 0 by omega) (show 0 ≤ (1 : Int) by omega)
        have hF8 := Fr_a (z := 0) (k := 85) (n := (l).toNat) hF0 (by decide)
        obtain ⟨A6, eA6⟩ : ∃ q, q = uA A 85 (l).toNat (0) := ⟨_, rfl⟩
        rw [← eA6]
        rw [← eA6] at hW7 hF8
        have q9 : A6 85 (l).toNat = 0 := by rw [eA6]; exact uA_eq
        refine jx_ld (pc_q := 131) (l_q := L2) (st_q := [.ref 66]) rfl (jl_aloadn gL2_0) ?_
        refine jx_ar (pc_q := 132) (st_q := [.ref 66, .ref 66]) rfl rfl rfl rfl ?_
        have b10 : (-2147483648 : Int) ≤ G 121 ∧ G 121 ≤ 2147483647 := hW.1 121
        refine jr_get (pc_q := 135) (i := 121) (v := .int (i32 (G 121))) rfl rfl (by decide) rfl rfl ?_
        refine jx_ar (pc_q := 136) (st_q := [.int (i32 (1)), .int (i32 (G 121)), .ref 66]) rfl rfl rfl rfl ?_
        refine jx_add (pc_q := 137) rfl rfl ?_
        obtain ⟨v11, ev11⟩ : ∃ z, z = (i32 (G 121 + 1)).toInt := ⟨_, rfl⟩; have fv11 : i32 (G 121 + 1) = i32 v11 := (by rw [ev11]; exact (i32_of _).symm); rw [fv11]; have rv11 : (-2147483648 : Int) ≤ v11 ∧ v11 ≤ 2147483647 := ev11 ▸ i32_rg _
        refine jr_put (pc_q := 140) (i := 121) (z := v11) rfl rfl (by decide) rfl rfl rfl rfl rfl rfl ?_
        have hW12 : Wk (uG G 121 (v11)) A6 := Wk_g hW7 (show (-2147483648 : Int) ≤ v11 by omega) (show v11 ≤ (2147483647 : Int) by omega)
        have hF13 := Fr_g (z := v11) (i := 121) hF8 (by decide)
        refine jx_ld (pc_q := 141) (l_q := L2) (st_q := [.ref 66]) rfl (jl_aloadn gL2_0) ?_
        refine jr_get (pc_q := 144) (i := 116) (v := .ref 149) rfl rfl (by decide) rfl rfl ?_
        refine jx_ld (pc_q := 145) (l_q := L2) (st_q := [.int (i32 (l)), .ref 149]) rfl (jl_iloadn gL2_1) ?_
        refine jx_ar (pc_q := 146) (st_q := [.int (i32 (l)), .ref 149, .int (i32 (l)), .ref 149]) rfl rfl rfl rfl ?_
        refine jr_ldv (pc_q := 147) (i := 82) (m := 12) (z := l) (y := snt) rfl (by decide) rfl (by decide) (by omega) (by omega) rfl (show A6 82 (l).toNat = snt from (congrFun ((congrFun eA6 82).trans (uA_ne (by decide))) _).trans (e_snt)) ?_
        refine jx_ar (pc_q := 148) (st_q := [.int (i32 (1)), .int (i32 (snt)), .int (i32 (l)), .ref 149]) rfl rfl rfl rfl ?_
        refine jx_add (pc_q := 149) rfl rfl ?_
        obtain ⟨v14, ev14⟩ : ∃ z, z = (i32 (snt + 1)).toInt := ⟨_, rfl⟩; have fv14 : i32 (snt + 1) = i32 v14 := (by rw [ev14]; exact (i32_of _).symm); rw [fv14]; have rv14 : (-2147483648 : Int) ≤ v14 ∧ v14 ≤ 2147483647 := ev14 ▸ i32_rg _
        refine jr_st (pc_q := 150) (i := 82) (m := 12) (z := l) (y := v14) rfl (by decide) rfl (by decide) (by omega) (by omega) rfl ?_
        have hW16 : Wk (uG G 121 (v11)) (uA A6 82 (l).toNat (v14)) := Wk_a hW12 (show (-2147483648 : Int) ≤ v14 by omega) (show v14 ≤ (2147483647 : Int) by omega)
        have hF17 := Fr_a (z := v14) (k := 82) (n := (l).toNat) hF13 (by decide)
        obtain ⟨A15, eA15⟩ : ∃ q, q = uA A6 82 (l).toNat (v14) := ⟨_, rfl⟩
        rw [← eA15]
        rw [← eA15] at hW16 hF17
        have q18 : A15 82 (l).toNat = v14 := by rw [eA15]; exact uA_eq
        refine jx_ld (pc_q := 151) (l_q := L2) (st_q := [.ref 66]) rfl (jl_aloadn gL2_0) ?_
        refine jr_get (pc_q := 154) (i := 117) (v := .ref 150) rfl rfl (by decide) rfl rfl ?_
        refine jx_ld (pc_q := 155) (l_q := L2) (st_q := [.int (i32 (l)), .ref 150]) rfl (jl_iloadn gL2_1) ?_
        refine jx_ar (pc_q := 156) (st_q := [.int (i32 (l)), .ref 150, .int (i32 (l)), .ref 150]) rfl rfl rfl rfl ?_
        refine jr_ldv (pc_q := 157) (i := 83) (m := 12) (z := l) (y := cam) rfl (by decide) rfl (by decide) (by omega) (by omega) rfl (show A15 83 (l).toNat = cam from (congrFun (((congrFun eA15 83).trans (uA_ne (by decide))).trans ((congrFun eA6 83).trans (uA_ne (by decide)))) _).trans (e_cam)) ?_
        refine jx_ar (pc_q := 158) (st_q := [.int (i32 (1)), .int (i32 (cam)), .int (i32 (l)), .ref 150]) rfl rfl rfl rfl ?_
        refine jx_add (pc_q := 159) rfl rfl ?_
        obtain ⟨v19, ev19⟩ : ∃ z, z = (i32 (cam + 1)).toInt := ⟨_, rfl⟩; have fv19 : i32 (cam + 1) = i32 v19 := (by rw [ev19]; exact (i32_of _).symm); rw [fv19]; have rv19 : (-2147483648 : Int) ≤ v19 ∧ v19 ≤ 2147483647 := ev19 ▸ i32_rg _
        refine jr_st (pc_q := 160) (i := 83) (m := 12) (z := l) (y := v19) rfl (by decide) rfl (by decide) (by omega) (by omega) rfl ?_
        have hW21 : Wk (uG G 121 (v11)) (uA A15 83 (l).toNat (v19)) := Wk_a hW16 (show (-2147483648 : Int) ≤ v19 by omega) (show v19 ≤ (2147483647 : Int) by omega)
        have hF22 := Fr_a (z := v19) (k := 83) (n := (l).toNat) hF17 (by decide)
        obtain ⟨A20, eA20⟩ : ∃ q, q = uA A15 83 (l).toNat (v19) := ⟨_, rfl⟩
        rw [← eA20]
        rw [← eA20] at hW21 hF22
        have q23 : A20 83 (l).toNat = v19 := by rw [eA20]; exact uA_eq
        refine jx_ld (pc_q := 161) (l_q := L2) (st_q := [.ref 66]) rfl (jl_aloadn gL2_0) ?_
        refine jr_get (pc_q := 164) (i := 117) (v := .ref 150) rfl rfl (by decide) rfl rfl ?_
        refine jx_ld (pc_q := 165) (l_q := L2) (st_q := [.int (i32 (l)), .ref 150]) rfl (jl_iloadn gL2_1) ?_
        refine jr_ldv (pc_q := 166) (i := 83) (m := 12) (z := l) (y := v19) rfl (by decide) rfl (by decide) (by omega) (by omega) rfl (show A20 83 (l).toNat = v19 from (q23)) ?_
        refine jx_ar (pc_q := 167) (st_q := [.int (i32 (4)), .int (i32 (v19))]) rfl rfl rfl rfl ?_
        refine jx_icmp_ge (pc_q := 170) (tg := 179) rfl rfl rfl (Int.le_trans (by decide : (-2147483648 : Int) ≤ -2147483648) rv19.1) (Int.le_trans rv19.2 (by decide : (2147483647 : Int) ≤ 2147483647)) (by decide) (by decide) (fun h24 => ?_) (fun h24 => ?_)
        · have _q := h24
          refine jx_ld (pc_q := 180) (l_q := L2) (st_q := [.ref 66]) rfl (jl_aloadn gL2_0) ?_
          refine jx_ld (pc_q := 181) (l_q := L2) (st_q := [.int (i32 (to1)), .ref 66]) rfl (jl_iloadn gL2_3) ?_
          refine jx_ld (pc_q := 182) (l_q := L2) (st_q := [.int (i32 (l)), .int (i32 (to1)), .ref 66]) rfl (jl_iloadn gL2_1) ?_
          refine jx_vr (pc_q := 185) (as := [.int (i32 (to1)), .int (i32 (l))]) (st := []) rfl rfl rfl rfl ⟨rfl, rfl, Nat.le_of_ble_eq_true rfl⟩ rfl rfl (c_load (dd := d) (hd := by omega) (hW := hW21) (p := to1) (a := l)   (h_p := ⟨(Int.le_trans (by decide : (-2147483648 : Int) ≤ -2147483648) b_to1.1), (Int.le_trans b_to1.2 (by decide : (2147483647 : Int) ≤ 2147483647))⟩) (h_a := ⟨(Int.le_trans (by decide : (-2147483648 : Int) ≤ -2147483648) h_l.1), (Int.le_trans h_l.2 (by decide : (2147483647 : Int) ≤ 2147483647))⟩)  (p_0 := by omega) (p_1 := by omega)) (fun o V_q hq => ?_)
          obtain ⟨r25, rfl, rfl, b26, p27, -⟩ := hq
          refine .inr ⟨_, rfl, ?_⟩
          refine jx_ld (pc_q := 187) (l_q := jSto1 L2 4 (.int (i32 (r25)))) (st_q := []) rfl rfl ?_
          obtain ⟨L29, eL29⟩ : ∃ q, q = jSto1 L2 4 (.int (i32 (r25))) := ⟨_, rfl⟩
          rw [← eL29]
          have gL29_0 : jGet L29 0 = some (.ref 66) := eL29 ▸ jg_ne (by decide) gL2_0 rfl
          have gL29_1 : jGet L29 1 = some (.int (i32 (l))) := eL29 ▸ jg_ne (by decide) gL2_1 rfl
          have gL29_2 : jGet L29 2 = some (.int (i32 (fr))) := eL29 ▸ jg_ne (by decide) gL2_2 rfl
          have gL29_3 : jGet L29 3 = some (.int (i32 (to1))) := eL29 ▸ jg_ne (by decide) gL2_3 rfl
          have gL29_4 : jGet L29 4 = some (.int (i32 (r25))) := eL29 ▸ jg_eq
          have hcm := p_6 to1 (by omega) (by omega); have hcm0 := hcm; unfold Cm at hcm
          refine jx_ld (pc_q := 189) (l_q := L29) (st_q := [.int (i32 (r25))]) rfl (jl_iload gL29_4) ?_
          refine jx_ar (pc_q := 190) (st_q := [.int (i32 (-1)), .int (i32 (r25))]) rfl rfl rfl rfl ?_
          refine jx_icmp_eq (pc_q := 193) (tg := 217) rfl rfl rfl (Int.le_trans (by decide : (-2147483648 : Int) ≤ -2147483648) b26.1) (Int.le_trans b26.2 (by decide : (2147483647 : Int) ≤ 2147483647)) (by decide) (by decide) (fun h30 => ?_) (fun h30 => ?_)
          · have _q := h30
            refine jx_ld (pc_q := 219) (l_q := L29) (st_q := [.int (i32 (r25))]) rfl (jl_iload gL29_4) ?_
            refine jx_ar (pc_q := 220) (st_q := [.int (i32 (-1)), .int (i32 (r25))]) rfl rfl rfl rfl ?_
            refine jx_icmp_eq (pc_q := 223) (tg := 273) rfl rfl rfl (Int.le_trans (by decide : (-2147483648 : Int) ≤ -2147483648) b26.1) (Int.le_trans b26.2 (by decide : (2147483647 : Int) ≤ 2147483647)) (by decide) (by decide) (fun h31 => ?_) (fun h31 => ?_)
            · have _q := h31
              have hk32 : A20 64 (to1).toNat = A 64 (to1).toNat := (congrFun (((congrFun eA20 64).trans (uA_ne (by decide))).trans (((congrFun eA15 64).trans (uA_ne (by decide))).trans ((congrFun eA6 64).trans (uA_ne (by decide))))) _)
              refine jx_ld (pc_q := 274) (l_q := L29) (st_q := [.ref 66]) rfl (jl_aloadn gL29_0) ?_
              refine jx_ld (pc_q := 275) (l_q := L29) (st_q := [.int (i32 (to1)), .ref 66]) rfl (jl_iloadn gL29_3) ?_
              have b33 : (-2147483648 : Int) ≤ A 66 (to1).toNat ∧ A 66 (to1).toNat ≤ 2147483647 := hW.2 66 _
              have b34 : (-2147483648 : Int) ≤ A 72 ((2 * to1)).toNat ∧ A 72 ((2 * to1)).toNat ≤ 2147483647 := hW.2 72 _
              have b35 : (-2147483648 : Int) ≤ A 72 (((2 * to1) + 1)).toNat ∧ A 72 (((2 * to1) + 1)).toNat ≤ 2147483647 := hW.2 72 _
              refine jx_vr (pc_q := 278) (as := [.int (i32 (to1))]) (st := []) rfl rfl rfl rfl ⟨rfl, rfl, Nat.le_of_ble_eq_true rfl⟩ rfl rfl (c_yield0 (dd := d) (hd := by omega) (hW := hW21) (p := to1) (rn0 := A 66 (to1).toNat) (e_rn0 := show A20 66 (to1).toNat = A 66 (to1).toNat from (congrFun (((congrFun eA20 66).trans (uA_ne (by decide))).trans (((congrFun eA15 66).trans (uA_ne (by decide))).trans ((congrFun eA6 66).trans (uA_ne (by decide))))) _)) (m0 := A 72 ((2 * to1)).toNat) (e_m0 := show A20 72 ((2 * to1)).toNat = A 72 ((2 * to1)).toNat from (congrFun (((congrFun eA20 72).trans (uA_ne (by decide))).trans (((congrFun eA15 72).trans (uA_ne (by decide))).trans ((congrFun eA6 72).trans (uA_ne (by decide))))) _)) (m1 := A 72 (((2 * to1) + 1)).toNat) (e_m1 := show A20 72 (((2 * to1) + 1)).toNat = A 72 (((2 * to1) + 1)).toNat from (congrFun (((congrFun eA20 72).trans (uA_ne (by decide))).trans (((congrFun eA15 72).trans (uA_ne (by decide))).trans ((congrFun eA6 72).trans (uA_ne (by decide))))) _))  (h_p := ⟨(Int.le_trans (by decide : (-2147483648 : Int) ≤ -2147483648) b_to1.1), (Int.le_trans b_to1.2 (by decide : (2147483647 : Int) ≤ 2147483647))⟩)  (p_0 := by omega) (p_1 := by omega) (p_2 := by omega) (p_3 := by omega) (p_4 := by omega) (p_5 := by omega) (p_6 := by omega)) (fun o V_q hq => ?_)
              obtain ⟨G36, A37, rfl, rfl, hW38, hF39, p40, -⟩ := hq
              have hF42 := Fr_tr hF22 hF39 (Fr_sub (by decide)) (Fr_sub (by decide))
              refine .inl ⟨rfl, ?_⟩
              refine jx_ar (pc_q := 279) (st_q := [.int (i32 (1))]) rfl rfl rfl rfl ?_
              refine jx_rt (v := some (.int (i32 (1)))) rfl rfl rfl rfl rfl (by first | rfl | exact jRet_b (by omega)) ?_
              exact ⟨_, _, _, rfl, rfl, hW38, hF42, by omega, (by first | exact btR_come0 _ _ _ _ _ _ _ e_to1 (by rw [show A 84 (l).toNat = du from e_du]; omega) (by rw [show A 80 (l).toNat = sen from e_sen]; omega) eA6 eA15 eA20 p27 (by omega) p40 | omega), trivial⟩
            · have _q := h31
              refine jx_ld (pc_q := 224) (l_q := L29) (st_q := [.ref 66]) rfl (jl_aloadn gL29_0) ?_
              refine jx_ld (pc_q := 225) (l_q := L29) (st_q := [.int (i32 (to1)), .ref 66]) rfl (jl_iloadn gL29_3) ?_
              refine jx_ld (pc_q := 226) (l_q := L29) (st_q := [.ref 66, .int (i32 (to1)), .ref 66]) rfl (jl_aloadn gL29_0) ?_
              refine jx_ld (pc_q := 227) (l_q := L29) (st_q := [.int (i32 (to1)), .ref 66, .int (i32 (to1)), .ref 66]) rfl (jl_iloadn gL29_3) ?_
              refine jx_ld (pc_q := 229) (l_q := L29) (st_q := [.int (i32 (r25)), .int (i32 (to1)), .ref 66, .int (i32 (to1)), .ref 66]) rfl (jl_iload gL29_4) ?_
              refine jx_ar (pc_q := 230) (st_q := [.int (i32 (1)), .int (i32 (r25)), .int (i32 (to1)), .ref 66, .int (i32 (to1)), .ref 66]) rfl rfl rfl rfl ?_
              refine jx_shr (pc_q := 231) rfl rfl ?_
              obtain ⟨b43, eb43⟩ : ∃ z, z = (i32 (r25) >>> (i32 (1) &&& 31)).toInt := ⟨_, rfl⟩
              rw [← eb43]
              have rb43 : (-2147483648 : Int) ≤ b43 ∧ b43 ≤ 2147483647 := eb43 ▸ i32_rg _
              have hb43 := (show b43 = (i32 r25 >>> (i32 1 &&& 31)).toInt from eb43).trans (shr_1 (by omega) (by omega))
              refine jx_ar (pc_q := 232) (st_q := [.int (i32 (2)), .int (i32 (b43)), .int (i32 (to1)), .ref 66, .int (i32 (to1)), .ref 66]) rfl rfl rfl rfl ?_
              refine jx_sub (pc_q := 233) rfl rfl ?_
              refine jx_vr (pc_q := 236) (as := [.int (i32 (to1)), .int (i32 ((b43 - 2)))]) (st := [.int (i32 (to1)), .ref 66]) rfl rfl rfl rfl ⟨rfl, rfl, Nat.le_of_ble_eq_true rfl⟩ rfl rfl (c_load (dd := d) (hd := by omega) (hW := hW21) (p := to1) (a := (b43 - 2))   (h_p := ⟨(Int.le_trans (by decide : (-2147483648 : Int) ≤ -2147483648) b_to1.1), (Int.le_trans b_to1.2 (by decide : (2147483647 : Int) ≤ 2147483647))⟩) (h_a := ⟨(by omega), (by omega)⟩)  (p_0 := by omega) (p_1 := by omega)) (fun o V_q hq => ?_)
              obtain ⟨r44, rfl, rfl, b45, p46, -⟩ := hq
              refine .inr ⟨_, rfl, ?_⟩
              refine jx_ld (pc_q := 237) (l_q := L29) (st_q := [.ref 66, .int (i32 (r44)), .int (i32 (to1)), .ref 66]) rfl (jl_aloadn gL29_0) ?_
              refine jr_get (pc_q := 240) (i := 115) (v := .ref 148) rfl rfl (by decide) rfl rfl ?_
              refine jx_ld (pc_q := 241) (l_q := L29) (st_q := [.int (i32 (l)), .ref 148, .int (i32 (r44)), .int (i32 (to1)), .ref 66]) rfl (jl_iloadn gL29_1) ?_
              refine jr_ldv (pc_q := 242) (i := 81) (m := 12) (z := l) (y := wrd) rfl (by decide) rfl (by decide) (by omega) (by omega) rfl (show A20 81 (l).toNat = wrd from (congrFun (((congrFun eA20 81).trans (uA_ne (by decide))).trans (((congrFun eA15 81).trans (uA_ne (by decide))).trans ((congrFun eA6 81).trans (uA_ne (by decide))))) _).trans (e_wrd)) ?_
              refine jx_vr (pc_q := 245) (as := [.int (i32 (to1)), .int (i32 (r44)), .int (i32 (wrd))]) (st := []) rfl rfl rfl rfl ⟨rfl, rfl, Nat.le_of_ble_eq_true rfl⟩ rfl rfl (c_store (dd := d) (hd := by omega) (hW := hW21) (p := to1) (a := r44) (v := wrd)   (h_p := ⟨(Int.le_trans (by decide : (-2147483648 : Int) ≤ -2147483648) b_to1.1), (Int.le_trans b_to1.2 (by decide : (2147483647 : Int) ≤ 2147483647))⟩) (h_a := ⟨(Int.le_trans (by decide : (-2147483648 : Int) ≤ -2147483648) b45.1), (Int.le_trans b45.2 (by decide : (2147483647 : Int) ≤ 2147483647))⟩) (h_v := ⟨(Int.le_trans (by decide : (-2147483648 : Int) ≤ -2147483648) b_wrd.1), (Int.le_trans b_wrd.2 (by decide : (2147483647 : Int) ≤ 2147483647))⟩)  (p_0 := by omega) (p_1 := by omega)) (fun o V_q hq => ?_)
              obtain ⟨G48, A49, rfl, rfl, hW50, hF51, p52, -⟩ := hq
              have hF54 := Fr_tr hF22 hF51 (Fr_sub (by decide)) (Fr_sub (by decide))
              refine .inl ⟨rfl, ?_⟩
              refine jx_ld (pc_q := 246) (l_q := L29) (st_q := [.ref 66]) rfl (jl_aloadn gL29_0) ?_
              refine jx_ld (pc_q := 247) (l_q := L29) (st_q := [.int (i32 (to1)), .ref 66]) rfl (jl_iloadn gL29_3) ?_
              refine jx_ld (pc_q := 248) (l_q := L29) (st_q := [.int (i32 (l)), .int (i32 (to1)), .ref 66]) rfl (jl_iloadn gL29_1) ?_
              refine jx_ar (pc_q := 249) (st_q := [.int (i32 (-1)), .int (i32 (l)), .int (i32 (to1)), .ref 66]) rfl rfl rfl rfl ?_
              refine jx_vr (pc_q := 252) (as := [.int (i32 (to1)), .int (i32 (l)), .int (i32 (-1))]) (st := []) rfl rfl rfl rfl ⟨rfl, rfl, Nat.le_of_ble_eq_true rfl⟩ rfl rfl (c_store (dd := d) (hd := by omega) (hW := hW50) (p := to1) (a := l) (v := -1)   (h_p := ⟨(Int.le_trans (by decide : (-2147483648 : Int) ≤ -2147483648) b_to1.1), (Int.le_trans b_to1.2 (by decide : (2147483647 : Int) ≤ 2147483647))⟩) (h_a := ⟨(Int.le_trans (by decide : (-2147483648 : Int) ≤ -2147483648) h_l.1), (Int.le_trans h_l.2 (by decide : (2147483647 : Int) ≤ 2147483647))⟩) (h_v := ⟨(by decide), (by decide)⟩)  (p_0 := by omega) (p_1 := by omega)) (fun o V_q hq => ?_)
              obtain ⟨G55, A56, rfl, rfl, hW57, hF58, p59, -⟩ := hq
              have hF61 := Fr_tr hF54 hF58 (Fr_sub (by decide)) (Fr_sub (by decide))
              refine .inl ⟨rfl, ?_⟩
              refine jx_ld (pc_q := 253) (l_q := L29) (st_q := [.ref 66]) rfl (jl_aloadn gL29_0) ?_
              refine jr_get (pc_q := 256) (i := 117) (v := .ref 150) rfl rfl (by decide) rfl rfl ?_
              refine jx_ld (pc_q := 257) (l_q := L29) (st_q := [.int (i32 (l)), .ref 150]) rfl (jl_iloadn gL29_1) ?_
              refine jx_ar (pc_q := 258) (st_q := [.int (i32 (0)), .int (i32 (l)), .ref 150]) rfl rfl rfl rfl ?_
              refine jr_st (pc_q := 259) (i := 83) (m := 12) (z := l) (y := 0) rfl (by decide) rfl (by decide) (by omega) (by omega) rfl ?_
              have hW63 : Wk G55 (uA A56 83 (l).toNat (0)) := Wk_a hW57 (show (-2147483648 : Int) ≤ 0 by omega) (show 0 ≤ (2147483647 : Int) by omega)
              have hF64 := Fr_a (z := 0) (k := 83) (n := (l).toNat) hF61 (by decide)
              obtain ⟨A62, eA62⟩ : ∃ q, q = uA A56 83 (l).toNat (0) := ⟨_, rfl⟩
              rw [← eA62]
              rw [← eA62] at hW63 hF64
              have q65 : A62 83 (l).toNat = 0 := by rw [eA62]; exact uA_eq
              refine jx_ld (pc_q := 260) (l_q := L29) (st_q := [.ref 66]) rfl (jl_aloadn gL29_0) ?_
              refine jr_get (pc_q := 263) (i := 118) (v := .ref 151) rfl rfl (by decide) rfl rfl ?_
              refine jx_ld (pc_q := 264) (l_q := L29) (st_q := [.int (i32 (l)), .ref 151]) rfl (jl_iloadn gL29_1) ?_
              refine jx_ar (pc_q := 265) (st_q := [.int (i32 (1)), .int (i32 (l)), .ref 151]) rfl rfl rfl rfl ?_
              refine jr_sb (pc_q := 266) (i := 84) (m := 12) (z := l) (y := 1) rfl (by decide) rfl (by decide) (by omega) (by omega) (by omega) rfl ?_
              have hW67 : Wk G55 (uA A62 84 (l).toNat (1)) := Wk_a hW63 (show (0 : Int) ≤ 1 by omega) (show 1 ≤ (1 : Int) by omega)
              have hF68 := Fr_a (z := 1) (k := 84) (n := (l).toNat) hF64 (by decide)
              obtain ⟨A66, eA66⟩ : ∃ q, q = uA A62 84 (l).toNat (1) := ⟨_, rfl⟩
              rw [← eA66]
              rw [← eA66] at hW67 hF68
              have q69 : A66 84 (l).toNat = 1 := by rw [eA66]; exact uA_eq
              have hr70 : A66 72 = A 72 := (((congrFun eA66 72).trans (uA_ne (by decide))).trans (((congrFun eA62 72).trans (uA_ne (by decide))).trans ((hF58.2 72 rfl).trans ((hF51.2 72 rfl).trans (((congrFun eA20 72).trans (uA_ne (by decide))).trans (((congrFun eA15 72).trans (uA_ne (by decide))).trans ((congrFun eA6 72).trans (uA_ne (by decide))))))))); have hr71 : A66 64 = A 64 := (((congrFun eA66 64).trans (uA_ne (by decide))).trans (((congrFun eA62 64).trans (uA_ne (by decide))).trans ((hF58.2 64 rfl).trans ((hF51.2 64 rfl).trans (((congrFun eA20 64).trans (uA_ne (by decide))).trans (((congrFun eA15 64).trans (uA_ne (by decide))).trans ((congrFun eA6 64).trans (uA_ne (by decide))))))))); have hr72 : A66 66 = A 66 := (((congrFun eA66 66).trans (uA_ne (by decide))).trans (((congrFun eA62 66).trans (uA_ne (by decide))).trans ((hF58.2 66 rfl).trans ((hF51.2 66 rfl).trans (((congrFun eA20 66).trans (uA_ne (by decide))).trans (((congrFun eA15 66).trans (uA_ne (by decide))).trans ((congrFun eA6 66).trans (uA_ne (by decide)))))))))
              refine jx_ld (pc_q := 267) (l_q := L29) (st_q := [.ref 66]) rfl (jl_aloadn gL29_0) ?_
              refine jx_ld (pc_q := 268) (l_q := L29) (st_q := [.int (i32 (to1)), .ref 66]) rfl (jl_iloadn gL29_3) ?_
              refine jx_ld (pc_q := 270) (l_q := L29) (st_q := [.int (i32 (r25)), .int (i32 (to1)), .ref 66]) rfl (jl_iload gL29_4) ?_
              have b73 : (-2147483648 : Int) ≤ A 72 ((2 * to1)).toNat ∧ A 72 ((2 * to1)).toNat ≤ 2147483647 := hW.2 72 _
              have b74 : (-2147483648 : Int) ≤ A 72 (((2 * to1) + 1)).toNat ∧ A 72 (((2 * to1) + 1)).toNat ≤ 2147483647 := hW.2 72 _
              refine jx_vr (pc_q := 273) (as := [.int (i32 (to1)), .int (i32 (r25))]) (st := []) rfl rfl rfl rfl ⟨rfl, rfl, Nat.le_of_ble_eq_true rfl⟩ rfl rfl (c_makeReady (dd := d) (hd := by omega) (hW := hW67) (p := to1) (d2 := r25) (m0 := A 72 ((2 * to1)).toNat) (e_m0 := show A66 72 ((2 * to1)).toNat = A 72 ((2 * to1)).toNat from (congrFun (((congrFun eA66 72).trans (uA_ne (by decide))).trans (((congrFun eA62 72).trans (uA_ne (by decide))).trans ((hF58.2 72 rfl).trans ((hF51.2 72 rfl).trans (((congrFun eA20 72).trans (uA_ne (by decide))).trans (((congrFun eA15 72).trans (uA_ne (by decide))).trans ((congrFun eA6 72).trans (uA_ne (by decide))))))))) _)) (m1 := A 72 (((2 * to1) + 1)).toNat) (e_m1 := show A66 72 (((2 * to1) + 1)).toNat = A 72 (((2 * to1) + 1)).toNat from (congrFun (((congrFun eA66 72).trans (uA_ne (by decide))).trans (((congrFun eA62 72).trans (uA_ne (by decide))).trans ((hF58.2 72 rfl).trans ((hF51.2 72 rfl).trans (((congrFun eA20 72).trans (uA_ne (by decide))).trans (((congrFun eA15 72).trans (uA_ne (by decide))).trans ((congrFun eA6 72).trans (uA_ne (by decide))))))))) _))  (h_p := ⟨(Int.le_trans (by decide : (-2147483648 : Int) ≤ -2147483648) b_to1.1), (Int.le_trans b_to1.2 (by decide : (2147483647 : Int) ≤ 2147483647))⟩) (h_d2 := ⟨(Int.le_trans (by decide : (-2147483648 : Int) ≤ -2147483648) b26.1), (Int.le_trans b26.2 (by decide : (2147483647 : Int) ≤ 2147483647))⟩)  (p_0 := by omega) (p_1 := by omega) (p_2 := by omega) (p_3 := by omega) (p_4 := by omega) (p_5 := by omega)) (fun o V_q hq => ?_)
              obtain ⟨G75, A76, rfl, rfl, hW77, hF78, p79, -⟩ := hq
              have hF81 := Fr_tr hF68 hF78 (Fr_sub (by decide)) (Fr_sub (by decide))
              refine .inl ⟨rfl, ?_⟩
              have hg5 := mk_g p79 hr70 hr71 hr72 (by omega) hcm0
              refine jx_ld (pc_q := 274) (l_q := L29) (st_q := [.ref 66]) rfl (jl_aloadn gL29_0) ?_
              refine jx_ld (pc_q := 275) (l_q := L29) (st_q := [.int (i32 (to1)), .ref 66]) rfl (jl_iloadn gL29_3) ?_
              have b82 : (-2147483648 : Int) ≤ A76 66 (to1).toNat ∧ A76 66 (to1).toNat ≤ 2147483647 := hW77.2 66 _
              have b83 : (-2147483648 : Int) ≤ A76 72 ((2 * to1)).toNat ∧ A76 72 ((2 * to1)).toNat ≤ 2147483647 := hW77.2 72 _
              have b84 : (-2147483648 : Int) ≤ A76 72 (((2 * to1) + 1)).toNat ∧ A76 72 (((2 * to1) + 1)).toNat ≤ 2147483647 := hW77.2 72 _
              refine jx_vr (pc_q := 278) (as := [.int (i32 (to1))]) (st := []) rfl rfl rfl rfl ⟨rfl, rfl, Nat.le_of_ble_eq_true rfl⟩ rfl rfl (c_yield0 (dd := d) (hd := by omega) (hW := hW77) (p := to1) (rn0 := A76 66 (to1).toNat) (e_rn0 := show A76 66 (to1).toNat = A76 66 (to1).toNat from rfl) (m0 := A76 72 ((2 * to1)).toNat) (e_m0 := show A76 72 ((2 * to1)).toNat = A76 72 ((2 * to1)).toNat from rfl) (m1 := A76 72 (((2 * to1) + 1)).toNat) (e_m1 := show A76 72 (((2 * to1) + 1)).toNat = A76 72 (((2 * to1) + 1)).toNat from rfl)  (h_p := ⟨(Int.le_trans (by decide : (-2147483648 : Int) ≤ -2147483648) b_to1.1), (Int.le_trans b_to1.2 (by decide : (2147483647 : Int) ≤ 2147483647))⟩)  (p_0 := by omega) (p_1 := by omega) (p_2 := by omega) (p_3 := by omega) (p_4 := by omega) (p_5 := by omega) (p_6 := by omega)) (fun o V_q hq => ?_)
              obtain ⟨G85, A86, rfl, rfl, hW87, hF88, p89, -⟩ := hq
              have hF91 := Fr_tr hF81 hF88 (Fr_sub (by decide)) (Fr_sub (by decide))
              refine .inl ⟨rfl, ?_⟩
              refine jx_ar (pc_q := 279) (st_q := [.int (i32 (1))]) rfl rfl rfl rfl ?_
              refine jx_rt (v := some (.int (i32 (1)))) rfl rfl rfl rfl rfl (by first | rfl | exact jRet_b (by omega)) ?_
              exact ⟨_, _, _, rfl, rfl, hW87, hF91, by omega, (by omega), trivial⟩
          · have _q := h30
            refine jx_ld (pc_q := 194) (l_q := L29) (st_q := [.ref 66]) rfl (jl_aloadn gL29_0) ?_
            refine jx_ld (pc_q := 195) (l_q := L29) (st_q := [.int (i32 (to1)), .ref 66]) rfl (jl_iloadn gL29_3) ?_
            refine jx_ld (pc_q := 197) (l_q := L29) (st_q := [.int (i32 (r25)), .int (i32 (to1)), .ref 66]) rfl (jl_iload gL29_4) ?_
            refine jx_ar (pc_q := 198) (st_q := [.int (i32 (1)), .int (i32 (r25)), .int (i32 (to1)), .ref 66]) rfl rfl rfl rfl ?_
            refine jx_shr (pc_q := 199) rfl rfl ?_
            obtain ⟨b92, eb92⟩ : ∃ z, z = (i32 (r25) >>> (i32 (1) &&& 31)).toInt := ⟨_, rfl⟩
            rw [← eb92]
            have rb92 : (-2147483648 : Int) ≤ b92 ∧ b92 ≤ 2147483647 := eb92 ▸ i32_rg _
            have hb92 := (show b92 = (i32 r25 >>> (i32 1 &&& 31)).toInt from eb92).trans (shr_1 (by omega) (by omega))
            refine jx_ar (pc_q := 200) (st_q := [.int (i32 (3)), .int (i32 (b92)), .int (i32 (to1)), .ref 66]) rfl rfl rfl rfl ?_
            refine jx_sub (pc_q := 201) rfl rfl ?_
            refine jx_vr (pc_q := 204) (as := [.int (i32 (to1)), .int (i32 ((b92 - 3)))]) (st := []) rfl rfl rfl rfl ⟨rfl, rfl, Nat.le_of_ble_eq_true rfl⟩ rfl rfl (c_load (dd := d) (hd := by omega) (hW := hW21) (p := to1) (a := (b92 - 3))   (h_p := ⟨(Int.le_trans (by decide : (-2147483648 : Int) ≤ -2147483648) b_to1.1), (Int.le_trans b_to1.2 (by decide : (2147483647 : Int) ≤ 2147483647))⟩) (h_a := ⟨(by omega), (by omega)⟩)  (p_0 := by omega) (p_1 := by omega)) (fun o V_q hq => ?_)
            obtain ⟨r93, rfl, rfl, b94, p95, -⟩ := hq
            refine .inr ⟨_, rfl, ?_⟩
            refine jx_if_eq (pc_q := 207) (tg := 217) rfl rfl rfl (Int.le_trans (by decide : (-2147483648 : Int) ≤ -2147483648) b94.1) (Int.le_trans b94.2 (by decide : (2147483647 : Int) ≤ 2147483647)) (fun h97 => ?_) (fun h97 => ?_)
            · have _q := h97
              refine jx_ld (pc_q := 219) (l_q := L29) (st_q := [.int (i32 (r25))]) rfl (jl_iload gL29_4) ?_
              refine jx_ar (pc_q := 220) (st_q := [.int (i32 (-1)), .int (i32 (r25))]) rfl rfl rfl rfl ?_
              refine jx_icmp_eq (pc_q := 223) (tg := 273) rfl rfl rfl (Int.le_trans (by decide : (-2147483648 : Int) ≤ -2147483648) b26.1) (Int.le_trans b26.2 (by decide : (2147483647 : Int) ≤ 2147483647)) (by decide) (by decide) (fun h98 => ?_) (fun h98 => ?_)
              · have _q := h98
                have hk99 : A20 64 (to1).toNat = A 64 (to1).toNat := (congrFun (((congrFun eA20 64).trans (uA_ne (by decide))).trans (((congrFun eA15 64).trans (uA_ne (by decide))).trans ((congrFun eA6 64).trans (uA_ne (by decide))))) _)
                refine jx_ld (pc_q := 274) (l_q := L29) (st_q := [.ref 66]) rfl (jl_aloadn gL29_0) ?_
                refine jx_ld (pc_q := 275) (l_q := L29) (st_q := [.int (i32 (to1)), .ref 66]) rfl (jl_iloadn gL29_3) ?_
                have b100 : (-2147483648 : Int) ≤ A 66 (to1).toNat ∧ A 66 (to1).toNat ≤ 2147483647 := hW.2 66 _
                have b101 : (-2147483648 : Int) ≤ A 72 ((2 * to1)).toNat ∧ A 72 ((2 * to1)).toNat ≤ 2147483647 := hW.2 72 _
                have b102 : (-2147483648 : Int) ≤ A 72 (((2 * to1) + 1)).toNat ∧ A 72 (((2 * to1) + 1)).toNat ≤ 2147483647 := hW.2 72 _
                refine jx_vr (pc_q := 278) (as := [.int (i32 (to1))]) (st := []) rfl rfl rfl rfl ⟨rfl, rfl, Nat.le_of_ble_eq_true rfl⟩ rfl rfl (c_yield0 (dd := d) (hd := by omega) (hW := hW21) (p := to1) (rn0 := A 66 (to1).toNat) (e_rn0 := show A20 66 (to1).toNat = A 66 (to1).toNat from (congrFun (((congrFun eA20 66).trans (uA_ne (by decide))).trans (((congrFun eA15 66).trans (uA_ne (by decide))).trans ((congrFun eA6 66).trans (uA_ne (by decide))))) _)) (m0 := A 72 ((2 * to1)).toNat) (e_m0 := show A20 72 ((2 * to1)).toNat = A 72 ((2 * to1)).toNat from (congrFun (((congrFun eA20 72).trans (uA_ne (by decide))).trans (((congrFun eA15 72).trans (uA_ne (by decide))).trans ((congrFun eA6 72).trans (uA_ne (by decide))))) _)) (m1 := A 72 (((2 * to1) + 1)).toNat) (e_m1 := show A20 72 (((2 * to1) + 1)).toNat = A 72 (((2 * to1) + 1)).toNat from (congrFun (((congrFun eA20 72).trans (uA_ne (by decide))).trans (((congrFun eA15 72).trans (uA_ne (by decide))).trans ((congrFun eA6 72).trans (uA_ne (by decide))))) _))  (h_p := ⟨(Int.le_trans (by decide : (-2147483648 : Int) ≤ -2147483648) b_to1.1), (Int.le_trans b_to1.2 (by decide : (2147483647 : Int) ≤ 2147483647))⟩)  (p_0 := by omega) (p_1 := by omega) (p_2 := by omega) (p_3 := by omega) (p_4 := by omega) (p_5 := by omega) (p_6 := by omega)) (fun o V_q hq => ?_)
                obtain ⟨G103, A104, rfl, rfl, hW105, hF106, p107, -⟩ := hq
                have hF109 := Fr_tr hF22 hF106 (Fr_sub (by decide)) (Fr_sub (by decide))
                refine .inl ⟨rfl, ?_⟩
                refine jx_ar (pc_q := 279) (st_q := [.int (i32 (1))]) rfl rfl rfl rfl ?_
                refine jx_rt (v := some (.int (i32 (1)))) rfl rfl rfl rfl rfl (by first | rfl | exact jRet_b (by omega)) ?_
                exact ⟨_, _, _, rfl, rfl, hW105, hF109, by omega, (by first | exact btR_come0 _ _ _ _ _ _ _ e_to1 (by rw [show A 84 (l).toNat = du from e_du]; omega) (by rw [show A 80 (l).toNat = sen from e_sen]; omega) eA6 eA15 eA20 p27 (by omega) p107 | omega), trivial⟩
              · have _q := h98
                refine jx_ld (pc_q := 224) (l_q := L29) (st_q := [.ref 66]) rfl (jl_aloadn gL29_0) ?_
                refine jx_ld (pc_q := 225) (l_q := L29) (st_q := [.int (i32 (to1)), .ref 66]) rfl (jl_iloadn gL29_3) ?_
                refine jx_ld (pc_q := 226) (l_q := L29) (st_q := [.ref 66, .int (i32 (to1)), .ref 66]) rfl (jl_aloadn gL29_0) ?_
                refine jx_ld (pc_q := 227) (l_q := L29) (st_q := [.int (i32 (to1)), .ref 66, .int (i32 (to1)), .ref 66]) rfl (jl_iloadn gL29_3) ?_
                refine jx_ld (pc_q := 229) (l_q := L29) (st_q := [.int (i32 (r25)), .int (i32 (to1)), .ref 66, .int (i32 (to1)), .ref 66]) rfl (jl_iload gL29_4) ?_
                refine jx_ar (pc_q := 230) (st_q := [.int (i32 (1)), .int (i32 (r25)), .int (i32 (to1)), .ref 66, .int (i32 (to1)), .ref 66]) rfl rfl rfl rfl ?_
                refine jx_shr (pc_q := 231) rfl rfl ?_
                obtain ⟨b110, eb110⟩ : ∃ z, z = (i32 (r25) >>> (i32 (1) &&& 31)).toInt := ⟨_, rfl⟩
                rw [← eb110]
                have rb110 : (-2147483648 : Int) ≤ b110 ∧ b110 ≤ 2147483647 := eb110 ▸ i32_rg _
                have hb110 := (show b110 = (i32 r25 >>> (i32 1 &&& 31)).toInt from eb110).trans (shr_1 (by omega) (by omega))
                refine jx_ar (pc_q := 232) (st_q := [.int (i32 (2)), .int (i32 (b110)), .int (i32 (to1)), .ref 66, .int (i32 (to1)), .ref 66]) rfl rfl rfl rfl ?_
                refine jx_sub (pc_q := 233) rfl rfl ?_
                refine jx_vr (pc_q := 236) (as := [.int (i32 (to1)), .int (i32 ((b110 - 2)))]) (st := [.int (i32 (to1)), .ref 66]) rfl rfl rfl rfl ⟨rfl, rfl, Nat.le_of_ble_eq_true rfl⟩ rfl rfl (c_load (dd := d) (hd := by omega) (hW := hW21) (p := to1) (a := (b110 - 2))   (h_p := ⟨(Int.le_trans (by decide : (-2147483648 : Int) ≤ -2147483648) b_to1.1), (Int.le_trans b_to1.2 (by decide : (2147483647 : Int) ≤ 2147483647))⟩) (h_a := ⟨(by omega), (by omega)⟩)  (p_0 := by omega) (p_1 := by omega)) (fun o V_q hq => ?_)
                obtain ⟨r111, rfl, rfl, b112, p113, -⟩ := hq
                refine .inr ⟨_, rfl, ?_⟩
                refine jx_ld (pc_q := 237) (l_q := L29) (st_q := [.ref 66, .int (i32 (r111)), .int (i32 (to1)), .ref 66]) rfl (jl_aloadn gL29_0) ?_
                refine jr_get (pc_q := 240) (i := 115) (v := .ref 148) rfl rfl (by decide) rfl rfl ?_
                refine jx_ld (pc_q := 241) (l_q := L29) (st_q := [.int (i32 (l)), .ref 148, .int (i32 (r111)), .int (i32 (to1)), .ref 66]) rfl (jl_iloadn gL29_1) ?_
                refine jr_ldv (pc_q := 242) (i := 81) (m := 12) (z := l) (y := wrd) rfl (by decide) rfl (by decide) (by omega) (by omega) rfl (show A20 81 (l).toNat = wrd from (congrFun (((congrFun eA20 81).trans (uA_ne (by decide))).trans (((congrFun eA15 81).trans (uA_ne (by decide))).trans ((congrFun eA6 81).trans (uA_ne (by decide))))) _).trans (e_wrd)) ?_
                refine jx_vr (pc_q := 245) (as := [.int (i32 (to1)), .int (i32 (r111)), .int (i32 (wrd))]) (st := []) rfl rfl rfl rfl ⟨rfl, rfl, Nat.le_of_ble_eq_true rfl⟩ rfl rfl (c_store (dd := d) (hd := by omega) (hW := hW21) (p := to1) (a := r111) (v := wrd)   (h_p := ⟨(Int.le_trans (by decide : (-2147483648 : Int) ≤ -2147483648) b_to1.1), (Int.le_trans b_to1.2 (by decide : (2147483647 : Int) ≤ 2147483647))⟩) (h_a := ⟨(Int.le_trans (by decide : (-2147483648 : Int) ≤ -2147483648) b112.1), (Int.le_trans b112.2 (by decide : (2147483647 : Int) ≤ 2147483647))⟩) (h_v := ⟨(Int.le_trans (by decide : (-2147483648 : Int) ≤ -2147483648) b_wrd.1), (Int.le_trans b_wrd.2 (by decide : (2147483647 : Int) ≤ 2147483647))⟩)  (p_0 := by omega) (p_1 := by omega)) (fun o V_q hq => ?_)
                obtain ⟨G115, A116, rfl, rfl, hW117, hF118, p119, -⟩ := hq
                have hF121 := Fr_tr hF22 hF118 (Fr_sub (by decide)) (Fr_sub (by decide))
                refine .inl ⟨rfl, ?_⟩
                refine jx_ld (pc_q := 246) (l_q := L29) (st_q := [.ref 66]) rfl (jl_aloadn gL29_0) ?_
                refine jx_ld (pc_q := 247) (l_q := L29) (st_q := [.int (i32 (to1)), .ref 66]) rfl (jl_iloadn gL29_3) ?_
                refine jx_ld (pc_q := 248) (l_q := L29) (st_q := [.int (i32 (l)), .int (i32 (to1)), .ref 66]) rfl (jl_iloadn gL29_1) ?_
                refine jx_ar (pc_q := 249) (st_q := [.int (i32 (-1)), .int (i32 (l)), .int (i32 (to1)), .ref 66]) rfl rfl rfl rfl ?_
                refine jx_vr (pc_q := 252) (as := [.int (i32 (to1)), .int (i32 (l)), .int (i32 (-1))]) (st := []) rfl rfl rfl rfl ⟨rfl, rfl, Nat.le_of_ble_eq_true rfl⟩ rfl rfl (c_store (dd := d) (hd := by omega) (hW := hW117) (p := to1) (a := l) (v := -1)   (h_p := ⟨(Int.le_trans (by decide : (-2147483648 : Int) ≤ -2147483648) b_to1.1), (Int.le_trans b_to1.2 (by decide : (2147483647 : Int) ≤ 2147483647))⟩) (h_a := ⟨(Int.le_trans (by decide : (-2147483648 : Int) ≤ -2147483648) h_l.1), (Int.le_trans h_l.2 (by decide : (2147483647 : Int) ≤ 2147483647))⟩) (h_v := ⟨(by decide), (by decide)⟩)  (p_0 := by omega) (p_1 := by omega)) (fun o V_q hq => ?_)
                obtain ⟨G122, A123, rfl, rfl, hW124, hF125, p126, -⟩ := hq
                have hF128 := Fr_tr hF121 hF125 (Fr_sub (by decide)) (Fr_sub (by decide))
                refine .inl ⟨rfl, ?_⟩
                refine jx_ld (pc_q := 253) (l_q := L29) (st_q := [.ref 66]) rfl (jl_aloadn gL29_0) ?_
                refine jr_get (pc_q := 256) (i := 117) (v := .ref 150) rfl rfl (by decide) rfl rfl ?_
                refine jx_ld (pc_q := 257) (l_q := L29) (st_q := [.int (i32 (l)), .ref 150]) rfl (jl_iloadn gL29_1) ?_
                refine jx_ar (pc_q := 258) (st_q := [.int (i32 (0)), .int (i32 (l)), .ref 150]) rfl rfl rfl rfl ?_
                refine jr_st (pc_q := 259) (i := 83) (m := 12) (z := l) (y := 0) rfl (by decide) rfl (by decide) (by omega) (by omega) rfl ?_
                have hW130 : Wk G122 (uA A123 83 (l).toNat (0)) := Wk_a hW124 (show (-2147483648 : Int) ≤ 0 by omega) (show 0 ≤ (2147483647 : Int) by omega)
                have hF131 := Fr_a (z := 0) (k := 83) (n := (l).toNat) hF128 (by decide)
                obtain ⟨A129, eA129⟩ : ∃ q, q = uA A123 83 (l).toNat (0) := ⟨_, rfl⟩
                rw [← eA129]
                rw [← eA129] at hW130 hF131
                have q132 : A129 83 (l).toNat = 0 := by rw [eA129]; exact uA_eq
                refine jx_ld (pc_q := 260) (l_q := L29) (st_q := [.ref 66]) rfl (jl_aloadn gL29_0) ?_
                refine jr_get (pc_q := 263) (i := 118) (v := .ref 151) rfl rfl (by decide) rfl rfl ?_
                refine jx_ld (pc_q := 264) (l_q := L29) (st_q := [.int (i32 (l)), .ref 151]) rfl (jl_iloadn gL29_1) ?_
                refine jx_ar (pc_q := 265) (st_q := [.int (i32 (1)), .int (i32 (l)), .ref 151]) rfl rfl rfl rfl ?_
                refine jr_sb (pc_q := 266) (i := 84) (m := 12) (z := l) (y := 1) rfl (by decide) rfl (by decide) (by omega) (by omega) (by omega) rfl ?_
                have hW134 : Wk G122 (uA A129 84 (l).toNat (1)) := Wk_a hW130 (show (0 : Int) ≤ 1 by omega) (show 1 ≤ (1 : Int) by omega)
                have hF135 := Fr_a (z := 1) (k := 84) (n := (l).toNat) hF131 (by decide)
                obtain ⟨A133, eA133⟩ : ∃ q, q = uA A129 84 (l).toNat (1) := ⟨_, rfl⟩
                rw [← eA133]
                rw [← eA133] at hW134 hF135
                have q136 : A133 84 (l).toNat = 1 := by rw [eA133]; exact uA_eq
                have hr137 : A133 72 = A 72 := (((congrFun eA133 72).trans (uA_ne (by decide))).trans (((congrFun eA129 72).trans (uA_ne (by decide))).trans ((hF125.2 72 rfl).trans ((hF118.2 72 rfl).trans (((congrFun eA20 72).trans (uA_ne (by decide))).trans (((congrFun eA15 72).trans (uA_ne (by decide))).trans ((congrFun eA6 72).trans (uA_ne (by decide))))))))); have hr138 : A133 64 = A 64 := (((congrFun eA133 64).trans (uA_ne (by decide))).trans (((congrFun eA129 64).trans (uA_ne (by decide))).trans ((hF125.2 64 rfl).trans ((hF118.2 64 rfl).trans (((congrFun eA20 64).trans (uA_ne (by decide))).trans (((congrFun eA15 64).trans (uA_ne (by decide))).trans ((congrFun eA6 64).trans (uA_ne (by decide))))))))); have hr139 : A133 66 = A 66 := (((congrFun eA133 66).trans (uA_ne (by decide))).trans (((congrFun eA129 66).trans (uA_ne (by decide))).trans ((hF125.2 66 rfl).trans ((hF118.2 66 rfl).trans (((congrFun eA20 66).trans (uA_ne (by decide))).trans (((congrFun eA15 66).trans (uA_ne (by decide))).trans ((congrFun eA6 66).trans (uA_ne (by decide)))))))))
                refine jx_ld (pc_q := 267) (l_q := L29) (st_q := [.ref 66]) rfl (jl_aloadn gL29_0) ?_
                refine jx_ld (pc_q := 268) (l_q := L29) (st_q := [.int (i32 (to1)), .ref 66]) rfl (jl_iloadn gL29_3) ?_
                refine jx_ld (pc_q := 270) (l_q := L29) (st_q := [.int (i32 (r25)), .int (i32 (to1)), .ref 66]) rfl (jl_iload gL29_4) ?_
                have b140 : (-2147483648 : Int) ≤ A 72 ((2 * to1)).toNat ∧ A 72 ((2 * to1)).toNat ≤ 2147483647 := hW.2 72 _
                have b141 : (-2147483648 : Int) ≤ A 72 (((2 * to1) + 1)).toNat ∧ A 72 (((2 * to1) + 1)).toNat ≤ 2147483647 := hW.2 72 _
                refine jx_vr (pc_q := 273) (as := [.int (i32 (to1)), .int (i32 (r25))]) (st := []) rfl rfl rfl rfl ⟨rfl, rfl, Nat.le_of_ble_eq_true rfl⟩ rfl rfl (c_makeReady (dd := d) (hd := by omega) (hW := hW134) (p := to1) (d2 := r25) (m0 := A 72 ((2 * to1)).toNat) (e_m0 := show A133 72 ((2 * to1)).toNat = A 72 ((2 * to1)).toNat from (congrFun (((congrFun eA133 72).trans (uA_ne (by decide))).trans (((congrFun eA129 72).trans (uA_ne (by decide))).trans ((hF125.2 72 rfl).trans ((hF118.2 72 rfl).trans (((congrFun eA20 72).trans (uA_ne (by decide))).trans (((congrFun eA15 72).trans (uA_ne (by decide))).trans ((congrFun eA6 72).trans (uA_ne (by decide))))))))) _)) (m1 := A 72 (((2 * to1) + 1)).toNat) (e_m1 := show A133 72 (((2 * to1) + 1)).toNat = A 72 (((2 * to1) + 1)).toNat from (congrFun (((congrFun eA133 72).trans (uA_ne (by decide))).trans (((congrFun eA129 72).trans (uA_ne (by decide))).trans ((hF125.2 72 rfl).trans ((hF118.2 72 rfl).trans (((congrFun eA20 72).trans (uA_ne (by decide))).trans (((congrFun eA15 72).trans (uA_ne (by decide))).trans ((congrFun eA6 72).trans (uA_ne (by decide))))))))) _))  (h_p := ⟨(Int.le_trans (by decide : (-2147483648 : Int) ≤ -2147483648) b_to1.1), (Int.le_trans b_to1.2 (by decide : (2147483647 : Int) ≤ 2147483647))⟩) (h_d2 := ⟨(Int.le_trans (by decide : (-2147483648 : Int) ≤ -2147483648) b26.1), (Int.le_trans b26.2 (by decide : (2147483647 : Int) ≤ 2147483647))⟩)  (p_0 := by omega) (p_1 := by omega) (p_2 := by omega) (p_3 := by omega) (p_4 := by omega) (p_5 := by omega)) (fun o V_q hq => ?_)
                obtain ⟨G142, A143, rfl, rfl, hW144, hF145, p146, -⟩ := hq
                have hF148 := Fr_tr hF135 hF145 (Fr_sub (by decide)) (Fr_sub (by decide))
                refine .inl ⟨rfl, ?_⟩
                have hg5 := mk_g p146 hr137 hr138 hr139 (by omega) hcm0
                refine jx_ld (pc_q := 274) (l_q := L29) (st_q := [.ref 66]) rfl (jl_aloadn gL29_0) ?_
                refine jx_ld (pc_q := 275) (l_q := L29) (st_q := [.int (i32 (to1)), .ref 66]) rfl (jl_iloadn gL29_3) ?_
                have b149 : (-2147483648 : Int) ≤ A143 66 (to1).toNat ∧ A143 66 (to1).toNat ≤ 2147483647 := hW144.2 66 _
                have b150 : (-2147483648 : Int) ≤ A143 72 ((2 * to1)).toNat ∧ A143 72 ((2 * to1)).toNat ≤ 2147483647 := hW144.2 72 _
                have b151 : (-2147483648 : Int) ≤ A143 72 (((2 * to1) + 1)).toNat ∧ A143 72 (((2 * to1) + 1)).toNat ≤ 2147483647 := hW144.2 72 _
                refine jx_vr (pc_q := 278) (as := [.int (i32 (to1))]) (st := []) rfl rfl rfl rfl ⟨rfl, rfl, Nat.le_of_ble_eq_true rfl⟩ rfl rfl (c_yield0 (dd := d) (hd := by omega) (hW := hW144) (p := to1) (rn0 := A143 66 (to1).toNat) (e_rn0 := show A143 66 (to1).toNat = A143 66 (to1).toNat from rfl) (m0 := A143 72 ((2 * to1)).toNat) (e_m0 := show A143 72 ((2 * to1)).toNat = A143 72 ((2 * to1)).toNat from rfl) (m1 := A143 72 (((2 * to1) + 1)).toNat) (e_m1 := show A143 72 (((2 * to1) + 1)).toNat = A143 72 (((2 * to1) + 1)).toNat from rfl)  (h_p := ⟨(Int.le_trans (by decide : (-2147483648 : Int) ≤ -2147483648) b_to1.1), (Int.le_trans b_to1.2 (by decide : (2147483647 : Int) ≤ 2147483647))⟩)  (p_0 := by omega) (p_1 := by omega) (p_2 := by omega) (p_3 := by omega) (p_4 := by omega) (p_5 := by omega) (p_6 := by omega)) (fun o V_q hq => ?_)
                obtain ⟨G152, A153, rfl, rfl, hW154, hF155, p156, -⟩ := hq
                have hF158 := Fr_tr hF148 hF155 (Fr_sub (by decide)) (Fr_sub (by decide))
                refine .inl ⟨rfl, ?_⟩
                refine jx_ar (pc_q := 279) (st_q := [.int (i32 (1))]) rfl rfl rfl rfl ?_
                refine jx_rt (v := some (.int (i32 (1)))) rfl rfl rfl rfl rfl (by first | rfl | exact jRet_b (by omega)) ?_
                exact ⟨_, _, _, rfl, rfl, hW154, hF158, by omega, (btR_comeI _ _ _ _ _ _ _ _ _ _ _ _ _ _ _ _ _ e_to1 (by rw [show A 84 (l).toNat = du from e_du]; omega) (by rw [show A 80 (l).toNat = sen from e_sen]; omega) eA6 eA15 eA20 p27 (by omega) hb92 p95 (by omega) hb110 p113 p119 p126 eA129 eA133 p146 p156), trivial⟩
            · have _q := h97
              have hr159 : A20 72 = A 72 := (((congrFun eA20 72).trans (uA_ne (by decide))).trans (((congrFun eA15 72).trans (uA_ne (by decide))).trans ((congrFun eA6 72).trans (uA_ne (by decide))))); have hr160 : A20 64 = A 64 := (((congrFun eA20 64).trans (uA_ne (by decide))).trans (((congrFun eA15 64).trans (uA_ne (by decide))).trans ((congrFun eA6 64).trans (uA_ne (by decide))))); have hr161 : A20 66 = A 66 := (((congrFun eA20 66).trans (uA_ne (by decide))).trans (((congrFun eA15 66).trans (uA_ne (by decide))).trans ((congrFun eA6 66).trans (uA_ne (by decide)))))
              refine jx_ld (pc_q := 208) (l_q := L29) (st_q := [.ref 66]) rfl (jl_aloadn gL29_0) ?_
              refine jx_ld (pc_q := 209) (l_q := L29) (st_q := [.int (i32 (to1)), .ref 66]) rfl (jl_iloadn gL29_3) ?_
              refine jx_ld (pc_q := 211) (l_q := L29) (st_q := [.int (i32 (r25)), .int (i32 (to1)), .ref 66]) rfl (jl_iload gL29_4) ?_
              have b162 : (-2147483648 : Int) ≤ A 72 ((2 * to1)).toNat ∧ A 72 ((2 * to1)).toNat ≤ 2147483647 := hW.2 72 _
              have b163 : (-2147483648 : Int) ≤ A 72 (((2 * to1) + 1)).toNat ∧ A 72 (((2 * to1) + 1)).toNat ≤ 2147483647 := hW.2 72 _
              refine jx_vr (pc_q := 214) (as := [.int (i32 (to1)), .int (i32 (r25))]) (st := []) rfl rfl rfl rfl ⟨rfl, rfl, Nat.le_of_ble_eq_true rfl⟩ rfl rfl (c_wake (dd := d) (hd := by omega) (hW := hW21) (p := to1) (d2 := r25) (m0 := A 72 ((2 * to1)).toNat) (e_m0 := show A20 72 ((2 * to1)).toNat = A 72 ((2 * to1)).toNat from (congrFun (((congrFun eA20 72).trans (uA_ne (by decide))).trans (((congrFun eA15 72).trans (uA_ne (by decide))).trans ((congrFun eA6 72).trans (uA_ne (by decide))))) _)) (m1 := A 72 (((2 * to1) + 1)).toNat) (e_m1 := show A20 72 (((2 * to1) + 1)).toNat = A 72 (((2 * to1) + 1)).toNat from (congrFun (((congrFun eA20 72).trans (uA_ne (by decide))).trans (((congrFun eA15 72).trans (uA_ne (by decide))).trans ((congrFun eA6 72).trans (uA_ne (by decide))))) _))  (h_p := ⟨(Int.le_trans (by decide : (-2147483648 : Int) ≤ -2147483648) b_to1.1), (Int.le_trans b_to1.2 (by decide : (2147483647 : Int) ≤ 2147483647))⟩) (h_d2 := ⟨(Int.le_trans (by decide : (-2147483648 : Int) ≤ -2147483648) b26.1), (Int.le_trans b26.2 (by decide : (2147483647 : Int) ≤ 2147483647))⟩)  (p_0 := by omega) (p_1 := by omega) (p_2 := by omega) (p_3 := by omega) (p_4 := by omega) (p_5 := by omega)) (fun o V_q hq => ?_)
              obtain ⟨G164, A165, rfl, rfl, hW166, hF167, p168, -⟩ := hq
              have hF170 := Fr_tr hF22 hF167 (Fr_sub (by decide)) (Fr_sub (by decide))
              refine .inl ⟨rfl, ?_⟩
              refine jx_go (tg := 273) rfl rfl ?_
              have hg5 := wk_g p168 hr159 hr160 hr161 (by omega) hcm0
              refine jx_ld (pc_q := 274) (l_q := L29) (st_q := [.ref 66]) rfl (jl_aloadn gL29_0) ?_
              refine jx_ld (pc_q := 275) (l_q := L29) (st_q := [.int (i32 (to1)), .ref 66]) rfl (jl_iloadn gL29_3) ?_
              have b171 : (-2147483648 : Int) ≤ A165 66 (to1).toNat ∧ A165 66 (to1).toNat ≤ 2147483647 := hW166.2 66 _
              have b172 : (-2147483648 : Int) ≤ A165 72 ((2 * to1)).toNat ∧ A165 72 ((2 * to1)).toNat ≤ 2147483647 := hW166.2 72 _
              have b173 : (-2147483648 : Int) ≤ A165 72 (((2 * to1) + 1)).toNat ∧ A165 72 (((2 * to1) + 1)).toNat ≤ 2147483647 := hW166.2 72 _
              refine jx_vr (pc_q := 278) (as := [.int (i32 (to1))]) (st := []) rfl rfl rfl rfl ⟨rfl, rfl, Nat.le_of_ble_eq_true rfl⟩ rfl rfl (c_yield0 (dd := d) (hd := by omega) (hW := hW166) (p := to1) (rn0 := A165 66 (to1).toNat) (e_rn0 := show A165 66 (to1).toNat = A165 66 (to1).toNat from rfl) (m0 := A165 72 ((2 * to1)).toNat) (e_m0 := show A165 72 ((2 * to1)).toNat = A165 72 ((2 * to1)).toNat from rfl) (m1 := A165 72 (((2 * to1) + 1)).toNat) (e_m1 := show A165 72 (((2 * to1) + 1)).toNat = A165 72 (((2 * to1) + 1)).toNat from rfl)  (h_p := ⟨(Int.le_trans (by decide : (-2147483648 : Int) ≤ -2147483648) b_to1.1), (Int.le_trans b_to1.2 (by decide : (2147483647 : Int) ≤ 2147483647))⟩)  (p_0 := by omega) (p_1 := by omega) (p_2 := by omega) (p_3 := by omega) (p_4 := by omega) (p_5 := by omega) (p_6 := by omega)) (fun o V_q hq => ?_)
              obtain ⟨G174, A175, rfl, rfl, hW176, hF177, p178, -⟩ := hq
              have hF180 := Fr_tr hF170 hF177 (Fr_sub (by decide)) (Fr_sub (by decide))
              refine .inl ⟨rfl, ?_⟩
              refine jx_ar (pc_q := 279) (st_q := [.int (i32 (1))]) rfl rfl rfl rfl ?_
              refine jx_rt (v := some (.int (i32 (1)))) rfl rfl rfl rfl rfl (by first | rfl | exact jRet_b (by omega)) ?_
              exact ⟨_, _, _, rfl, rfl, hW176, hF180, by omega, (btR_comeA _ _ _ _ _ _ _ _ _ _ e_to1 (by rw [show A 84 (l).toNat = du from e_du]; omega) (by rw [show A 80 (l).toNat = sen from e_sen]; omega) eA6 eA15 eA20 p27 (by omega) hb92 p95 (by omega) p168 p178), trivial⟩
        · have _q := h24
          refine jx_ld (pc_q := 171) (l_q := L2) (st_q := [.ref 66]) rfl (jl_aloadn gL2_0) ?_
          refine jr_get (pc_q := 174) (i := 118) (v := .ref 151) rfl rfl (by decide) rfl rfl ?_
          refine jx_ld (pc_q := 175) (l_q := L2) (st_q := [.int (i32 (l)), .ref 151]) rfl (jl_iloadn gL2_1) ?_
          refine jx_ar (pc_q := 176) (st_q := [.int (i32 (1)), .int (i32 (l)), .ref 151]) rfl rfl rfl rfl ?_
          refine jr_sb (pc_q := 177) (i := 84) (m := 12) (z := l) (y := 1) rfl (by decide) rfl (by decide) (by omega) (by omega) (by omega) rfl ?_
          have hW182 : Wk (uG G 121 (v11)) (uA A20 84 (l).toNat (1)) := Wk_a hW21 (show (0 : Int) ≤ 1 by omega) (show 1 ≤ (1 : Int) by omega)
          have hF183 := Fr_a (z := 1) (k := 84) (n := (l).toNat) hF22 (by decide)
          obtain ⟨A181, eA181⟩ : ∃ q, q = uA A20 84 (l).toNat (1) := ⟨_, rfl⟩
          rw [← eA181]
          rw [← eA181] at hW182 hF183
          have q184 : A181 84 (l).toNat = 1 := by rw [eA181]; exact uA_eq
          refine jx_ar (pc_q := 178) (st_q := [.int (i32 (1))]) rfl rfl rfl rfl ?_
          refine jx_rt (v := some (.int (i32 (1)))) rfl rfl rfl rfl rfl (by first | rfl | exact jRet_b (by omega)) ?_
          exact ⟨_, _, _, rfl, rfl, hW182, hF183, by omega, (btR_byte _ _ _ _ _ (by rw [show A 84 (l).toNat = du from e_du]; omega) (by rw [show A 80 (l).toNat = sen from e_sen]; omega) eA6 eA15 eA20 (by omega) eA181), trivial⟩
      · have _q := h5
        refine jx_ar (pc_q := 122) (st_q := [.int (i32 (0))]) rfl rfl rfl rfl ?_
        refine jx_rt (v := some (.int (i32 (0)))) rfl rfl rfl rfl rfl (by first | rfl | exact jRet_b (by omega)) ?_
        exact ⟨_, _, _, rfl, rfl, hW, hF0, by omega, (btR_idle (by rw [show A 84 (l).toNat = du from e_du]; omega) rfl), trivial⟩
  · have _q := h3
    have _q : True := trivial
    refine jx_ld (pc_q := 24) (l_q := L2) (st_q := [.ref 66]) rfl (jl_aloadn gL2_0) ?_
    refine jr_get (pc_q := 27) (i := 118) (v := .ref 151) rfl rfl (by decide) rfl rfl ?_
    refine jx_ld (pc_q := 28) (l_q := L2) (st_q := [.int (i32 (l)), .ref 151]) rfl (jl_iloadn gL2_1) ?_
    refine jx_ar (pc_q := 29) (st_q := [.int (i32 (0)), .int (i32 (l)), .ref 151]) rfl rfl rfl rfl ?_
    refine jr_sb (pc_q := 30) (i := 84) (m := 12) (z := l) (y := 0) rfl (by decide) rfl (by decide) (by omega) (by omega) (by omega) rfl ?_
    have hW186 : Wk G (uA A 84 (l).toNat (0)) := Wk_a hW (show (0 : Int) ≤ 0 by omega) (show 0 ≤ (1 : Int) by omega)
    have hF187 := Fr_a (z := 0) (k := 84) (n := (l).toNat) hF0 (by decide)
    obtain ⟨A185, eA185⟩ : ∃ q, q = uA A 84 (l).toNat (0) := ⟨_, rfl⟩
    rw [← eA185]
    rw [← eA185] at hW186 hF187
    have q188 : A185 84 (l).toNat = 0 := by rw [eA185]; exact uA_eq
    refine jx_ld (pc_q := 31) (l_q := L2) (st_q := [.ref 66]) rfl (jl_aloadn gL2_0) ?_
    refine jx_ar (pc_q := 32) (st_q := [.ref 66, .ref 66]) rfl rfl rfl rfl ?_
    have b189 : (-2147483648 : Int) ≤ G 121 ∧ G 121 ≤ 2147483647 := hW.1 121
    refine jr_get (pc_q := 35) (i := 121) (v := .int (i32 (G 121))) rfl rfl (by decide) rfl rfl ?_
    refine jx_ar (pc_q := 36) (st_q := [.int (i32 (1)), .int (i32 (G 121)), .ref 66]) rfl rfl rfl rfl ?_
    refine jx_add (pc_q := 37) rfl rfl ?_
    obtain ⟨v190, ev190⟩ : ∃ z, z = (i32 (G 121 + 1)).toInt := ⟨_, rfl⟩; have fv190 : i32 (G 121 + 1) = i32 v190 := (by rw [ev190]; exact (i32_of _).symm); rw [fv190]; have rv190 : (-2147483648 : Int) ≤ v190 ∧ v190 ≤ 2147483647 := ev190 ▸ i32_rg _
    refine jr_put (pc_q := 40) (i := 121) (z := v190) rfl rfl (by decide) rfl rfl rfl rfl rfl rfl ?_
    have hW191 : Wk (uG G 121 (v190)) A185 := Wk_g hW186 (show (-2147483648 : Int) ≤ v190 by omega) (show v190 ≤ (2147483647 : Int) by omega)
    have hF192 := Fr_g (z := v190) (i := 121) hF187 (by decide)
    refine jx_ld (pc_q := 41) (l_q := L2) (st_q := [.ref 66]) rfl (jl_aloadn gL2_0) ?_
    refine jr_get (pc_q := 44) (i := 116) (v := .ref 149) rfl rfl (by decide) rfl rfl ?_
    refine jx_ld (pc_q := 45) (l_q := L2) (st_q := [.int (i32 (l)), .ref 149]) rfl (jl_iloadn gL2_1) ?_
    refine jr_ldv (pc_q := 46) (i := 82) (m := 12) (z := l) (y := snt) rfl (by decide) rfl (by decide) (by omega) (by omega) rfl (show A185 82 (l).toNat = snt from (congrFun ((congrFun eA185 82).trans (uA_ne (by decide))) _).trans (e_snt)) ?_
    refine jx_ar (pc_q := 47) (st_q := [.int (i32 (4)), .int (i32 (snt))]) rfl rfl rfl rfl ?_
    refine jx_icmp_ne (pc_q := 50) (tg := 94) rfl rfl rfl (Int.le_trans (by decide : (-2147483648 : Int) ≤ -2147483648) b_snt.1) (Int.le_trans b_snt.2 (by decide : (2147483647 : Int) ≤ 2147483647)) (by decide) (by decide) (fun h193 => ?_) (fun h193 => ?_)
    · have _q := h193
      refine jx_ld (pc_q := 95) (l_q := L2) (st_q := [.ref 66]) rfl (jl_aloadn gL2_0) ?_
      refine jr_get (pc_q := 98) (i := 119) (v := .ref 152) rfl rfl (by decide) rfl rfl ?_
      refine jx_ld (pc_q := 99) (l_q := L2) (st_q := [.int (i32 (l)), .ref 152]) rfl (jl_iloadn gL2_1) ?_
      refine jx_ar (pc_q := 100) (st_q := [.int (i32 (1)), .int (i32 (l)), .ref 152]) rfl rfl rfl rfl ?_
      refine jr_sb (pc_q := 101) (i := 85) (m := 12) (z := l) (y := 1) rfl (by decide) rfl (by decide) (by omega) (by omega) (by omega) rfl ?_
      have hW195 : Wk (uG G 121 (v190)) (uA A185 85 (l).toNat (1)) := Wk_a hW191 (show (0 : Int) ≤ 1 by omega) (show 1 ≤ (1 : Int) by omega)
      have hF196 := Fr_a (z := 1) (k := 85) (n := (l).toNat) hF192 (by decide)
      obtain ⟨A194, eA194⟩ : ∃ q, q = uA A185 85 (l).toNat (1) := ⟨_, rfl⟩
      rw [← eA194]
      rw [← eA194] at hW195 hF196
      have q197 : A194 85 (l).toNat = 1 := by rw [eA194]; exact uA_eq
      refine jx_ar (pc_q := 102) (st_q := [.int (i32 (1))]) rfl rfl rfl rfl ?_
      refine jx_rt (v := some (.int (i32 (1)))) rfl rfl rfl rfl rfl (by first | rfl | exact jRet_b (by omega)) ?_
      exact ⟨_, _, _, rfl, rfl, hW195, hF196, by omega, (btR_due _ (by rw [show A 84 (l).toNat = du from e_du]; omega) eA185 eA194), trivial⟩
    · have _q := h193
      refine jx_ld (pc_q := 51) (l_q := L2) (st_q := [.ref 66]) rfl (jl_aloadn gL2_0) ?_
      refine jx_ld (pc_q := 52) (l_q := L2) (st_q := [.int (i32 (fr)), .ref 66]) rfl (jl_iloadn gL2_2) ?_
      refine jx_ld (pc_q := 53) (l_q := L2) (st_q := [.int (i32 (l)), .int (i32 (fr)), .ref 66]) rfl (jl_iloadn gL2_1) ?_
      refine jx_vr (pc_q := 56) (as := [.int (i32 (fr)), .int (i32 (l))]) (st := []) rfl rfl rfl rfl ⟨rfl, rfl, Nat.le_of_ble_eq_true rfl⟩ rfl rfl (c_load (dd := d) (hd := by omega) (hW := hW191) (p := fr) (a := l)   (h_p := ⟨(Int.le_trans (by decide : (-2147483648 : Int) ≤ -2147483648) b_fr.1), (Int.le_trans b_fr.2 (by decide : (2147483647 : Int) ≤ 2147483647))⟩) (h_a := ⟨(Int.le_trans (by decide : (-2147483648 : Int) ≤ -2147483648) h_l.1), (Int.le_trans h_l.2 (by decide : (2147483647 : Int) ≤ 2147483647))⟩)  (p_0 := by omega) (p_1 := by omega)) (fun o V_q hq => ?_)
      obtain ⟨r198, rfl, rfl, b199, p200, -⟩ := hq
      refine .inr ⟨_, rfl, ?_⟩
      refine jx_ld (pc_q := 58) (l_q := jSto1 L2 4 (.int (i32 (r198)))) (st_q := []) rfl rfl ?_
      obtain ⟨L202, eL202⟩ : ∃ q, q = jSto1 L2 4 (.int (i32 (r198))) := ⟨_, rfl⟩
      rw [← eL202]
      have gL202_0 : jGet L202 0 = some (.ref 66) := eL202 ▸ jg_ne (by decide) gL2_0 rfl
      have gL202_1 : jGet L202 1 = some (.int (i32 (l))) := eL202 ▸ jg_ne (by decide) gL2_1 rfl
      have gL202_2 : jGet L202 2 = some (.int (i32 (fr))) := eL202 ▸ jg_ne (by decide) gL2_2 rfl
      have gL202_3 : jGet L202 3 = some (.int (i32 (to1))) := eL202 ▸ jg_ne (by decide) gL2_3 rfl
      have gL202_4 : jGet L202 4 = some (.int (i32 (r198))) := eL202 ▸ jg_eq
      refine jx_ld (pc_q := 59) (l_q := L202) (st_q := [.ref 66]) rfl (jl_aloadn gL202_0) ?_
      refine jx_ld (pc_q := 60) (l_q := L202) (st_q := [.int (i32 (fr)), .ref 66]) rfl (jl_iloadn gL202_2) ?_
      refine jx_ld (pc_q := 61) (l_q := L202) (st_q := [.int (i32 (l)), .int (i32 (fr)), .ref 66]) rfl (jl_iloadn gL202_1) ?_
      refine jx_ar (pc_q := 62) (st_q := [.int (i32 (-1)), .int (i32 (l)), .int (i32 (fr)), .ref 66]) rfl rfl rfl rfl ?_
      refine jx_vr (pc_q := 65) (as := [.int (i32 (fr)), .int (i32 (l)), .int (i32 (-1))]) (st := []) rfl rfl rfl rfl ⟨rfl, rfl, Nat.le_of_ble_eq_true rfl⟩ rfl rfl (c_store (dd := d) (hd := by omega) (hW := hW191) (p := fr) (a := l) (v := -1)   (h_p := ⟨(Int.le_trans (by decide : (-2147483648 : Int) ≤ -2147483648) b_fr.1), (Int.le_trans b_fr.2 (by decide : (2147483647 : Int) ≤ 2147483647))⟩) (h_a := ⟨(Int.le_trans (by decide : (-2147483648 : Int) ≤ -2147483648) h_l.1), (Int.le_trans h_l.2 (by decide : (2147483647 : Int) ≤ 2147483647))⟩) (h_v := ⟨(by decide), (by decide)⟩)  (p_0 := by omega) (p_1 := by omega)) (fun o V_q hq => ?_)
      obtain ⟨G203, A204, rfl, rfl, hW205, hF206, p207, -⟩ := hq
      have hF209 := Fr_tr hF192 hF206 (Fr_sub (by decide)) (Fr_sub (by decide))
      refine .inl ⟨rfl, ?_⟩
      refine jx_ld (pc_q := 66) (l_q := L202) (st_q := [.ref 66]) rfl (jl_aloadn gL202_0) ?_
      refine jr_get (pc_q := 69) (i := 114) (v := .ref 147) rfl rfl (by decide) rfl rfl ?_
      refine jx_ld (pc_q := 70) (l_q := L202) (st_q := [.int (i32 (l)), .ref 147]) rfl (jl_iloadn gL202_1) ?_
      refine jx_ar (pc_q := 71) (st_q := [.int (i32 (0)), .int (i32 (l)), .ref 147]) rfl rfl rfl rfl ?_
      refine jr_sb (pc_q := 72) (i := 80) (m := 12) (z := l) (y := 0) rfl (by decide) rfl (by decide) (by omega) (by omega) (by omega) rfl ?_
      have hW211 : Wk G203 (uA A204 80 (l).toNat (0)) := Wk_a hW205 (show (0 : Int) ≤ 0 by omega) (show 0 ≤ (1 : Int) by omega)
      have hF212 := Fr_a (z := 0) (k := 80) (n := (l).toNat) hF209 (by decide)
      obtain ⟨A210, eA210⟩ : ∃ q, q = uA A204 80 (l).toNat (0) := ⟨_, rfl⟩
      rw [← eA210]
      rw [← eA210] at hW211 hF212
      have q213 : A210 80 (l).toNat = 0 := by rw [eA210]; exact uA_eq
      refine jx_ld (pc_q := 73) (l_q := L202) (st_q := [.ref 66]) rfl (jl_aloadn gL202_0) ?_
      refine jr_get (pc_q := 76) (i := 116) (v := .ref 149) rfl rfl (by decide) rfl rfl ?_
      refine jx_ld (pc_q := 77) (l_q := L202) (st_q := [.int (i32 (l)), .ref 149]) rfl (jl_iloadn gL202_1) ?_
      refine jx_ar (pc_q := 78) (st_q := [.int (i32 (0)), .int (i32 (l)), .ref 149]) rfl rfl rfl rfl ?_
      refine jr_st (pc_q := 79) (i := 82) (m := 12) (z := l) (y := 0) rfl (by decide) rfl (by decide) (by omega) (by omega) rfl ?_
      have hW215 : Wk G203 (uA A210 82 (l).toNat (0)) := Wk_a hW211 (show (-2147483648 : Int) ≤ 0 by omega) (show 0 ≤ (2147483647 : Int) by omega)
      have hF216 := Fr_a (z := 0) (k := 82) (n := (l).toNat) hF212 (by decide)
      obtain ⟨A214, eA214⟩ : ∃ q, q = uA A210 82 (l).toNat (0) := ⟨_, rfl⟩
      rw [← eA214]
      rw [← eA214] at hW215 hF216
      have q217 : A214 82 (l).toNat = 0 := by rw [eA214]; exact uA_eq
      have hcm := p_6 fr (by omega) (by omega); have hcm0 := hcm; unfold Cm at hcm; have hr218 : A214 72 = A 72 := (((congrFun eA214 72).trans (uA_ne (by decide))).trans (((congrFun eA210 72).trans (uA_ne (by decide))).trans ((hF206.2 72 rfl).trans ((congrFun eA185 72).trans (uA_ne (by decide)))))); have hr219 : A214 64 = A 64 := (((congrFun eA214 64).trans (uA_ne (by decide))).trans (((congrFun eA210 64).trans (uA_ne (by decide))).trans ((hF206.2 64 rfl).trans ((congrFun eA185 64).trans (uA_ne (by decide)))))); have hr220 : A214 66 = A 66 := (((congrFun eA214 66).trans (uA_ne (by decide))).trans (((congrFun eA210 66).trans (uA_ne (by decide))).trans ((hF206.2 66 rfl).trans ((congrFun eA185 66).trans (uA_ne (by decide))))))
      refine jx_ld (pc_q := 80) (l_q := L202) (st_q := [.ref 66]) rfl (jl_aloadn gL202_0) ?_
      refine jx_ld (pc_q := 81) (l_q := L202) (st_q := [.int (i32 (fr)), .ref 66]) rfl (jl_iloadn gL202_2) ?_
      refine jx_ld (pc_q := 83) (l_q := L202) (st_q := [.int (i32 (r198)), .int (i32 (fr)), .ref 66]) rfl (jl_iload gL202_4) ?_
      have b221 : (-2147483648 : Int) ≤ A 72 ((2 * fr)).toNat ∧ A 72 ((2 * fr)).toNat ≤ 2147483647 := hW.2 72 _
      have b222 : (-2147483648 : Int) ≤ A 72 (((2 * fr) + 1)).toNat ∧ A 72 (((2 * fr) + 1)).toNat ≤ 2147483647 := hW.2 72 _
      refine jx_vr (pc_q := 86) (as := [.int (i32 (fr)), .int (i32 (r198))]) (st := []) rfl rfl rfl rfl ⟨rfl, rfl, Nat.le_of_ble_eq_true rfl⟩ rfl rfl (c_makeReady (dd := d) (hd := by omega) (hW := hW215) (p := fr) (d2 := r198) (m0 := A 72 ((2 * fr)).toNat) (e_m0 := show A214 72 ((2 * fr)).toNat = A 72 ((2 * fr)).toNat from (congrFun (((congrFun eA214 72).trans (uA_ne (by decide))).trans (((congrFun eA210 72).trans (uA_ne (by decide))).trans ((hF206.2 72 rfl).trans ((congrFun eA185 72).trans (uA_ne (by decide)))))) _)) (m1 := A 72 (((2 * fr) + 1)).toNat) (e_m1 := show A214 72 (((2 * fr) + 1)).toNat = A 72 (((2 * fr) + 1)).toNat from (congrFun (((congrFun eA214 72).trans (uA_ne (by decide))).trans (((congrFun eA210 72).trans (uA_ne (by decide))).trans ((hF206.2 72 rfl).trans ((congrFun eA185 72).trans (uA_ne (by decide)))))) _))  (h_p := ⟨(Int.le_trans (by decide : (-2147483648 : Int) ≤ -2147483648) b_fr.1), (Int.le_trans b_fr.2 (by decide : (2147483647 : Int) ≤ 2147483647))⟩) (h_d2 := ⟨(Int.le_trans (by decide : (-2147483648 : Int) ≤ -2147483648) b199.1), (Int.le_trans b199.2 (by decide : (2147483647 : Int) ≤ 2147483647))⟩)  (p_0 := by omega) (p_1 := by omega) (p_2 := by omega) (p_3 := by omega) (p_4 := by omega) (p_5 := by omega)) (fun o V_q hq => ?_)
      obtain ⟨G223, A224, rfl, rfl, hW225, hF226, p227, -⟩ := hq
      have hF229 := Fr_tr hF216 hF226 (Fr_sub (by decide)) (Fr_sub (by decide))
      refine .inl ⟨rfl, ?_⟩
      have hg5 := mk_g p227 hr218 hr219 hr220 (by omega) hcm0
      refine jx_ld (pc_q := 87) (l_q := L202) (st_q := [.ref 66]) rfl (jl_aloadn gL202_0) ?_
      refine jx_ld (pc_q := 88) (l_q := L202) (st_q := [.int (i32 (fr)), .ref 66]) rfl (jl_iloadn gL202_2) ?_
      have b230 : (-2147483648 : Int) ≤ A224 66 (fr).toNat ∧ A224 66 (fr).toNat ≤ 2147483647 := hW225.2 66 _
      have b231 : (-2147483648 : Int) ≤ A224 72 ((2 * fr)).toNat ∧ A224 72 ((2 * fr)).toNat ≤ 2147483647 := hW225.2 72 _
      have b232 : (-2147483648 : Int) ≤ A224 72 (((2 * fr) + 1)).toNat ∧ A224 72 (((2 * fr) + 1)).toNat ≤ 2147483647 := hW225.2 72 _
      refine jx_vr (pc_q := 91) (as := [.int (i32 (fr))]) (st := []) rfl rfl rfl rfl ⟨rfl, rfl, Nat.le_of_ble_eq_true rfl⟩ rfl rfl (c_yield0 (dd := d) (hd := by omega) (hW := hW225) (p := fr) (rn0 := A224 66 (fr).toNat) (e_rn0 := show A224 66 (fr).toNat = A224 66 (fr).toNat from rfl) (m0 := A224 72 ((2 * fr)).toNat) (e_m0 := show A224 72 ((2 * fr)).toNat = A224 72 ((2 * fr)).toNat from rfl) (m1 := A224 72 (((2 * fr) + 1)).toNat) (e_m1 := show A224 72 (((2 * fr) + 1)).toNat = A224 72 (((2 * fr) + 1)).toNat from rfl)  (h_p := ⟨(Int.le_trans (by decide : (-2147483648 : Int) ≤ -2147483648) b_fr.1), (Int.le_trans b_fr.2 (by decide : (2147483647 : Int) ≤ 2147483647))⟩)  (p_0 := by omega) (p_1 := by omega) (p_2 := by omega) (p_3 := by omega) (p_4 := by omega) (p_5 := by omega) (p_6 := by omega)) (fun o V_q hq => ?_)
      obtain ⟨G233, A234, rfl, rfl, hW235, hF236, p237, -⟩ := hq
      have hF239 := Fr_tr hF229 hF236 (Fr_sub (by decide)) (Fr_sub (by decide))
      refine .inl ⟨rfl, ?_⟩
      refine jx_go (tg := 101) rfl rfl ?_
      refine jx_ar (pc_q := 102) (st_q := [.int (i32 (1))]) rfl rfl rfl rfl ?_
      refine jx_rt (v := some (.int (i32 (1)))) rfl rfl rfl rfl rfl (by first | rfl | exact jRet_b (by omega)) ?_
      exact ⟨_, _, _, rfl, rfl, hW235, hF239, by omega, (btR_due4 _ _ _ _ _ _ _ e_fr (by rw [show A 84 (l).toNat = du from e_du]; omega) eA185 (by rw [show A 82 (l).toNat = snt from e_snt]; omega) p200 p207 eA210 eA214 p227 p237), trivial⟩
