/-! a CALL's arguments -/
/-- the links that are seen have their numbers -/
def LKV (T : Nat → Nat → Int) (V : Nat → Prop) : Prop := ∀ s : Nat, V s → T 7 s = 11 → T 12 s < 13
theorem LKV_d {T : Nat → Nat → Int} {V : Nat → Prop} {s0 s1 : Int} (h : LKV T V) (w : wD T s0 s1) : LKV T (Vd V s0 s1) := fun s g k => by
  rcases g with g | g
  · exact h s g k
  · have := w s g.1 g.2
    omega
theorem LKV_u {T : Nat → Nat → Int} {V : Nat → Prop} {t : Int} (h : LKV T V) (h7 : T 7 t.toNat ≠ 11) : LKV T (Vu V t) := fun s g k => by
  rcases g with g | g
  · exact h s g k
  · rw [← g, Int.toNat_natCast] at h7
    exact absurd k h7
def Aok (T : Nat → Nat → Int) (Bu : Int → Int) (w a : Int) : Prop := T 7 (T 18 a.toNat).toNat = 8 → Bu (T 18 a.toNat) ≠ 0 → OKc T w (T 17 (T 17 a.toNat).toNat) (Bu (T 18 a.toNat))
def Arl (T : Nat → Nat → Int) (R : Nat → Int) (a b : Int) : Prop := T 7 (T 18 a.toNat).toNat = 8 → T 7 (T 18 b.toNat).toNat = 8 → NMt T R (T 17 a.toNat) (T 17 b.toNat)
def CA1 (T : Nat → Nat → Int) (Bu : Int → Int) (R : Nat → Int) (w : Int) (u v : List Int) : Prop := (∀ a ∈ u, Aok T Bu w a) ∧ ∀ (u1 : List Int) (a : Int) (u2 : List Int), u = u1 ++ a :: u2 → ∀ b ∈ u2 ++ v, Arl T R a b
def CAo (T : Nat → Nat → Int) (Bu : Int → Int) (R : Nat → Int) (w n c : Int) : Prop := ∃ u v : List Int, CH T (T 21 n.toNat) (u ++ v) ∧ CH T c v ∧ CA1 T Bu R w u v
def CAi (T : Nat → Nat → Int) (Bu : Int → Int) (R : Nat → Int) (w n a b : Int) : Prop := ∃ u x y : List Int, CH T (T 21 n.toNat) (u ++ a :: (x ++ y)) ∧ CH T (T 22 a.toNat) (x ++ y) ∧ CH T b y ∧ CA1 T Bu R w u (a :: (x ++ y)) ∧ Aok T Bu w a ∧ ∀ z ∈ x, Arl T R a z
section
variable {T : Nat → Nat → Int} {Bu : Int → Int} {R : Nat → Int} {w n a b c : Int}
theorem CAo_0 (h : ∃ l, CH T (T 21 n.toNat) l) (hc : c = T 21 n.toNat) : CAo T Bu R w n c := by
  obtain ⟨l, h⟩ := h
  exact ⟨[], l, h, hc ▸ h, fun a ha => absurd ha List.not_mem_nil, fun u1 a u2 e => by
    have := congrArg List.length e
    simp at this⟩
theorem CAi_0 (h : CAo T Bu R w n a) (ha : 0 < a) (ok : Aok T Bu w a) (hb : b = T 22 a.toNat) : CAi T Bu R w n a b := by
  obtain ⟨u, v, h1, h2, h3⟩ := h
  cases v with
  | nil =>
    have : a = 0 := h2
    omega
  | cons e v =>
    obtain ⟨rfl, _, g⟩ := h2
    exact ⟨u, [], v, h1, g, hb ▸ g, h3, ok, fun z hz => absurd hz List.not_mem_nil⟩
theorem CAi_nx {d : Int} (h : CAi T Bu R w n a b) (hb : 0 < b) (r : Arl T R a b) (hd : d = T 22 b.toNat) : CAi T Bu R w n a d := by
  obtain ⟨u, x, y, h1, h2, h3, h4, h5, h6⟩ := h
  cases y with
  | nil =>
    have : b = 0 := h3
    omega
  | cons e y =>
    obtain ⟨rfl, _, g⟩ := h3
    have e1 : x ++ b :: y = (x ++ [b]) ++ y := by rw [List.append_assoc]; rfl
    rw [e1] at h1 h2 h4
    refine ⟨u, x ++ [b], y, h1, h2, hd ▸ g, h4, h5, fun z hz => ?_⟩
    rcases List.mem_append.mp hz with hz | hz
    · exact h6 z hz
    · rw [List.mem_singleton.mp hz]
      exact r
theorem CAo_nx (h : CAi T Bu R w n a b) (hb : b ≤ 0 ∨ T 7 (T 18 a.toNat).toNat ≠ 8) (hc : c = T 22 a.toNat) : CAo T Bu R w n c := by
  obtain ⟨u, x, y, h1, h2, h3, h4, h5, h6⟩ := h
  have all : ∀ z ∈ x ++ y, Arl T R a z := fun z hz => by
    rcases hb with hb | hb
    · cases y with
      | nil =>
        rw [List.append_nil] at hz
        exact h6 z hz
      | cons e y =>
        obtain ⟨rfl, g, _⟩ := h3
        omega
    · exact fun k => absurd k hb
  refine ⟨u ++ [a], x ++ y, by rw [List.append_assoc]; exact h1, hc ▸ h2, fun z hz => ?_, fun u1 d u2 e => ?_⟩
  · rcases List.mem_append.mp hz with hz | hz
    · exact h4.1 z hz
    · rw [List.mem_singleton.mp hz]
      exact h5
  · rcases List.append_eq_append_iff.mp e with ⟨w1, e1, e2⟩ | ⟨w1, e1, e2⟩
    · cases w1 with
      | nil =>
        rw [List.nil_append] at e2
        injection e2 with e3 e4
        subst e3 e4
        rw [List.nil_append]
        exact all
      | cons z w1 =>
        rw [List.cons_append] at e2
        injection e2 with e3 e4
        have := congrArg List.length e4
        simp at this
    · cases w1 with
      | nil =>
        rw [List.nil_append] at e2
        injection e2 with e3 e4
        subst e3 e4
        rw [List.nil_append]
        exact all
      | cons z w1 =>
        rw [List.cons_append] at e2
        injection e2 with e3 e4
        subst e3 e4
        have k := h4.2 u1 d w1 e1
        rw [List.append_assoc]
        exact k
theorem CAo_e (h : CAo T Bu R w n c) (hc : c ≤ 0) : ∀ l, CH T (T 21 n.toNat) l → (∀ a ∈ l, Aok T Bu w a) ∧ ∀ u1 a u2, l = u1 ++ a :: u2 → ∀ b ∈ u2, Arl T R a b := fun l hl => by
  obtain ⟨u, v, h1, h2, h3⟩ := h
  cases v with
  | cons e v =>
    obtain ⟨rfl, g, _⟩ := h2
    omega
  | nil =>
    rw [List.append_nil] at h1
    have e := CH_u hl h1
    subst e
    refine ⟨h3.1, fun u1 a u2 e b hb => h3.2 u1 a u2 e b ?_⟩
    rw [List.append_nil]
    exact hb
end
theorem and_3b {a : Int} (h0 : 0 ≤ a) (h1 : a ≤ 15) : 0 ≤ (i32 a &&& i32 3).toInt ∧ (i32 a &&& i32 3).toInt ≤ 3 := by
  have q : ∀ x : Fin 16, 0 ≤ (i32 (x.val : Int) &&& i32 3).toInt ∧ (i32 (x.val : Int) &&& i32 3).toInt ≤ 3 := by decide
  have := q ⟨a.toNat, by omega⟩
  simp only at this
  rw [show ((a.toNat : Nat) : Int) = a by omega] at this
  exact this
set_option maxRecDepth 20000 in
set_option maxHeartbeats 4000000 in
theorem c_checkCall_at_7 {X : jX} {d : Nat} {T0 : Nat → Nat → Int} {Bu : Int → Int} {Vs : Nat → Prop} {sb pb : Int} {c0 c1 : jC} {G : Nat → Int} {A : Nat → Nat → Int} {T : jH} {n : Int} {hi : Int} {wl wh lnn : Int} (hd : 5 ≤ d + 1) (hW : Wk G A) (e_wl : G 67 = wl) (e_wh : G 68 = wh) (e_lnn : A 16 (n).toNat = lnn) (h_n : (-2147483648 : Int) ≤ n ∧ n ≤ 2147483647) (p_0 : TA T0 A) (p_1 : hi ≤ 6999) (p_2 : sb ≤ 202) (p_3 : 0 ≤ n) (p_4 : n < hi) (p_5 : LAr T0 Vs sb (T0 17 (n).toNat) (n) (T0 21 (n).toNat) (n + 1) (hi) (n + 1)) (p_6 : BUr T0 Bu pb A) (p_7 : LKV T0 Vs) (p_8 : 0 ≤ lnn) (p_9 : -1 ≤ wl ∧ wl ≤ 3000) (p_10 : 0 ≤ T0 17 (n).toNat) (p_11 : T0 17 (n).toNat < pb) : ∀ (m : Nat) (L : jL) (Gx : Nat → Int) (Ax : Nat → Nat → Int) (a wl1 gm : Int), (hi - gm).toNat = m → jGet L 0 = some (.ref 66) → jGet L 1 = some (.int (i32 (n))) → jGet L 2 = some (.int (i32 a)) → Wk Gx Ax → Fr [67] [] G A Gx Ax → Gx 67 = wl1 → ((-2147483648 : Int) ≤ a ∧ a ≤ 2147483647) → (-1 ≤ wl1 ∧ wl1 ≤ 3000) → (wl = -1 ∨ 0 ≤ wl1) → (n + 1 ≤ gm) → (gm ≤ hi) → (LAr T0 Vs sb (T0 17 (n).toNat) (n) (a) (n + 1) (hi) (gm)) → ((wl1) = -1 → CAo T0 Bu (A 13) wh (n) (a)) → wj X d jm337 (7, L, [], rV c0 c1 Gx Ax T) (fun o V_q => ∃ (G_q : Nat → Int) (A_q : Nat → Nat → Int) (wl2 : Int), V_q = rV c0 c1 G_q A_q T ∧ o = .inl none ∧ Wk G_q A_q ∧ Fr [67] [] G A G_q A_q ∧ G_q 67 = wl2 ∧ (-1 ≤ wl2 ∧ wl2 ≤ 3000) ∧ (wl = -1 ∨ 0 ≤ wl2) ∧ ((wl2) = -1 → ∀ l, CH T0 (T0 21 (n).toNat) l → (∀ a ∈ l, Aok T0 Bu wh a) ∧ ∀ u1 a u2, l = u1 ++ a :: u2 → ∀ b ∈ u2, Arl T0 (A 13) a b) ∧ True) := by
  have hF0 : Fr [67] [] G A G A := Fr_rf
  have b_wl : (-2147483648 : Int) ≤ wl ∧ wl ≤ 2147483647 := e_wl ▸ hW.1 67
  have b_wh : (-2147483648 : Int) ≤ wh ∧ wh ≤ 2147483647 := e_wh ▸ hW.1 68
  have b_lnn : (-1 : Int) ≤ lnn ∧ lnn ≤ 3000 := e_lnn ▸ hW.2 16 _
  have hWT := TA_w hW p_0
  intro m
  induction m using Nat.strongRecOn with
  | ind m ih7 =>
    intro L Gx Ax a wl1 gm hm gL_0 gL_1 gL_2 hWx hFx ex_wl1 rx_a iv_0 iv_1 iv_2 iv_3 iv_4 iv_5
    have b_wl1 : (-2147483648 : Int) ≤ wl1 ∧ wl1 ≤ 2147483647 := ex_wl1 ▸ hWx.1 67
    have hLA := iv_4; have hLO := iv_5
    have at_78 : ∀ (m : Nat) (L : jL) (Gx : Nat → Int) (Ax : Nat → Nat → Int) (b wl3 gn : Int), (hi - gn).toNat = m → jGet L 0 = some (.ref 66) → jGet L 1 = some (.int (i32 (n))) → jGet L 2 = some (.int (i32 (a))) → jGet L 3 = some (.int (i32 (T0 7 (T0 18 (a).toNat).toNat))) → jGet L 4 = some (.int (i32 b)) → Wk Gx Ax → Fr [67] [] G A Gx Ax → Gx 67 = wl3 → ((-2147483648 : Int) ≤ b ∧ b ≤ 2147483647) → (0 < a) → (-1 ≤ wl3 ∧ wl3 ≤ 3000) → (wl = -1 ∨ 0 ≤ wl3) → (n + 1 ≤ gn) → (gn ≤ hi) → (LAr T0 Vs sb (T0 17 (n).toNat) (n) (b) (n + 1) (hi) (gn)) → ((wl3) = -1 → CAi T0 Bu (A 13) wh (n) (a) (b)) → wj X d jm337 (78, L, [], rV c0 c1 Gx Ax T) (fun o V_q => ∃ (G_q : Nat → Int) (A_q : Nat → Nat → Int) (wl2 : Int), V_q = rV c0 c1 G_q A_q T ∧ o = .inl none ∧ Wk G_q A_q ∧ Fr [67] [] G A G_q A_q ∧ G_q 67 = wl2 ∧ (-1 ≤ wl2 ∧ wl2 ≤ 3000) ∧ (wl = -1 ∨ 0 ≤ wl2) ∧ ((wl2) = -1 → ∀ l, CH T0 (T0 21 (n).toNat) l → (∀ a ∈ l, Aok T0 Bu wh a) ∧ ∀ u1 a u2, l = u1 ++ a :: u2 → ∀ b ∈ u2, Arl T0 (A 13) a b) ∧ True) := by
      intro m
      induction m using Nat.strongRecOn with
      | ind m ih78 =>
        intro L Gx Ax b wl3 gn hm gL_0 gL_1 gL_2 gL_3 gL_4 hWx hFx ex_wl3 rx_b iv_0 iv_1 iv_2 iv_3 iv_4 iv_5 iv_6
        have b_wl3 : (-2147483648 : Int) ≤ wl3 ∧ wl3 ≤ 2147483647 := ex_wl3 ▸ hWx.1 67
        obtain ⟨m1, jx, hm1, hm2, hm3, hm4, hm5, hjx, hx18, hx18a, hx18b, hgE, hgD, hnx⟩ := LAr_hd hLA (by omega); have hka : (0 : Int) ≤ T0 7 (T0 18 (a).toNat).toNat ∧ T0 7 (T0 18 (a).toNat).toNat ≤ 14 := hWT.2 7 _
        refine jx_ld (pc_q := 80) (l_q := L) (st_q := [.int (i32 (b))]) rfl (jl_iload gL_4) ?_
        refine jx_if_le (pc_q := 83) (tg := 192) rfl rfl rfl (Int.le_trans (by decide : (-2147483648 : Int) ≤ -2147483648) rx_b.1) (Int.le_trans rx_b.2 (by decide : (2147483647 : Int) ≤ 2147483647)) (fun h1 => ?_) (fun h1 => ?_)
        · have _q := h1
          have _q : True := trivial
          refine jx_ld (pc_q := 193) (l_q := L) (st_q := [.ref 66]) rfl (jl_aloadn gL_0) ?_
          refine jr_get (pc_q := 196) (i := 39) (v := .ref 89) rfl rfl (by decide) rfl rfl ?_
          refine jx_ld (pc_q := 197) (l_q := L) (st_q := [.int (i32 (a)), .ref 89]) rfl (jl_iloadn gL_2) ?_
          have b2 : (-2147483648 : Int) ≤ T0 22 (a).toNat ∧ T0 22 (a).toNat ≤ 2147483647 := hWT.2 22 _
          refine jr_ldv (pc_q := 198) (i := 22) (m := 7000) (z := a) (y := T0 22 (a).toNat) rfl (by decide) rfl (by decide) (by omega) (by omega) rfl (show Ax 22 (a).toNat = T0 22 (a).toNat from (congrFun ((hFx.2 22 rfl).trans (p_0 22 rfl)) _)) ?_
          refine jx_ld (pc_q := 199) (l_q := jSto1 L 2 (.int (i32 (T0 22 (a).toNat)))) (st_q := []) rfl rfl ?_
          obtain ⟨L3, eL3⟩ : ∃ q, q = jSto1 L 2 (.int (i32 (T0 22 (a).toNat))) := ⟨_, rfl⟩
          rw [← eL3]
          have gL3_0 : jGet L3 0 = some (.ref 66) := eL3 ▸ jg_ne (by decide) gL_0 rfl
          have gL3_1 : jGet L3 1 = some (.int (i32 (n))) := eL3 ▸ jg_ne (by decide) gL_1 rfl
          have gL3_3 : jGet L3 3 = some (.int (i32 (T0 7 (T0 18 (a).toNat).toNat))) := eL3 ▸ jg_ne (by decide) gL_3 rfl
          have gL3_4 : jGet L3 4 = some (.int (i32 (b))) := eL3 ▸ jg_ne (by decide) gL_4 rfl
          have gL3_2 : jGet L3 2 = some (.int (i32 (T0 22 (a).toNat))) := eL3 ▸ jg_eq
          refine jx_go (tg := 7) rfl rfl ?_
          exact ih7 _ (by omega) L3 Gx Ax (T0 22 (a).toNat) (wl3) (m1) rfl gL3_0 gL3_1 gL3_2 hWx hFx ((ex_wl3)) (by omega) (by omega) (by omega) (by omega) (by omega) (hnx) ((fun q => CAo_nx (iv_6 (by omega)) (by omega) rfl))
        · have _q := h1
          refine jx_ld (pc_q := 84) (l_q := L) (st_q := [.int (i32 (T0 7 (T0 18 (a).toNat).toNat))]) rfl (jl_iloadn gL_3) ?_
          refine jx_ar (pc_q := 85) (st_q := [.int (i32 (5)), .int (i32 (T0 7 (T0 18 (a).toNat).toNat))]) rfl rfl rfl rfl ?_
          refine jx_icmp_eq (pc_q := 88) (tg := 192) rfl rfl rfl (by omega) (by omega) (by decide) (by decide) (fun h4 => ?_) (fun h4 => ?_)
          · have _q := h4
            have _q : True := trivial
            refine jx_ld (pc_q := 193) (l_q := L) (st_q := [.ref 66]) rfl (jl_aloadn gL_0) ?_
            refine jr_get (pc_q := 196) (i := 39) (v := .ref 89) rfl rfl (by decide) rfl rfl ?_
            refine jx_ld (pc_q := 197) (l_q := L) (st_q := [.int (i32 (a)), .ref 89]) rfl (jl_iloadn gL_2) ?_
            have b5 : (-2147483648 : Int) ≤ T0 22 (a).toNat ∧ T0 22 (a).toNat ≤ 2147483647 := hWT.2 22 _
            refine jr_ldv (pc_q := 198) (i := 22) (m := 7000) (z := a) (y := T0 22 (a).toNat) rfl (by decide) rfl (by decide) (by omega) (by omega) rfl (show Ax 22 (a).toNat = T0 22 (a).toNat from (congrFun ((hFx.2 22 rfl).trans (p_0 22 rfl)) _)) ?_
            refine jx_ld (pc_q := 199) (l_q := jSto1 L 2 (.int (i32 (T0 22 (a).toNat)))) (st_q := []) rfl rfl ?_
            obtain ⟨L6, eL6⟩ : ∃ q, q = jSto1 L 2 (.int (i32 (T0 22 (a).toNat))) := ⟨_, rfl⟩
            rw [← eL6]
            have gL6_0 : jGet L6 0 = some (.ref 66) := eL6 ▸ jg_ne (by decide) gL_0 rfl
            have gL6_1 : jGet L6 1 = some (.int (i32 (n))) := eL6 ▸ jg_ne (by decide) gL_1 rfl
            have gL6_3 : jGet L6 3 = some (.int (i32 (T0 7 (T0 18 (a).toNat).toNat))) := eL6 ▸ jg_ne (by decide) gL_3 rfl
            have gL6_4 : jGet L6 4 = some (.int (i32 (b))) := eL6 ▸ jg_ne (by decide) gL_4 rfl
            have gL6_2 : jGet L6 2 = some (.int (i32 (T0 22 (a).toNat))) := eL6 ▸ jg_eq
            refine jx_go (tg := 7) rfl rfl ?_
            exact ih7 _ (by omega) L6 Gx Ax (T0 22 (a).toNat) (wl3) (m1) rfl gL6_0 gL6_1 gL6_2 hWx hFx ((ex_wl3)) (by omega) (by omega) (by omega) (by omega) (by omega) (hnx) ((fun q => CAo_nx (iv_6 (by omega)) (by omega) rfl))
          · have _q := h4
            obtain ⟨m2, jy, hn1, hn2, hn3, hn4, hn5, hjy, hy28, hy28a, hy28b, hgE2, hgD2, hnx2⟩ := LAr_hd iv_5 (by omega); have hqa := hgD (by omega)
            refine jx_ld (pc_q := 89) (l_q := L) (st_q := [.ref 66]) rfl (jl_aloadn gL_0) ?_
            refine jr_get (pc_q := 92) (i := 21) (v := .ref 74) rfl rfl (by decide) rfl rfl ?_
            refine jx_ld (pc_q := 93) (l_q := L) (st_q := [.ref 66, .ref 74]) rfl (jl_aloadn gL_0) ?_
            refine jr_get (pc_q := 96) (i := 35) (v := .ref 85) rfl rfl (by decide) rfl rfl ?_
            refine jx_ld (pc_q := 98) (l_q := L) (st_q := [.int (i32 (b)), .ref 85, .ref 74]) rfl (jl_iload gL_4) ?_
            have b7 : (-2147483648 : Int) ≤ T0 18 (b).toNat ∧ T0 18 (b).toNat ≤ 2147483647 := hWT.2 18 _
            refine jr_ldv (pc_q := 99) (i := 18) (m := 7000) (z := b) (y := T0 18 (b).toNat) rfl (by decide) rfl (by decide) (by omega) (by omega) rfl (show Ax 18 (b).toNat = T0 18 (b).toNat from (congrFun ((hFx.2 18 rfl).trans (p_0 18 rfl)) _)) ?_
            have b8 : (0 : Int) ≤ T0 7 (T0 18 (b).toNat).toNat ∧ T0 7 (T0 18 (b).toNat).toNat ≤ 14 := hWT.2 7 _
            refine jr_ldv (pc_q := 100) (i := 7) (m := 260) (z := T0 18 (b).toNat) (y := T0 7 (T0 18 (b).toNat).toNat) rfl (by decide) rfl (by decide) (by omega) (by omega) rfl (show Ax 7 (T0 18 (b).toNat).toNat = T0 7 (T0 18 (b).toNat).toNat from (congrFun ((hFx.2 7 rfl).trans (p_0 7 rfl)) _)) ?_
            refine jx_ar (pc_q := 101) (st_q := [.int (i32 (5)), .int (i32 (T0 7 (T0 18 (b).toNat).toNat))]) rfl rfl rfl rfl ?_
            refine jx_icmp_eq (pc_q := 104) (tg := 180) rfl rfl rfl (Int.le_trans (by decide : (-2147483648 : Int) ≤ 0) b8.1) (Int.le_trans b8.2 (by decide : (14 : Int) ≤ 2147483647)) (by decide) (by decide) (fun h9 => ?_) (fun h9 => ?_)
            · have _q := h9
              refine jx_ld (pc_q := 181) (l_q := L) (st_q := [.ref 66]) rfl (jl_aloadn gL_0) ?_
              refine jr_get (pc_q := 184) (i := 39) (v := .ref 89) rfl rfl (by decide) rfl rfl ?_
              refine jx_ld (pc_q := 186) (l_q := L) (st_q := [.int (i32 (b)), .ref 89]) rfl (jl_iload gL_4) ?_
              have b10 : (-2147483648 : Int) ≤ T0 22 (b).toNat ∧ T0 22 (b).toNat ≤ 2147483647 := hWT.2 22 _
              refine jr_ldv (pc_q := 187) (i := 22) (m := 7000) (z := b) (y := T0 22 (b).toNat) rfl (by decide) rfl (by decide) (by omega) (by omega) rfl (show Ax 22 (b).toNat = T0 22 (b).toNat from (congrFun ((hFx.2 22 rfl).trans (p_0 22 rfl)) _)) ?_
              refine jx_ld (pc_q := 189) (l_q := jSto1 L 4 (.int (i32 (T0 22 (b).toNat)))) (st_q := []) rfl rfl ?_
              obtain ⟨L11, eL11⟩ : ∃ q, q = jSto1 L 4 (.int (i32 (T0 22 (b).toNat))) := ⟨_, rfl⟩
              rw [← eL11]
              have gL11_0 : jGet L11 0 = some (.ref 66) := eL11 ▸ jg_ne (by decide) gL_0 rfl
              have gL11_1 : jGet L11 1 = some (.int (i32 (n))) := eL11 ▸ jg_ne (by decide) gL_1 rfl
              have gL11_2 : jGet L11 2 = some (.int (i32 (a))) := eL11 ▸ jg_ne (by decide) gL_2 rfl
              have gL11_3 : jGet L11 3 = some (.int (i32 (T0 7 (T0 18 (a).toNat).toNat))) := eL11 ▸ jg_ne (by decide) gL_3 rfl
              have gL11_4 : jGet L11 4 = some (.int (i32 (T0 22 (b).toNat))) := eL11 ▸ jg_eq
              refine jx_go (tg := 78) rfl rfl ?_
              exact ih78 _ (by omega) L11 Gx Ax (T0 22 (b).toNat) (wl3) (m2) rfl gL11_0 gL11_1 gL11_2 gL11_3 gL11_4 hWx hFx ((ex_wl3)) (by omega) (by omega) (by omega) (by omega) (by omega) (by omega) (hnx2) ((fun q => CAi_nx (iv_6 (by omega)) (by omega) (fun k1 k2 => by omega) rfl))
            · have _q := h9
              have hqb := hgD2 (by omega); have hqa1 := hqa.1; have hqa2 := hqa.2.1; have hqb1 := hqb.1; have hqb2 := hqb.2.1
              refine jx_ld (pc_q := 105) (l_q := L) (st_q := [.ref 66]) rfl (jl_aloadn gL_0) ?_
              refine jx_ld (pc_q := 106) (l_q := L) (st_q := [.ref 66, .ref 66]) rfl (jl_aloadn gL_0) ?_
              refine jr_get (pc_q := 109) (i := 34) (v := .ref 84) rfl rfl (by decide) rfl rfl ?_
              refine jx_ld (pc_q := 110) (l_q := L) (st_q := [.int (i32 (a)), .ref 84, .ref 66]) rfl (jl_iloadn gL_2) ?_
              have b12 : (-2147483648 : Int) ≤ T0 17 (a).toNat ∧ T0 17 (a).toNat ≤ 2147483647 := hWT.2 17 _
              refine jr_ldv (pc_q := 111) (i := 17) (m := 7000) (z := a) (y := T0 17 (a).toNat) rfl (by decide) rfl (by decide) (by omega) (by omega) rfl (show Ax 17 (a).toNat = T0 17 (a).toNat from (congrFun ((hFx.2 17 rfl).trans (p_0 17 rfl)) _)) ?_
              refine jx_ld (pc_q := 112) (l_q := L) (st_q := [.ref 66, .int (i32 (T0 17 (a).toNat)), .ref 66]) rfl (jl_aloadn gL_0) ?_
              refine jr_get (pc_q := 115) (i := 34) (v := .ref 84) rfl rfl (by decide) rfl rfl ?_
              refine jx_ld (pc_q := 117) (l_q := L) (st_q := [.int (i32 (b)), .ref 84, .int (i32 (T0 17 (a).toNat)), .ref 66]) rfl (jl_iload gL_4) ?_
              have b13 : (-2147483648 : Int) ≤ T0 17 (b).toNat ∧ T0 17 (b).toNat ≤ 2147483647 := hWT.2 17 _
              refine jr_ldv (pc_q := 118) (i := 17) (m := 7000) (z := b) (y := T0 17 (b).toNat) rfl (by decide) rfl (by decide) (by omega) (by omega) rfl (show Ax 17 (b).toNat = T0 17 (b).toNat from (congrFun ((hFx.2 17 rfl).trans (p_0 17 rfl)) _)) ?_
              refine jx_vr (pc_q := 121) (as := [.int (i32 (T0 17 (a).toNat)), .int (i32 (T0 17 (b).toNat))]) (st := []) rfl rfl rfl rfl ⟨rfl, rfl, Nat.le_of_ble_eq_true rfl⟩ rfl rfl (c_meet (dd := d) (hd := by omega) (hW := hWx) (x := T0 17 (a).toNat) (y := T0 17 (b).toNat) (lo := gm) (hi := a) (lo2 := gn) (hi2 := b)  (h_x := ⟨(Int.le_trans (by decide : (-2147483648 : Int) ≤ -2147483648) b12.1), (Int.le_trans b12.2 (by decide : (2147483647 : Int) ≤ 2147483647))⟩) (h_y := ⟨(Int.le_trans (by decide : (-2147483648 : Int) ≤ -2147483648) b13.1), (Int.le_trans b13.2 (by decide : (2147483647 : Int) ≤ 2147483647))⟩)  (p_0 := (TA_fr hFx (by decide) p_0)) (p_1 := by omega) (p_2 := by omega) (p_3 := by omega) (p_4 := by omega) (p_5 := by omega) (p_6 := hqa) (p_7 := (hgD2 (by omega)))) (fun o V_q hq => ?_)
              obtain ⟨r14, rfl, rfl, b15, q16⟩ := hq
              refine .inr ⟨_, rfl, ?_⟩
              rcases q16 with rfl | ⟨rfl, a17⟩
              · have _q : True := trivial
                refine jx_if_eq (pc_q := 124) (tg := 180) rfl rfl rfl (by decide) (by decide) (fun h18 => ?_) (fun h18 => ?_)
                · have _q := h18
                  exact absurd h18 (by omega)
                · have _q := h18
                  refine jx_ld (pc_q := 125) (l_q := L) (st_q := [.int (i32 (T0 7 (T0 18 (a).toNat).toNat))]) rfl (jl_iloadn gL_3) ?_
                  refine jx_ar (pc_q := 127) (st_q := [.int (i32 (8)), .int (i32 (T0 7 (T0 18 (a).toNat).toNat))]) rfl rfl rfl rfl ?_
                  refine jx_icmp_ne (pc_q := 130) (tg := 134) rfl rfl rfl (by omega) (by omega) (by decide) (by decide) (fun h19 => ?_) (fun h19 => ?_)
                  · have _q := h19
                    refine jx_ar (pc_q := 135) (st_q := [.int (i32 (0))]) rfl rfl rfl rfl ?_
                    refine jx_ld (pc_q := 137) (l_q := jSto1 L 5 (.int (i32 (0)))) (st_q := []) rfl rfl ?_
                    obtain ⟨L20, eL20⟩ : ∃ q, q = jSto1 L 5 (.int (i32 (0))) := ⟨_, rfl⟩
                    rw [← eL20]
                    have gL20_0 : jGet L20 0 = some (.ref 66) := eL20 ▸ jg_ne (by decide) gL_0 rfl
                    have gL20_1 : jGet L20 1 = some (.int (i32 (n))) := eL20 ▸ jg_ne (by decide) gL_1 rfl
                    have gL20_2 : jGet L20 2 = some (.int (i32 (a))) := eL20 ▸ jg_ne (by decide) gL_2 rfl
                    have gL20_3 : jGet L20 3 = some (.int (i32 (T0 7 (T0 18 (a).toNat).toNat))) := eL20 ▸ jg_ne (by decide) gL_3 rfl
                    have gL20_4 : jGet L20 4 = some (.int (i32 (b))) := eL20 ▸ jg_ne (by decide) gL_4 rfl
                    have gL20_5 : jGet L20 5 = some (.int (i32 (0))) := eL20 ▸ jg_eq
                    refine jx_ld (pc_q := 139) (l_q := L20) (st_q := [.int (i32 (0))]) rfl (jl_iload gL20_5) ?_
                    refine jx_if_ne (pc_q := 142) (tg := 175) rfl rfl rfl (by decide) (by decide) (fun h21 => ?_) (fun h21 => ?_)
                    · have _q := h21
                      exact absurd h21 (by omega)
                    · have _q := h21
                      have hbua : BAr T0 Bu A a := BA_i p_6 (by omega) (by omega) hjx hx18; unfold BAr at hbua; have hbub : BAr T0 Bu A b := BA_i p_6 (by omega) (by omega) hjy hy28; unfold BAr at hbub
                      refine jx_ld (pc_q := 143) (l_q := L20) (st_q := [.ref 66]) rfl (jl_aloadn gL20_0) ?_
                      refine jr_get (pc_q := 146) (i := 25) (v := .ref 78) rfl rfl (by decide) rfl rfl ?_
                      refine jx_ld (pc_q := 147) (l_q := L20) (st_q := [.ref 66, .ref 78]) rfl (jl_aloadn gL20_0) ?_
                      refine jr_get (pc_q := 150) (i := 35) (v := .ref 85) rfl rfl (by decide) rfl rfl ?_
                      refine jx_ld (pc_q := 151) (l_q := L20) (st_q := [.int (i32 (a)), .ref 85, .ref 78]) rfl (jl_iloadn gL20_2) ?_
                      have b22 : (-2147483648 : Int) ≤ T0 18 (a).toNat ∧ T0 18 (a).toNat ≤ 2147483647 := hWT.2 18 _
                      refine jr_ldv (pc_q := 152) (i := 18) (m := 7000) (z := a) (y := T0 18 (a).toNat) rfl (by decide) rfl (by decide) (by omega) (by omega) rfl (show Ax 18 (a).toNat = T0 18 (a).toNat from (congrFun ((hFx.2 18 rfl).trans (p_0 18 rfl)) _)) ?_
                      have b23 : (0 : Int) ≤ A 11 (T0 18 (a).toNat).toNat ∧ A 11 (T0 18 (a).toNat).toNat ≤ 15 := hW.2 11 _
                      refine jr_ldv (pc_q := 153) (i := 11) (m := 260) (z := T0 18 (a).toNat) (y := A 11 (T0 18 (a).toNat).toNat) rfl (by decide) rfl (by decide) (by omega) (by omega) rfl (show Ax 11 (T0 18 (a).toNat).toNat = A 11 (T0 18 (a).toNat).toNat from (congrFun (hFx.2 11 rfl) _)) ?_
                      refine jx_ar (pc_q := 154) (st_q := [.int (i32 (3)), .int (i32 (A 11 (T0 18 (a).toNat).toNat))]) rfl rfl rfl rfl ?_
                      refine jx_and (pc_q := 155) rfl rfl ?_
                      obtain ⟨b24, eb24⟩ : ∃ z, z = (i32 (A 11 (T0 18 (a).toNat).toNat) &&& i32 (3)).toInt := ⟨_, rfl⟩
                      rw [← eb24]
                      have rb24 : (-2147483648 : Int) ≤ b24 ∧ b24 ≤ 2147483647 := eb24 ▸ i32_rg _
                      have hb24 : 0 ≤ b24 ∧ b24 ≤ 3 := (by rw [show b24 = (i32 (A 11 (T0 18 (a).toNat).toNat) &&& i32 3).toInt from eb24]; exact and_3b (by omega) (by omega))
                      refine jx_ld (pc_q := 156) (l_q := L20) (st_q := [.ref 66, .int (i32 (b24))]) rfl (jl_aloadn gL20_0) ?_
                      refine jr_get (pc_q := 159) (i := 25) (v := .ref 78) rfl rfl (by decide) rfl rfl ?_
                      refine jx_ld (pc_q := 160) (l_q := L20) (st_q := [.ref 66, .ref 78, .int (i32 (b24))]) rfl (jl_aloadn gL20_0) ?_
                      refine jr_get (pc_q := 163) (i := 35) (v := .ref 85) rfl rfl (by decide) rfl rfl ?_
                      refine jx_ld (pc_q := 165) (l_q := L20) (st_q := [.int (i32 (b)), .ref 85, .ref 78, .int (i32 (b24))]) rfl (jl_iload gL20_4) ?_
                      refine jr_ldv (pc_q := 166) (i := 18) (m := 7000) (z := b) (y := T0 18 (b).toNat) rfl (by decide) rfl (by decide) (by omega) (by omega) rfl (show Ax 18 (b).toNat = T0 18 (b).toNat from (congrFun ((hFx.2 18 rfl).trans (p_0 18 rfl)) _)) ?_
                      have b25 : (0 : Int) ≤ A 11 (T0 18 (b).toNat).toNat ∧ A 11 (T0 18 (b).toNat).toNat ≤ 15 := hW.2 11 _
                      refine jr_ldv (pc_q := 167) (i := 11) (m := 260) (z := T0 18 (b).toNat) (y := A 11 (T0 18 (b).toNat).toNat) rfl (by decide) rfl (by decide) (by omega) (by omega) rfl (show Ax 11 (T0 18 (b).toNat).toNat = A 11 (T0 18 (b).toNat).toNat from (congrFun (hFx.2 11 rfl) _)) ?_
                      refine jx_ar (pc_q := 168) (st_q := [.int (i32 (3)), .int (i32 (A 11 (T0 18 (b).toNat).toNat)), .int (i32 (b24))]) rfl rfl rfl rfl ?_
                      refine jx_and (pc_q := 169) rfl rfl ?_
                      obtain ⟨b26, eb26⟩ : ∃ z, z = (i32 (A 11 (T0 18 (b).toNat).toNat) &&& i32 (3)).toInt := ⟨_, rfl⟩
                      rw [← eb26]
                      have rb26 : (-2147483648 : Int) ≤ b26 ∧ b26 ≤ 2147483647 := eb26 ▸ i32_rg _
                      have hb26 : 0 ≤ b26 ∧ b26 ≤ 3 := (by rw [show b26 = (i32 (A 11 (T0 18 (b).toNat).toNat) &&& i32 3).toInt from eb26]; exact and_3b (by omega) (by omega))
                      refine jx_st (pc_q := 172) (as := [.int (i32 (b24)), .int (i32 (b26))]) (st := []) rfl rfl ⟨rfl, Nat.le_of_ble_eq_true rfl⟩ rfl rfl rfl (c_clash (dd := d) (hd := by omega) (a := b24) (b := b26)   (h_a := ⟨(Int.le_trans (by decide : (-2147483648 : Int) ≤ -2147483648) rb24.1), (Int.le_trans rb24.2 (by decide : (2147483647 : Int) ≤ 2147483647))⟩) (h_b := ⟨(Int.le_trans (by decide : (-2147483648 : Int) ≤ -2147483648) rb26.1), (Int.le_trans rb26.2 (by decide : (2147483647 : Int) ≤ 2147483647))⟩)  (p_0 := by omega) (p_1 := by omega) (p_2 := by omega) (p_3 := by omega)) (fun o V_q hq => ?_)
                      obtain ⟨r27, rfl, rfl, b28, q29⟩ := hq
                      refine .inr ⟨_, rfl, ?_⟩
                      rcases q29 with rfl | ⟨rfl, a30⟩
                      · have _q : True := trivial
                        refine jx_if_eq (pc_q := 175) (tg := 180) rfl rfl rfl (by decide) (by decide) (fun h31 => ?_) (fun h31 => ?_)
                        · have _q := h31
                          exact absurd h31 (by omega)
                        · have _q := h31
                          refine jx_ld (pc_q := 176) (l_q := L20) (st_q := [.ref 66]) rfl (jl_aloadn gL20_0) ?_
                          refine jx_ld (pc_q := 177) (l_q := L20) (st_q := [.int (i32 (n)), .ref 66]) rfl (jl_iloadn gL20_1) ?_
                          refine jx_vr (pc_q := 180) (as := [.int (i32 (n))]) (st := []) rfl rfl rfl rfl ⟨rfl, rfl, Nat.le_of_ble_eq_true rfl⟩ rfl rfl (c_wrong2 (dd := d) (hd := by omega) (hW := hWx) (n := n) (wl := wl3) (e_wl := show Gx 67 = wl3 from (ex_wl3)) (lnn := lnn) (e_lnn := show Ax 16 (n).toNat = lnn from (congrFun (hFx.2 16 rfl) _).trans (e_lnn))  (h_n := ⟨(Int.le_trans (by decide : (-2147483648 : Int) ≤ -2147483648) h_n.1), (Int.le_trans h_n.2 (by decide : (2147483647 : Int) ≤ 2147483647))⟩)  (p_0 := by omega) (p_1 := by omega) (p_2 := by omega) (p_3 := by omega)) (fun o V_q hq => ?_)
                          obtain ⟨G32, A33, wl2_34, rfl, rfl, hW35, hF36, e37, p38, -⟩ := hq
                          have hF40 := Fr_tr hFx hF36 (Fr_sub (by decide)) (Fr_sub (by decide))
                          have bwl2_34 : (-2147483648 : Int) ≤ wl2_34 ∧ wl2_34 ≤ 2147483647 := e37 ▸ hW35.1 67
                          refine .inl ⟨rfl, ?_⟩
                          refine jx_ld (pc_q := 181) (l_q := L20) (st_q := [.ref 66]) rfl (jl_aloadn gL20_0) ?_
                          refine jr_get (pc_q := 184) (i := 39) (v := .ref 89) rfl rfl (by decide) rfl rfl ?_
                          refine jx_ld (pc_q := 186) (l_q := L20) (st_q := [.int (i32 (b)), .ref 89]) rfl (jl_iload gL20_4) ?_
                          have b41 : (-2147483648 : Int) ≤ T0 22 (b).toNat ∧ T0 22 (b).toNat ≤ 2147483647 := hWT.2 22 _
                          refine jr_ldv (pc_q := 187) (i := 22) (m := 7000) (z := b) (y := T0 22 (b).toNat) rfl (by decide) rfl (by decide) (by omega) (by omega) rfl (show A33 22 (b).toNat = T0 22 (b).toNat from (congrFun ((hF36.2 22 rfl).trans ((hFx.2 22 rfl).trans (p_0 22 rfl))) _)) ?_
                          refine jx_ld (pc_q := 189) (l_q := jSto1 L20 4 (.int (i32 (T0 22 (b).toNat)))) (st_q := []) rfl rfl ?_
                          obtain ⟨L42, eL42⟩ : ∃ q, q = jSto1 L20 4 (.int (i32 (T0 22 (b).toNat))) := ⟨_, rfl⟩
                          rw [← eL42]
                          have gL42_0 : jGet L42 0 = some (.ref 66) := eL42 ▸ jg_ne (by decide) gL20_0 rfl
                          have gL42_1 : jGet L42 1 = some (.int (i32 (n))) := eL42 ▸ jg_ne (by decide) gL20_1 rfl
                          have gL42_2 : jGet L42 2 = some (.int (i32 (a))) := eL42 ▸ jg_ne (by decide) gL20_2 rfl
                          have gL42_3 : jGet L42 3 = some (.int (i32 (T0 7 (T0 18 (a).toNat).toNat))) := eL42 ▸ jg_ne (by decide) gL20_3 rfl
                          have gL42_5 : jGet L42 5 = some (.int (i32 (0))) := eL42 ▸ jg_ne (by decide) gL20_5 rfl
                          have gL42_4 : jGet L42 4 = some (.int (i32 (T0 22 (b).toNat))) := eL42 ▸ jg_eq
                          refine jx_go (tg := 78) rfl rfl ?_
                          exact ih78 _ (by omega) L42 G32 A33 (T0 22 (b).toNat) (wl2_34) (m2) rfl gL42_0 gL42_1 gL42_2 gL42_3 gL42_4 hW35 hF40 ((e37)) (by omega) (by omega) (by omega) (by omega) (by omega) (by omega) (hnx2) ((fun q => CAi_nx (iv_6 (by omega)) (by omega) (fun k1 k2 => by omega) rfl))
                      · have _q : True := trivial
                        refine jx_if_eq (pc_q := 175) (tg := 180) rfl rfl rfl (by decide) (by decide) (fun h43 => ?_) (fun h43 => ?_)
                        · have _q := h43
                          refine jx_ld (pc_q := 181) (l_q := L20) (st_q := [.ref 66]) rfl (jl_aloadn gL20_0) ?_
                          refine jr_get (pc_q := 184) (i := 39) (v := .ref 89) rfl rfl (by decide) rfl rfl ?_
                          refine jx_ld (pc_q := 186) (l_q := L20) (st_q := [.int (i32 (b)), .ref 89]) rfl (jl_iload gL20_4) ?_
                          have b44 : (-2147483648 : Int) ≤ T0 22 (b).toNat ∧ T0 22 (b).toNat ≤ 2147483647 := hWT.2 22 _
                          refine jr_ldv (pc_q := 187) (i := 22) (m := 7000) (z := b) (y := T0 22 (b).toNat) rfl (by decide) rfl (by decide) (by omega) (by omega) rfl (show Ax 22 (b).toNat = T0 22 (b).toNat from (congrFun ((hFx.2 22 rfl).trans (p_0 22 rfl)) _)) ?_
                          refine jx_ld (pc_q := 189) (l_q := jSto1 L20 4 (.int (i32 (T0 22 (b).toNat)))) (st_q := []) rfl rfl ?_
                          obtain ⟨L45, eL45⟩ : ∃ q, q = jSto1 L20 4 (.int (i32 (T0 22 (b).toNat))) := ⟨_, rfl⟩
                          rw [← eL45]
                          have gL45_0 : jGet L45 0 = some (.ref 66) := eL45 ▸ jg_ne (by decide) gL20_0 rfl
                          have gL45_1 : jGet L45 1 = some (.int (i32 (n))) := eL45 ▸ jg_ne (by decide) gL20_1 rfl
                          have gL45_2 : jGet L45 2 = some (.int (i32 (a))) := eL45 ▸ jg_ne (by decide) gL20_2 rfl
                          have gL45_3 : jGet L45 3 = some (.int (i32 (T0 7 (T0 18 (a).toNat).toNat))) := eL45 ▸ jg_ne (by decide) gL20_3 rfl
                          have gL45_5 : jGet L45 5 = some (.int (i32 (0))) := eL45 ▸ jg_ne (by decide) gL20_5 rfl
                          have gL45_4 : jGet L45 4 = some (.int (i32 (T0 22 (b).toNat))) := eL45 ▸ jg_eq
                          refine jx_go (tg := 78) rfl rfl ?_
                          exact ih78 _ (by omega) L45 Gx Ax (T0 22 (b).toNat) (wl3) (m2) rfl gL45_0 gL45_1 gL45_2 gL45_3 gL45_4 hWx hFx ((ex_wl3)) (by omega) (by omega) (by omega) (by omega) (by omega) (by omega) (hnx2) ((fun q => CAi_nx (iv_6 (by omega)) (by omega) (fun k1 k2 => by omega) rfl))
                        · have _q := h43
                          exact absurd h43 (by omega)
                  · have _q := h19
                    refine jx_ar (pc_q := 131) (st_q := [.int (i32 (1))]) rfl rfl rfl rfl ?_
                    refine jx_go (tg := 135) rfl rfl ?_
                    refine jx_ld (pc_q := 137) (l_q := jSto1 L 5 (.int (i32 (1)))) (st_q := []) rfl rfl ?_
                    obtain ⟨L46, eL46⟩ : ∃ q, q = jSto1 L 5 (.int (i32 (1))) := ⟨_, rfl⟩
                    rw [← eL46]
                    have gL46_0 : jGet L46 0 = some (.ref 66) := eL46 ▸ jg_ne (by decide) gL_0 rfl
                    have gL46_1 : jGet L46 1 = some (.int (i32 (n))) := eL46 ▸ jg_ne (by decide) gL_1 rfl
                    have gL46_2 : jGet L46 2 = some (.int (i32 (a))) := eL46 ▸ jg_ne (by decide) gL_2 rfl
                    have gL46_3 : jGet L46 3 = some (.int (i32 (T0 7 (T0 18 (a).toNat).toNat))) := eL46 ▸ jg_ne (by decide) gL_3 rfl
                    have gL46_4 : jGet L46 4 = some (.int (i32 (b))) := eL46 ▸ jg_ne (by decide) gL_4 rfl
                    have gL46_5 : jGet L46 5 = some (.int (i32 (1))) := eL46 ▸ jg_eq
                    refine jx_ld (pc_q := 139) (l_q := L46) (st_q := [.int (i32 (1))]) rfl (jl_iload gL46_5) ?_
                    refine jx_if_ne (pc_q := 142) (tg := 175) rfl rfl rfl (by decide) (by decide) (fun h47 => ?_) (fun h47 => ?_)
                    · have _q := h47
                      refine jx_ld (pc_q := 176) (l_q := L46) (st_q := [.ref 66]) rfl (jl_aloadn gL46_0) ?_
                      refine jx_ld (pc_q := 177) (l_q := L46) (st_q := [.int (i32 (n)), .ref 66]) rfl (jl_iloadn gL46_1) ?_
                      refine jx_vr (pc_q := 180) (as := [.int (i32 (n))]) (st := []) rfl rfl rfl rfl ⟨rfl, rfl, Nat.le_of_ble_eq_true rfl⟩ rfl rfl (c_wrong2 (dd := d) (hd := by omega) (hW := hWx) (n := n) (wl := wl3) (e_wl := show Gx 67 = wl3 from (ex_wl3)) (lnn := lnn) (e_lnn := show Ax 16 (n).toNat = lnn from (congrFun (hFx.2 16 rfl) _).trans (e_lnn))  (h_n := ⟨(Int.le_trans (by decide : (-2147483648 : Int) ≤ -2147483648) h_n.1), (Int.le_trans h_n.2 (by decide : (2147483647 : Int) ≤ 2147483647))⟩)  (p_0 := by omega) (p_1 := by omega) (p_2 := by omega) (p_3 := by omega)) (fun o V_q hq => ?_)
                      obtain ⟨G48, A49, wl2_50, rfl, rfl, hW51, hF52, e53, p54, -⟩ := hq
                      have hF56 := Fr_tr hFx hF52 (Fr_sub (by decide)) (Fr_sub (by decide))
                      have bwl2_50 : (-2147483648 : Int) ≤ wl2_50 ∧ wl2_50 ≤ 2147483647 := e53 ▸ hW51.1 67
                      refine .inl ⟨rfl, ?_⟩
                      refine jx_ld (pc_q := 181) (l_q := L46) (st_q := [.ref 66]) rfl (jl_aloadn gL46_0) ?_
                      refine jr_get (pc_q := 184) (i := 39) (v := .ref 89) rfl rfl (by decide) rfl rfl ?_
                      refine jx_ld (pc_q := 186) (l_q := L46) (st_q := [.int (i32 (b)), .ref 89]) rfl (jl_iload gL46_4) ?_
                      have b57 : (-2147483648 : Int) ≤ T0 22 (b).toNat ∧ T0 22 (b).toNat ≤ 2147483647 := hWT.2 22 _
                      refine jr_ldv (pc_q := 187) (i := 22) (m := 7000) (z := b) (y := T0 22 (b).toNat) rfl (by decide) rfl (by decide) (by omega) (by omega) rfl (show A49 22 (b).toNat = T0 22 (b).toNat from (congrFun ((hF52.2 22 rfl).trans ((hFx.2 22 rfl).trans (p_0 22 rfl))) _)) ?_
                      refine jx_ld (pc_q := 189) (l_q := jSto1 L46 4 (.int (i32 (T0 22 (b).toNat)))) (st_q := []) rfl rfl ?_
                      obtain ⟨L58, eL58⟩ : ∃ q, q = jSto1 L46 4 (.int (i32 (T0 22 (b).toNat))) := ⟨_, rfl⟩
                      rw [← eL58]
                      have gL58_0 : jGet L58 0 = some (.ref 66) := eL58 ▸ jg_ne (by decide) gL46_0 rfl
                      have gL58_1 : jGet L58 1 = some (.int (i32 (n))) := eL58 ▸ jg_ne (by decide) gL46_1 rfl
                      have gL58_2 : jGet L58 2 = some (.int (i32 (a))) := eL58 ▸ jg_ne (by decide) gL46_2 rfl
                      have gL58_3 : jGet L58 3 = some (.int (i32 (T0 7 (T0 18 (a).toNat).toNat))) := eL58 ▸ jg_ne (by decide) gL46_3 rfl
                      have gL58_5 : jGet L58 5 = some (.int (i32 (1))) := eL58 ▸ jg_ne (by decide) gL46_5 rfl
                      have gL58_4 : jGet L58 4 = some (.int (i32 (T0 22 (b).toNat))) := eL58 ▸ jg_eq
                      refine jx_go (tg := 78) rfl rfl ?_
                      exact ih78 _ (by omega) L58 G48 A49 (T0 22 (b).toNat) (wl2_50) (m2) rfl gL58_0 gL58_1 gL58_2 gL58_3 gL58_4 hW51 hF56 ((e53)) (by omega) (by omega) (by omega) (by omega) (by omega) (by omega) (hnx2) ((fun q => CAi_nx (iv_6 (by omega)) (by omega) (fun k1 k2 => by omega) rfl))
                    · have _q := h47
                      exact absurd h47 (by omega)
              · have _q : True := trivial
                refine jx_if_eq (pc_q := 124) (tg := 180) rfl rfl rfl (by decide) (by decide) (fun h59 => ?_) (fun h59 => ?_)
                · have _q := h59
                  refine jx_ld (pc_q := 181) (l_q := L) (st_q := [.ref 66]) rfl (jl_aloadn gL_0) ?_
                  refine jr_get (pc_q := 184) (i := 39) (v := .ref 89) rfl rfl (by decide) rfl rfl ?_
                  refine jx_ld (pc_q := 186) (l_q := L) (st_q := [.int (i32 (b)), .ref 89]) rfl (jl_iload gL_4) ?_
                  have b60 : (-2147483648 : Int) ≤ T0 22 (b).toNat ∧ T0 22 (b).toNat ≤ 2147483647 := hWT.2 22 _
                  refine jr_ldv (pc_q := 187) (i := 22) (m := 7000) (z := b) (y := T0 22 (b).toNat) rfl (by decide) rfl (by decide) (by omega) (by omega) rfl (show Ax 22 (b).toNat = T0 22 (b).toNat from (congrFun ((hFx.2 22 rfl).trans (p_0 22 rfl)) _)) ?_
                  refine jx_ld (pc_q := 189) (l_q := jSto1 L 4 (.int (i32 (T0 22 (b).toNat)))) (st_q := []) rfl rfl ?_
                  obtain ⟨L61, eL61⟩ : ∃ q, q = jSto1 L 4 (.int (i32 (T0 22 (b).toNat))) := ⟨_, rfl⟩
                  rw [← eL61]
                  have gL61_0 : jGet L61 0 = some (.ref 66) := eL61 ▸ jg_ne (by decide) gL_0 rfl
                  have gL61_1 : jGet L61 1 = some (.int (i32 (n))) := eL61 ▸ jg_ne (by decide) gL_1 rfl
                  have gL61_2 : jGet L61 2 = some (.int (i32 (a))) := eL61 ▸ jg_ne (by decide) gL_2 rfl
                  have gL61_3 : jGet L61 3 = some (.int (i32 (T0 7 (T0 18 (a).toNat).toNat))) := eL61 ▸ jg_ne (by decide) gL_3 rfl
                  have gL61_4 : jGet L61 4 = some (.int (i32 (T0 22 (b).toNat))) := eL61 ▸ jg_eq
                  refine jx_go (tg := 78) rfl rfl ?_
                  exact ih78 _ (by omega) L61 Gx Ax (T0 22 (b).toNat) (wl3) (m2) rfl gL61_0 gL61_1 gL61_2 gL61_3 gL61_4 hWx hFx ((ex_wl3)) (by omega) (by omega) (by omega) (by omega) (by omega) (by omega) (hnx2) ((fun q => CAi_nx (iv_6 (by omega)) (by omega) (fun _ _ => by have z := a17; rw [show Ax 13 = A 13 from (hFx.2 13 rfl)] at z; exact z) rfl))
                · have _q := h59
                  exact absurd h59 (by omega)
    refine jx_ld (pc_q := 8) (l_q := L) (st_q := [.int (i32 (a))]) rfl (jl_iloadn gL_2) ?_
    refine jx_if_le (pc_q := 11) (tg := 202) rfl rfl rfl (Int.le_trans (by decide : (-2147483648 : Int) ≤ -2147483648) rx_a.1) (Int.le_trans rx_a.2 (by decide : (2147483647 : Int) ≤ 2147483647)) (fun h62 => ?_) (fun h62 => ?_)
    · have _q := h62
      refine jx_rt (v := none) rfl rfl rfl rfl rfl rfl ?_
      exact ⟨_, _, wl1, rfl, rfl, hWx, hFx, (ex_wl1), by omega, by omega, (fun q => CAo_e (iv_5 q) (by omega)), trivial⟩
    · have _q := h62
      obtain ⟨m1, jx, hm1, hm2, hm3, hm4, hm5, hjx, hx18, hx18a, hx18b, hgE, hgD, hnx⟩ := LAr_hd hLA (by omega); have hbu : BAr T0 Bu A a := BA_i p_6 (by omega) (by omega) hjx hx18; unfold BAr at hbu
      refine jx_ld (pc_q := 12) (l_q := L) (st_q := [.ref 66]) rfl (jl_aloadn gL_0) ?_
      refine jr_get (pc_q := 15) (i := 21) (v := .ref 74) rfl rfl (by decide) rfl rfl ?_
      refine jx_ld (pc_q := 16) (l_q := L) (st_q := [.ref 66, .ref 74]) rfl (jl_aloadn gL_0) ?_
      refine jr_get (pc_q := 19) (i := 35) (v := .ref 85) rfl rfl (by decide) rfl rfl ?_
      refine jx_ld (pc_q := 20) (l_q := L) (st_q := [.int (i32 (a)), .ref 85, .ref 74]) rfl (jl_iloadn gL_2) ?_
      have b63 : (-2147483648 : Int) ≤ T0 18 (a).toNat ∧ T0 18 (a).toNat ≤ 2147483647 := hWT.2 18 _
      refine jr_ldv (pc_q := 21) (i := 18) (m := 7000) (z := a) (y := T0 18 (a).toNat) rfl (by decide) rfl (by decide) (by omega) (by omega) rfl (show Ax 18 (a).toNat = T0 18 (a).toNat from (congrFun ((hFx.2 18 rfl).trans (p_0 18 rfl)) _)) ?_
      have b64 : (0 : Int) ≤ T0 7 (T0 18 (a).toNat).toNat ∧ T0 7 (T0 18 (a).toNat).toNat ≤ 14 := hWT.2 7 _
      refine jr_ldv (pc_q := 22) (i := 7) (m := 260) (z := T0 18 (a).toNat) (y := T0 7 (T0 18 (a).toNat).toNat) rfl (by decide) rfl (by decide) (by omega) (by omega) rfl (show Ax 7 (T0 18 (a).toNat).toNat = T0 7 (T0 18 (a).toNat).toNat from (congrFun ((hFx.2 7 rfl).trans (p_0 7 rfl)) _)) ?_
      refine jx_ld (pc_q := 23) (l_q := jSto1 L 3 (.int (i32 (T0 7 (T0 18 (a).toNat).toNat)))) (st_q := []) rfl rfl ?_
      obtain ⟨L65, eL65⟩ : ∃ q, q = jSto1 L 3 (.int (i32 (T0 7 (T0 18 (a).toNat).toNat))) := ⟨_, rfl⟩
      rw [← eL65]
      have gL65_0 : jGet L65 0 = some (.ref 66) := eL65 ▸ jg_ne (by decide) gL_0 rfl
      have gL65_1 : jGet L65 1 = some (.int (i32 (n))) := eL65 ▸ jg_ne (by decide) gL_1 rfl
      have gL65_2 : jGet L65 2 = some (.int (i32 (a))) := eL65 ▸ jg_ne (by decide) gL_2 rfl
      have gL65_3 : jGet L65 3 = some (.int (i32 (T0 7 (T0 18 (a).toNat).toNat))) := eL65 ▸ jg_eq
      refine jx_ld (pc_q := 24) (l_q := L65) (st_q := [.int (i32 (T0 7 (T0 18 (a).toNat).toNat))]) rfl (jl_iloadn gL65_3) ?_
      refine jx_ar (pc_q := 26) (st_q := [.int (i32 (8)), .int (i32 (T0 7 (T0 18 (a).toNat).toNat))]) rfl rfl rfl rfl ?_
      refine jx_icmp_ne (pc_q := 29) (tg := 70) rfl rfl rfl (Int.le_trans (by decide : (-2147483648 : Int) ≤ 0) b64.1) (Int.le_trans b64.2 (by decide : (14 : Int) ≤ 2147483647)) (by decide) (by decide) (fun h66 => ?_) (fun h66 => ?_)
      · have _q := h66
        have hci : wl1 = -1 → CAi T0 Bu (A 13) wh n a (T0 22 (a).toNat) := (fun q => CAi_0 (hLO (by omega)) (by omega) (fun k1 k2 => by omega) rfl)
        refine jx_ld (pc_q := 71) (l_q := L65) (st_q := [.ref 66]) rfl (jl_aloadn gL65_0) ?_
        refine jr_get (pc_q := 74) (i := 39) (v := .ref 89) rfl rfl (by decide) rfl rfl ?_
        refine jx_ld (pc_q := 75) (l_q := L65) (st_q := [.int (i32 (a)), .ref 89]) rfl (jl_iloadn gL65_2) ?_
        have b67 : (-2147483648 : Int) ≤ T0 22 (a).toNat ∧ T0 22 (a).toNat ≤ 2147483647 := hWT.2 22 _
        refine jr_ldv (pc_q := 76) (i := 22) (m := 7000) (z := a) (y := T0 22 (a).toNat) rfl (by decide) rfl (by decide) (by omega) (by omega) rfl (show Ax 22 (a).toNat = T0 22 (a).toNat from (congrFun ((hFx.2 22 rfl).trans (p_0 22 rfl)) _)) ?_
        refine jx_ld (pc_q := 78) (l_q := jSto1 L65 4 (.int (i32 (T0 22 (a).toNat)))) (st_q := []) rfl rfl ?_
        obtain ⟨L68, eL68⟩ : ∃ q, q = jSto1 L65 4 (.int (i32 (T0 22 (a).toNat))) := ⟨_, rfl⟩
        rw [← eL68]
        have gL68_0 : jGet L68 0 = some (.ref 66) := eL68 ▸ jg_ne (by decide) gL65_0 rfl
        have gL68_1 : jGet L68 1 = some (.int (i32 (n))) := eL68 ▸ jg_ne (by decide) gL65_1 rfl
        have gL68_2 : jGet L68 2 = some (.int (i32 (a))) := eL68 ▸ jg_ne (by decide) gL65_2 rfl
        have gL68_3 : jGet L68 3 = some (.int (i32 (T0 7 (T0 18 (a).toNat).toNat))) := eL68 ▸ jg_ne (by decide) gL65_3 rfl
        have gL68_4 : jGet L68 4 = some (.int (i32 (T0 22 (a).toNat))) := eL68 ▸ jg_eq
        exact at_78 _ L68 Gx Ax (T0 22 (a).toNat) (wl1) (m1) rfl gL68_0 gL68_1 gL68_2 gL68_3 gL68_4 hWx hFx ((ex_wl1)) (by omega) (by omega) (by omega) (by omega) (by omega) (by omega) (hnx) (hci)
      · have _q := h66
        have hqp := hgD (by omega); have hq1 := hqp.1; have hq2 := hqp.2.1; have hq3 := hqp.2.2.1.1; have hq4 := hqp.2.2.1.2.1
        refine jx_ld (pc_q := 30) (l_q := L65) (st_q := [.ref 66]) rfl (jl_aloadn gL65_0) ?_
        refine jr_get (pc_q := 33) (i := 25) (v := .ref 78) rfl rfl (by decide) rfl rfl ?_
        refine jx_ld (pc_q := 34) (l_q := L65) (st_q := [.ref 66, .ref 78]) rfl (jl_aloadn gL65_0) ?_
        refine jr_get (pc_q := 37) (i := 35) (v := .ref 85) rfl rfl (by decide) rfl rfl ?_
        refine jx_ld (pc_q := 38) (l_q := L65) (st_q := [.int (i32 (a)), .ref 85, .ref 78]) rfl (jl_iloadn gL65_2) ?_
        refine jr_ldv (pc_q := 39) (i := 18) (m := 7000) (z := a) (y := T0 18 (a).toNat) rfl (by decide) rfl (by decide) (by omega) (by omega) rfl (show Ax 18 (a).toNat = T0 18 (a).toNat from (congrFun ((hFx.2 18 rfl).trans (p_0 18 rfl)) _)) ?_
        have b69 : (0 : Int) ≤ A 11 (T0 18 (a).toNat).toNat ∧ A 11 (T0 18 (a).toNat).toNat ≤ 15 := hW.2 11 _
        refine jr_ldv (pc_q := 40) (i := 11) (m := 260) (z := T0 18 (a).toNat) (y := A 11 (T0 18 (a).toNat).toNat) rfl (by decide) rfl (by decide) (by omega) (by omega) rfl (show Ax 11 (T0 18 (a).toNat).toNat = A 11 (T0 18 (a).toNat).toNat from (congrFun (hFx.2 11 rfl) _)) ?_
        refine jx_if_eq (pc_q := 43) (tg := 70) rfl rfl rfl (Int.le_trans (by decide : (-2147483648 : Int) ≤ 0) b69.1) (Int.le_trans b69.2 (by decide : (15 : Int) ≤ 2147483647)) (fun h70 => ?_) (fun h70 => ?_)
        · have _q := h70
          have hci : wl1 = -1 → CAi T0 Bu (A 13) wh n a (T0 22 (a).toNat) := (fun q => CAi_0 (hLO (by omega)) (by omega) (fun k1 k2 => by omega) rfl)
          refine jx_ld (pc_q := 71) (l_q := L65) (st_q := [.ref 66]) rfl (jl_aloadn gL65_0) ?_
          refine jr_get (pc_q := 74) (i := 39) (v := .ref 89) rfl rfl (by decide) rfl rfl ?_
          refine jx_ld (pc_q := 75) (l_q := L65) (st_q := [.int (i32 (a)), .ref 89]) rfl (jl_iloadn gL65_2) ?_
          have b71 : (-2147483648 : Int) ≤ T0 22 (a).toNat ∧ T0 22 (a).toNat ≤ 2147483647 := hWT.2 22 _
          refine jr_ldv (pc_q := 76) (i := 22) (m := 7000) (z := a) (y := T0 22 (a).toNat) rfl (by decide) rfl (by decide) (by omega) (by omega) rfl (show Ax 22 (a).toNat = T0 22 (a).toNat from (congrFun ((hFx.2 22 rfl).trans (p_0 22 rfl)) _)) ?_
          refine jx_ld (pc_q := 78) (l_q := jSto1 L65 4 (.int (i32 (T0 22 (a).toNat)))) (st_q := []) rfl rfl ?_
          obtain ⟨L72, eL72⟩ : ∃ q, q = jSto1 L65 4 (.int (i32 (T0 22 (a).toNat))) := ⟨_, rfl⟩
          rw [← eL72]
          have gL72_0 : jGet L72 0 = some (.ref 66) := eL72 ▸ jg_ne (by decide) gL65_0 rfl
          have gL72_1 : jGet L72 1 = some (.int (i32 (n))) := eL72 ▸ jg_ne (by decide) gL65_1 rfl
          have gL72_2 : jGet L72 2 = some (.int (i32 (a))) := eL72 ▸ jg_ne (by decide) gL65_2 rfl
          have gL72_3 : jGet L72 3 = some (.int (i32 (T0 7 (T0 18 (a).toNat).toNat))) := eL72 ▸ jg_ne (by decide) gL65_3 rfl
          have gL72_4 : jGet L72 4 = some (.int (i32 (T0 22 (a).toNat))) := eL72 ▸ jg_eq
          exact at_78 _ L72 Gx Ax (T0 22 (a).toNat) (wl1) (m1) rfl gL72_0 gL72_1 gL72_2 gL72_3 gL72_4 hWx hFx ((ex_wl1)) (by omega) (by omega) (by omega) (by omega) (by omega) (by omega) (hnx) (hci)
        · have _q := h70
          refine jx_ld (pc_q := 44) (l_q := L65) (st_q := [.ref 66]) rfl (jl_aloadn gL65_0) ?_
          refine jx_ld (pc_q := 45) (l_q := L65) (st_q := [.int (i32 (n)), .ref 66]) rfl (jl_iloadn gL65_1) ?_
          refine jx_ld (pc_q := 46) (l_q := L65) (st_q := [.ref 66, .int (i32 (n)), .ref 66]) rfl (jl_aloadn gL65_0) ?_
          refine jr_get (pc_q := 49) (i := 34) (v := .ref 84) rfl rfl (by decide) rfl rfl ?_
          refine jx_ld (pc_q := 50) (l_q := L65) (st_q := [.ref 66, .ref 84, .int (i32 (n)), .ref 66]) rfl (jl_aloadn gL65_0) ?_
          refine jr_get (pc_q := 53) (i := 34) (v := .ref 84) rfl rfl (by decide) rfl rfl ?_
          refine jx_ld (pc_q := 54) (l_q := L65) (st_q := [.int (i32 (a)), .ref 84, .ref 84, .int (i32 (n)), .ref 66]) rfl (jl_iloadn gL65_2) ?_
          have b73 : (-2147483648 : Int) ≤ T0 17 (a).toNat ∧ T0 17 (a).toNat ≤ 2147483647 := hWT.2 17 _
          refine jr_ldv (pc_q := 55) (i := 17) (m := 7000) (z := a) (y := T0 17 (a).toNat) rfl (by decide) rfl (by decide) (by omega) (by omega) rfl (show Ax 17 (a).toNat = T0 17 (a).toNat from (congrFun ((hFx.2 17 rfl).trans (p_0 17 rfl)) _)) ?_
          have b74 : (-2147483648 : Int) ≤ T0 17 (T0 17 (a).toNat).toNat ∧ T0 17 (T0 17 (a).toNat).toNat ≤ 2147483647 := hWT.2 17 _
          refine jr_ldv (pc_q := 56) (i := 17) (m := 7000) (z := T0 17 (a).toNat) (y := T0 17 (T0 17 (a).toNat).toNat) rfl (by decide) rfl (by decide) (by omega) (by omega) rfl (show Ax 17 (T0 17 (a).toNat).toNat = T0 17 (T0 17 (a).toNat).toNat from (congrFun ((hFx.2 17 rfl).trans (p_0 17 rfl)) _)) ?_
          refine jx_ld (pc_q := 57) (l_q := L65) (st_q := [.ref 66, .int (i32 (T0 17 (T0 17 (a).toNat).toNat)), .int (i32 (n)), .ref 66]) rfl (jl_aloadn gL65_0) ?_
          refine jr_get (pc_q := 60) (i := 25) (v := .ref 78) rfl rfl (by decide) rfl rfl ?_
          refine jx_ld (pc_q := 61) (l_q := L65) (st_q := [.ref 66, .ref 78, .int (i32 (T0 17 (T0 17 (a).toNat).toNat)), .int (i32 (n)), .ref 66]) rfl (jl_aloadn gL65_0) ?_
          refine jr_get (pc_q := 64) (i := 35) (v := .ref 85) rfl rfl (by decide) rfl rfl ?_
          refine jx_ld (pc_q := 65) (l_q := L65) (st_q := [.int (i32 (a)), .ref 85, .ref 78, .int (i32 (T0 17 (T0 17 (a).toNat).toNat)), .int (i32 (n)), .ref 66]) rfl (jl_iloadn gL65_2) ?_
          refine jr_ldv (pc_q := 66) (i := 18) (m := 7000) (z := a) (y := T0 18 (a).toNat) rfl (by decide) rfl (by decide) (by omega) (by omega) rfl (show Ax 18 (a).toNat = T0 18 (a).toNat from (congrFun ((hFx.2 18 rfl).trans (p_0 18 rfl)) _)) ?_
          refine jr_ldv (pc_q := 67) (i := 11) (m := 260) (z := T0 18 (a).toNat) (y := A 11 (T0 18 (a).toNat).toNat) rfl (by decide) rfl (by decide) (by omega) (by omega) rfl (show Ax 11 (T0 18 (a).toNat).toNat = A 11 (T0 18 (a).toNat).toNat from (congrFun (hFx.2 11 rfl) _)) ?_
          refine jx_vr (pc_q := 70) (as := [.int (i32 (n)), .int (i32 (T0 17 (T0 17 (a).toNat).toNat)), .int (i32 (A 11 (T0 18 (a).toNat).toNat))]) (st := []) rfl rfl rfl rfl ⟨rfl, rfl, Nat.le_of_ble_eq_true rfl⟩ rfl rfl (c_checkChannel (dd := d) (hd := by omega) (hW := hWx) (n := n) (s := T0 17 (T0 17 (a).toNat).toNat) (u := A 11 (T0 18 (a).toNat).toNat) (wl := wl1) (e_wl := show Gx 67 = wl1 from (ex_wl1)) (w := wh) (e_w := show Gx 68 = wh from ((hFx.1 68 rfl).trans (e_wh))) (lnn := lnn) (e_lnn := show Ax 16 (n).toNat = lnn from (congrFun (hFx.2 16 rfl) _).trans (e_lnn))  (h_n := ⟨(Int.le_trans (by decide : (-2147483648 : Int) ≤ -2147483648) h_n.1), (Int.le_trans h_n.2 (by decide : (2147483647 : Int) ≤ 2147483647))⟩) (h_s := ⟨(Int.le_trans (by decide : (-2147483648 : Int) ≤ -2147483648) b74.1), (Int.le_trans b74.2 (by decide : (2147483647 : Int) ≤ 2147483647))⟩) (h_u := ⟨(Int.le_trans (by decide : (-2147483648 : Int) ≤ 0) b69.1), (Int.le_trans b69.2 (by decide : (15 : Int) ≤ 2147483647))⟩)  (p_0 := (TA_fr hFx (by decide) p_0)) (p_1 := by omega) (p_2 := by omega) (p_3 := by omega) (p_4 := by omega) (p_5 := by omega) (p_6 := by omega) (p_7 := by omega) (p_8 := by omega) (p_9 := (p_7 _ hqp.2.2.1.2.2))) (fun o V_q hq => ?_)
          obtain ⟨G75, A76, wl2_77, rfl, rfl, hW78, hF79, e80, q81⟩ := hq
          have hF82 := Fr_tr hFx hF79 (Fr_sub (by decide)) (Fr_sub (by decide))
          have bwl2_77 : (-2147483648 : Int) ≤ wl2_77 ∧ wl2_77 ≤ 2147483647 := e80 ▸ hW78.1 67
          refine .inl ⟨rfl, ?_⟩
          rcases q81 with ⟨a83, a84⟩ | a85
          · have _q : True := trivial
            have hok : Aok T0 Bu wh a := (fun _ _ => by rw [← hbu.1]; exact a84); have hci : wl2_77 = -1 → CAi T0 Bu (A 13) wh n a (T0 22 (a).toNat) := (fun q => CAi_0 (hLO (by omega)) (by omega) hok rfl)
            refine jx_ld (pc_q := 71) (l_q := L65) (st_q := [.ref 66]) rfl (jl_aloadn gL65_0) ?_
            refine jr_get (pc_q := 74) (i := 39) (v := .ref 89) rfl rfl (by decide) rfl rfl ?_
            refine jx_ld (pc_q := 75) (l_q := L65) (st_q := [.int (i32 (a)), .ref 89]) rfl (jl_iloadn gL65_2) ?_
            have b86 : (-2147483648 : Int) ≤ T0 22 (a).toNat ∧ T0 22 (a).toNat ≤ 2147483647 := hWT.2 22 _
            refine jr_ldv (pc_q := 76) (i := 22) (m := 7000) (z := a) (y := T0 22 (a).toNat) rfl (by decide) rfl (by decide) (by omega) (by omega) rfl (show A76 22 (a).toNat = T0 22 (a).toNat from (congrFun ((hF79.2 22 rfl).trans ((hFx.2 22 rfl).trans (p_0 22 rfl))) _)) ?_
            refine jx_ld (pc_q := 78) (l_q := jSto1 L65 4 (.int (i32 (T0 22 (a).toNat)))) (st_q := []) rfl rfl ?_
            obtain ⟨L87, eL87⟩ : ∃ q, q = jSto1 L65 4 (.int (i32 (T0 22 (a).toNat))) := ⟨_, rfl⟩
            rw [← eL87]
            have gL87_0 : jGet L87 0 = some (.ref 66) := eL87 ▸ jg_ne (by decide) gL65_0 rfl
            have gL87_1 : jGet L87 1 = some (.int (i32 (n))) := eL87 ▸ jg_ne (by decide) gL65_1 rfl
            have gL87_2 : jGet L87 2 = some (.int (i32 (a))) := eL87 ▸ jg_ne (by decide) gL65_2 rfl
            have gL87_3 : jGet L87 3 = some (.int (i32 (T0 7 (T0 18 (a).toNat).toNat))) := eL87 ▸ jg_ne (by decide) gL65_3 rfl
            have gL87_4 : jGet L87 4 = some (.int (i32 (T0 22 (a).toNat))) := eL87 ▸ jg_eq
            exact at_78 _ L87 G75 A76 (T0 22 (a).toNat) (wl2_77) (m1) rfl gL87_0 gL87_1 gL87_2 gL87_3 gL87_4 hW78 hF82 ((e80)) (by omega) (by omega) (by omega) (by omega) (by omega) (by omega) (hnx) (hci)
          · have _q : True := trivial
            have hci : wl2_77 = -1 → CAi T0 Bu (A 13) wh n a (T0 22 (a).toNat) := (fun q => CAi_0 (hLO (by omega)) (by omega) (fun k1 k2 => by omega) rfl)
            refine jx_ld (pc_q := 71) (l_q := L65) (st_q := [.ref 66]) rfl (jl_aloadn gL65_0) ?_
            refine jr_get (pc_q := 74) (i := 39) (v := .ref 89) rfl rfl (by decide) rfl rfl ?_
            refine jx_ld (pc_q := 75) (l_q := L65) (st_q := [.int (i32 (a)), .ref 89]) rfl (jl_iloadn gL65_2) ?_
            have b88 : (-2147483648 : Int) ≤ T0 22 (a).toNat ∧ T0 22 (a).toNat ≤ 2147483647 := hWT.2 22 _
            refine jr_ldv (pc_q := 76) (i := 22) (m := 7000) (z := a) (y := T0 22 (a).toNat) rfl (by decide) rfl (by decide) (by omega) (by omega) rfl (show A76 22 (a).toNat = T0 22 (a).toNat from (congrFun ((hF79.2 22 rfl).trans ((hFx.2 22 rfl).trans (p_0 22 rfl))) _)) ?_
            refine jx_ld (pc_q := 78) (l_q := jSto1 L65 4 (.int (i32 (T0 22 (a).toNat)))) (st_q := []) rfl rfl ?_
            obtain ⟨L89, eL89⟩ : ∃ q, q = jSto1 L65 4 (.int (i32 (T0 22 (a).toNat))) := ⟨_, rfl⟩
            rw [← eL89]
            have gL89_0 : jGet L89 0 = some (.ref 66) := eL89 ▸ jg_ne (by decide) gL65_0 rfl
            have gL89_1 : jGet L89 1 = some (.int (i32 (n))) := eL89 ▸ jg_ne (by decide) gL65_1 rfl
            have gL89_2 : jGet L89 2 = some (.int (i32 (a))) := eL89 ▸ jg_ne (by decide) gL65_2 rfl
            have gL89_3 : jGet L89 3 = some (.int (i32 (T0 7 (T0 18 (a).toNat).toNat))) := eL89 ▸ jg_ne (by decide) gL65_3 rfl
            have gL89_4 : jGet L89 4 = some (.int (i32 (T0 22 (a).toNat))) := eL89 ▸ jg_eq
            exact at_78 _ L89 G75 A76 (T0 22 (a).toNat) (wl2_77) (m1) rfl gL89_0 gL89_1 gL89_2 gL89_3 gL89_4 hW78 hF82 ((e80)) (by omega) (by omega) (by omega) (by omega) (by omega) (by omega) (hnx) (hci)
set_option maxRecDepth 20000 in
set_option maxHeartbeats 4000000 in
theorem c_checkCall {X : jX} {dd : Nat} {T0 : Nat → Nat → Int} {Bu : Int → Int} {Vs : Nat → Prop} {sb pb : Int} {c0 c1 : jC} {G : Nat → Int} {A : Nat → Nat → Int} {T : jH} {n : Int} {hi : Int} {wl wh lnn : Int} (hd : 5 ≤ dd) (hW : Wk G A) (e_wl : G 67 = wl) (e_wh : G 68 = wh) (e_lnn : A 16 (n).toNat = lnn) (h_n : (-2147483648 : Int) ≤ n ∧ n ≤ 2147483647) (p_0 : TA T0 A) (p_1 : hi ≤ 6999) (p_2 : sb ≤ 202) (p_3 : 0 ≤ n) (p_4 : n < hi) (p_5 : LAr T0 Vs sb (T0 17 (n).toNat) (n) (T0 21 (n).toNat) (n + 1) (hi) (n + 1)) (p_6 : BUr T0 Bu pb A) (p_7 : LKV T0 Vs) (p_8 : 0 ≤ lnn) (p_9 : -1 ≤ wl ∧ wl ≤ 3000) (p_10 : 0 ≤ T0 17 (n).toNat) (p_11 : T0 17 (n).toNat < pb) : wk X dd 337 [.ref 66, .int (i32 n)] (rV c0 c1 G A T) (fun o V_q => ∃ (G_q : Nat → Int) (A_q : Nat → Nat → Int) (wl2 : Int), V_q = rV c0 c1 G_q A_q T ∧ o = .inl none ∧ Wk G_q A_q ∧ Fr [67] [] G A G_q A_q ∧ G_q 67 = wl2 ∧ (-1 ≤ wl2 ∧ wl2 ≤ 3000) ∧ (wl = -1 ∨ 0 ≤ wl2) ∧ ((wl2) = -1 → ∀ l, CH T0 (T0 21 (n).toNat) l → (∀ a ∈ l, Aok T0 Bu wh a) ∧ ∀ u1 a u2, l = u1 ++ a :: u2 → ∀ b ∈ u2, Arl T0 (A 13) a b) ∧ True) := by
  obtain ⟨d, rfl⟩ : ∃ d, dd = d + 1 := ⟨dd - 1, by omega⟩
  refine wk_of (e := jm337) rfl (Nat.le_of_ble_eq_true rfl) ?_
  show wj X d jm337 (0, [(0, .ref 66), (1, .int (i32 (n)))], [], rV c0 c1 G A T) _
  have hF0 : Fr [67] [] G A G A := Fr_rf
  have b_wl : (-2147483648 : Int) ≤ wl ∧ wl ≤ 2147483647 := e_wl ▸ hW.1 67
  have b_wh : (-2147483648 : Int) ≤ wh ∧ wh ≤ 2147483647 := e_wh ▸ hW.1 68
  have b_lnn : (-1 : Int) ≤ lnn ∧ lnn ≤ 3000 := e_lnn ▸ hW.2 16 _
  have hWT := TA_w hW p_0
  refine jx_ld (pc_q := 1) (l_q := [(0, .ref 66), (1, .int (i32 (n)))]) (st_q := [.ref 66]) rfl (jl_aloadn rfl) ?_
  refine jr_get (pc_q := 4) (i := 38) (v := .ref 88) rfl rfl (by decide) rfl rfl ?_
  refine jx_ld (pc_q := 5) (l_q := [(0, .ref 66), (1, .int (i32 (n)))]) (st_q := [.int (i32 (n)), .ref 88]) rfl (jl_iloadn rfl) ?_
  have b90 : (-2147483648 : Int) ≤ T0 21 (n).toNat ∧ T0 21 (n).toNat ≤ 2147483647 := hWT.2 21 _
  refine jr_ldv (pc_q := 6) (i := 21) (m := 7000) (z := n) (y := T0 21 (n).toNat) rfl (by decide) rfl (by decide) (by omega) (by omega) rfl (show A 21 (n).toNat = T0 21 (n).toNat from (congrFun (p_0 21 rfl) _)) ?_
  have _q : True := trivial
  refine jx_ld (pc_q := 7) (l_q := jSto1 [(0, .ref 66), (1, .int (i32 (n)))] 2 (.int (i32 (T0 21 (n).toNat)))) (st_q := []) rfl rfl ?_
  obtain ⟨L91, eL91⟩ : ∃ q, q = jSto1 [(0, .ref 66), (1, .int (i32 (n)))] 2 (.int (i32 (T0 21 (n).toNat))) := ⟨_, rfl⟩
  rw [← eL91]
  have gL91_0 : jGet L91 0 = some (.ref 66) := eL91 ▸ jg_ne (by decide) (rfl : jGet [(0, .ref 66), (1, .int (i32 (n)))] 0 = some (.ref 66)) rfl
  have gL91_1 : jGet L91 1 = some (.int (i32 (n))) := eL91 ▸ jg_ne (by decide) (rfl : jGet [(0, .ref 66), (1, .int (i32 (n)))] 1 = some (.int (i32 (n)))) rfl
  have gL91_2 : jGet L91 2 = some (.int (i32 (T0 21 (n).toNat))) := eL91 ▸ jg_eq
  exact c_checkCall_at_7 (X := X) (d := d) (T0 := T0) (Bu := Bu) (Vs := Vs) (sb := sb) (pb := pb) (c0 := c0) (c1 := c1) (G := G) (A := A) (T := T) (n := n) (hi := hi) (wl := wl) (wh := wh) (lnn := lnn) (hd := hd) (hW := hW) (e_wl := e_wl) (e_wh := e_wh) (e_lnn := e_lnn) (h_n := h_n) (p_0 := p_0) (p_1 := p_1) (p_2 := p_2) (p_3 := p_3) (p_4 := p_4) (p_5 := p_5) (p_6 := p_6) (p_7 := p_7) (p_8 := p_8) (p_9 := p_9) (p_10 := p_10) (p_11 := p_11) _ L91 G A (T0 21 (n).toNat) (wl) (n + 1) rfl gL91_0 gL91_1 gL91_2 hW hF0 ((e_wl)) (by omega) (by omega) (by omega) (by omega) (by omega) (p_5) ((fun _ => CAo_0 (LAr_ch p_5) rfl))
