theorem Fx_un {L : List Nat} {w v : Int} {A A1 A2 : Nat → Nat → Int} {k n : Nat} (e : A2 = uA A1 k n v) (h : Fx L w A A1) (hn : L.elem k = false) : Fx L w A A2 := by
  subst e
  exact Fx_n h hn
/-- room for labels: hidden from the arithmetic -/
def WB (lo hi b : Int) : Prop := b = 200000 * (hi - lo)
theorem WB_ex (lo hi : Int) : ∃ b, WB lo hi b := ⟨200000 * (hi - lo), rfl⟩
theorem WB_in {lo hi bd a b b1 : Int} (h : WB lo hi bd) (g : WB a b b1) (h1 : lo < a) (h2 : a ≤ b) (h3 : b ≤ hi) : 0 ≤ b1 ∧ b1 + 150000 + (a - lo) ≤ bd := by
  unfold WB at h g
  omega
theorem WB_le {lo hi bd a b b1 : Int} (h : WB lo hi bd) (g : WB a b b1) (h1 : lo ≤ a) (h2 : a ≤ b) (h3 : b ≤ hi) : 0 ≤ b1 ∧ b1 ≤ bd := by
  unfold WB at h g
  omega
theorem WB_p {lo hi bd : Int} (h : WB lo hi bd) (h1 : lo < hi) (h2 : 0 ≤ lo) (h3 : hi ≤ 6999) : 200000 + (hi - lo - 1) ≤ bd ∧ bd ≤ 1399800000 := by
  unfold WB at h
  omega
/-- spent so far, the next piece, spent then -/
theorem WB_nx {n m x m_q b b1 b2 : Int} (h : WB n m b) (g : WB x m_q b1) (k : WB n m_q b2) (h1 : n ≤ m) (h2 : m < x) (h3 : x ≤ m_q) : 0 ≤ b ∧ 0 ≤ b1 ∧ b + b1 + 150000 + (x - m) ≤ b2 := by
  unfold WB at h g k
  omega
theorem WB_ad {n m m_q b b1 b2 : Int} (h : WB n m b) (g : WB m m_q b1) (k : WB n m_q b2) (h1 : n ≤ m) (h2 : m ≤ m_q) : 0 ≤ b ∧ 0 ≤ b1 ∧ b + b1 = b2 := by
  unfold WB at h g k
  omega
theorem WB_e {n m hi b bd : Int} (h : WB n hi bd) (g : WB (n + 1) m b) (h1 : n + 1 ≤ m) (h2 : m ≤ hi) : 0 ≤ b ∧ b + 200000 ≤ bd := by
  unfold WB at h g
  omega
def WE (i b : Int) : Prop := b = 14000 * i
theorem WE_b {i b : Int} (h : WE i b) (h0 : 0 ≤ i) (h1 : i ≤ 8) : 0 ≤ b ∧ b ≤ 112000 := by
  unfold WE at h
  omega
theorem WE_nx {i i_q b b_q : Int} (h : WE i b) (e : i_q = i + 1) (e2 : b_q = b + 14000) : WE i_q b_q := by
  unfold WE at h ⊢
  omega
theorem VB_mo {V : Nat → Prop} {b c : Int} (h : VB V b) (hb : b ≤ c) : VB V c := fun s hs => by
  have := h s hs
  omega
theorem PE_i {r : Nat} {f : Int → Int} {b i i_q : Int} {A : Nat → Nat → Int} (e : i = i_q) (h : PE r f b i A) : PE r f b i_q A := e ▸ h
/-- the processes of a row before c; the choices before c -/
def hSq (T C : Nat → Nat → Int) (Q : Int → Int) (j : Nat) (F S : Int → Int) (nw n c k k_q l0 l1 : Int) : Prop := gQ T (gP T C Q j F S nw) n c k k_q l0 l1
theorem hSq_mv {T C C_q : Nat → Nat → Int} {Q : Int → Int} {j : Nat} {F S : Int → Int} {K nw n c k k_q l0 l1 : Int} (g : Cg K l0 l1 C C_q) (hk : k_q ≤ K) (h : hSq T C Q j F S nw n c k k_q l0 l1) : hSq T C_q Q j F S nw n c k k_q l0 l1 := gQ_mv (fun _ _ _ _ _ w => gP_le w) (fun _ _ _ _ _ h1 h2 h3 w => gP_mv (Cg_su g (Int.le_refl _) h1 h2) h3 w) hk h
def hIq (T C : Nat → Nat → Int) (Q : Int → Int) (j : Nat) (F S : Int → Int) (nw le n c k k_q l0 l1 : Int) : Prop := gQ T (gIc T C F S nw (gP T C Q j F S nw) le) n c k k_q l0 l1
theorem hIq_mv {T C C_q : Nat → Nat → Int} {Q : Int → Int} {j : Nat} {F S : Int → Int} {K nw le n c k k_q l0 l1 : Int} (g : Cg K l0 l1 C C_q) (hk : k_q ≤ K) (h : hIq T C Q j F S nw le n c k k_q l0 l1) : hIq T C_q Q j F S nw le n c k k_q l0 l1 := gQ_mv (fun _ _ _ _ _ w => gIc_le (fun _ _ _ _ _ w => gP_le w) w) (fun _ _ _ _ _ h1 h2 h3 w => gIc_mv (fun _ _ _ _ _ w => gP_le w) (fun _ _ _ _ _ g1 g2 g3 w => gP_mv (Cg_su g (Int.le_refl _) (by omega) (by omega)) g3 w) (Cg_su g (Int.le_refl _) h1 h2) h3 w) hk h
theorem LZ_mk2 {C : Nat → Nat → Int} {z l d l0 l1 : Int} (e : z = l) (h0 : 0 ≤ l0) (q : l0 < l ∧ l ≤ l1) (h3 : C 50 z.toNat = d) : LZ C l d l0 l1 := by
  subst e
  exact ⟨by omega, q.1, q.2, h3⟩
theorem gP2_La {T C : Nat → Nat → Int} {Q : Int → Int} {k0 : Nat} {La F S : Int → Int} {nw p i le k k_q l0 l1 : Int} {j : Nat} (h : gP2 T C Q k0 La F S nw p j le k k_q l0 l1) (h0 : 0 ≤ i) (hi : i < mny T p) : l0 < La i ∧ La i ≤ l1 := by
  obtain ⟨_, _, a, b, m2, h1, h2, h3, _⟩ := h
  have := gP1_La h3 i.toNat (by omega)
  rw [show ((i.toNat : Nat) : Int) = i by omega] at this
  omega
theorem gA5_La {T C : Nat → Nat → Int} {Q : Int → Int} {k0 : Nat} {La F S : Int → Int} {nw n i le lf k sa k_q l0 l1 : Int} {j : Nat} (h : gA5 T C Q k0 La F S nw n j le lf k sa k_q l0 l1) (h0 : 0 ≤ i) (hi : i < T 18 n.toNat) : l0 < La i ∧ La i ≤ l1 := by
  obtain ⟨_, _, m2, h1, h2, h3, _⟩ := h
  have := gA0_La h3 i.toNat (by omega)
  rw [show ((i.toNat : Nat) : Int) = i by omega] at this
  omega
theorem gP_c {T C : Nat → Nat → Int} {Q : Int → Int} {j : Nat} {F S : Int → Int} {nw p p_q k k_q l0 l1 : Int} (e : p = p_q) (h : gP T C Q j F S nw p k k_q l0 l1) : gP T C Q j F S nw p_q k k_q l0 l1 := e ▸ h
theorem wP_c {A : Nat → Nat → Int} {sb pb : Int} {n : Nat} {V : Nat → Prop} {p p_q lo hi s0 s1 : Int} (e : p = p_q) (h : wP A sb pb n V p_q lo hi s0 s1) : wP A sb pb n V p lo hi s0 s1 := e ▸ h
theorem lP_c {A : Nat → Nat → Int} {n : Nat} {p p_q f L : Int} (e : p = p_q) (h : lP A n p_q f L (A 26 p_q.toNat) (A 27 p_q.toNat)) : lP A n p f L (A 26 p.toNat) (A 27 p.toNat) := e ▸ h
theorem PL_su {C : Nat → Nat → Int} {k k_q l l0 l1 a b : Int} (h : PL C k k_q l l0 l1) (ha : a ≤ l0) (hb : l1 ≤ b) : PL C k k_q l a b := by
  obtain ⟨x, y, h1, h2, h3, h4, h5, h6⟩ := h
  exact ⟨x, y, h1, h2, h3, by omega, by omega, h6⟩
theorem gD_su {T C : Nat → Nat → Int} {F S : Int → Int} {nw : Int} {n : Nat} {x k k_q l0 l1 a b : Int} (h : gD T C F S nw n x k k_q l0 l1) (ha : a ≤ l0) (hb : l1 ≤ b) : gD T C F S nw n x k k_q a b := by
  refine ⟨fun q => ?_, h.2⟩
  obtain ⟨y, h1, h2⟩ := h.1 q
  exact ⟨y, gE_su ha hb h1, h2⟩
theorem gA1_0 {T C : Nat → Nat → Int} {La F S : Int → Int} {nw n k k_q l0 l1 : Int} {i : Nat} (hi : i = 0) (hk : k_q = k) (hl : l1 = l0) : gA1 T C La F S nw n i k k_q l0 l1 := by
  subst hi
  exact ⟨hk, hl⟩
theorem gA2_0 {T C : Nat → Nat → Int} {n k k_q : Int} {i : Nat} (hi : i = 0) (hk : k_q = k) : gA2 T C n i k k_q := by
  subst hi
  exact hk
theorem gA3_0 {T C : Nat → Nat → Int} {La : Int → Int} {lf n k k_q : Int} {i : Nat} (hi : i = 0) (hk : k_q = k) : gA3 T C La lf n i k k_q := by
  subst hi
  exact hk
theorem gN_0 {T C : Nat → Nat → Int} {F : Int → Int} {nw s k k_q : Int} {i : Nat} (hi : i = 0) (hk : k_q = k) : gN T C F nw s i k k_q := by
  subst hi
  exact hk
theorem gA1_i {T C : Nat → Nat → Int} {La F S : Int → Int} {nw n k k_q l0 l1 i i_q : Int} (e : i = i_q) (h : gA1 T C La F S nw n i.toNat k k_q l0 l1) : gA1 T C La F S nw n i_q.toNat k k_q l0 l1 := e ▸ h
theorem gA2_i {T C : Nat → Nat → Int} {n k k_q i i_q : Int} (e : i = i_q) (h : gA2 T C n i.toNat k k_q) : gA2 T C n i_q.toNat k k_q := e ▸ h
theorem gN_i {T C : Nat → Nat → Int} {F : Int → Int} {nw s k k_q i i_q : Int} (e : i = i_q) (h : gN T C F nw s i.toNat k k_q) : gN T C F nw s i_q.toNat k k_q := e ▸ h
theorem gP_mk {T C : Nat → Nat → Int} {Q : Int → Int} {n : Nat} {F S : Int → Int} {nw p k a k_q l0 l1 : Int} (h0 : 0 ≤ l0) (h1 : gN T C F nw (T 23 p.toNat) (T 24 p.toNat).toNat k a) (h2 : gS T C Q (gP T C Q n) F S nw p a k_q l0 l1) : gP T C Q (n + 1) F S nw p k k_q l0 l1 := by
  unfold gP
  exact ⟨h0, a, h1, h2⟩
theorem WY_e {C : Nat → Nat → Int} {k k_q fn l fr fn' l_q : Int} (h : WY C k k_q fn l fr) (e1 : fn = fn') (e2 : l = l_q) : WY C k k_q fn' l_q fr := e1 ▸ e2 ▸ h
theorem LBd_i {f : Int → Int} {i i_q : Int} (e : i = i_q) (h : LBd f i) : LBd f i_q := e ▸ h

set_option maxRecDepth 20000 in
set_option maxHeartbeats 4000000 in
theorem c_genCall_at_14 {X : jX} {d : Nat} {T0 : Nat → Nat → Int} {Q F Sn : Int → Int} {Vs : Nat → Prop} {sb pb : Int} {c0 c1 : jC} {G : Nat → Int} {A : Nat → Nat → Int} {T : jH} {n : Int} {hi : Int} {st lg lb nw : Int} (hd : 60 ≤ d + 1) (hW : Wk G A) (e_st : G 70 = st) (e_lg : G 79 = lg) (e_lb : G 77 = lb) (e_nw : G 81 = nw) (h_n : (-2147483648 : Int) ≤ n ∧ n ≤ 2147483647) (p_0 : TA T0 A) (p_1 : FA F (nw) A) (p_2 : SA T0 Vs Sn A) (p_3 : VW T0 Vs (nw)) (p_4 : 0 ≤ nw) (p_5 : nw ≤ 39) (p_6 : 0 ≤ st) (p_7 : st ≤ 7000) (p_8 : 0 ≤ lb) (p_9 : lb + (hi - n) + 7000 - st ≤ 1900000000) (p_10 : hi ≤ 6999) (p_11 : sb ≤ 202) (p_12 : LAr T0 Vs sb (T0 17 (n).toNat) (n) (T0 21 (n).toNat) (n + 1) (hi) (n + 1)) (p_13 : 0 ≤ n) (p_14 : n < hi) (p_15 : 0 ≤ T0 17 (n).toNat) (p_16 : T0 17 (n).toNat < pb) (p_17 : pb ≤ 24) (p_18 : PV T0 pb) (p_19 : PA Q pb A) : ∀ (m : Nat) (L : jL) (Gx : Nat → Int) (Ax : Nat → Nat → Int) (q c st1 lg1 lb1 gm : Int), (hi - gm).toNat = m → jGet L 0 = some (.ref 66) → jGet L 1 = some (.int (i32 (n))) → jGet L 2 = some (.int (i32 q)) → jGet L 3 = some (.int (i32 c)) → Wk Gx Ax → Fr [70, 77, 79] [44, 45, 46, 47, 50] G A Gx Ax → Fx [44, 45, 46, 47] (st) A Ax → Cd (lg1 = 0 ∧ lb1 < 19999) (Fx [50] (lb + 1) A Ax) → Gx 70 = st1 → Gx 79 = lg1 → Gx 77 = lb1 → ((-2147483648 : Int) ≤ q ∧ q ≤ 2147483647) → ((-2147483648 : Int) ≤ c ∧ c ≤ 2147483647) → (st ≤ st1) → (st1 ≤ 7000) → (lg ≤ lg1) → (lg1 ≤ 1) → (lb ≤ lb1) → (Cd (lg1 = 0) (lb1 - lb ≤ st1 - st)) → (q = T0 17 (n).toNat) → (lb1 - lb ≤ st1 - st + (gm - (n + 1))) → (n + 1 ≤ gm) → (gm ≤ hi) → (LAr T0 Vs sb (T0 17 (n).toNat) (n) (c) (n + 1) (hi) (gm)) → (Cd (lg1 = 0 ∧ lb1 < 19999) (gAs T0 Ax F Sn nw (T0 17 (n).toNat) (n) (c) (st) (st1) (lb) (lb1))) → wj X d jm355 (14, L, [], rV c0 c1 Gx Ax T) (fun o V_q => ∃ (G_q : Nat → Int) (A_q : Nat → Nat → Int) (st2 : Int) (lg2 : Int) (lb2 : Int), V_q = rV c0 c1 G_q A_q T ∧ o = .inl none ∧ Wk G_q A_q ∧ Fr [70, 77, 79] [44, 45, 46, 47, 50] G A G_q A_q ∧ Fx [44, 45, 46, 47] (st) A A_q ∧ G_q 70 = st2 ∧ G_q 79 = lg2 ∧ G_q 77 = lb2 ∧ (st ≤ st2) ∧ (st2 ≤ 7000) ∧ (lg ≤ lg2) ∧ (lg2 ≤ 1) ∧ (lb ≤ lb2) ∧ (Cd (lg2 = 0) (lb2 - lb ≤ st2 - st)) ∧ (lb2 - lb ≤ st2 - st + (hi - n)) ∧ (Cd (lg2 = 0 ∧ lb2 < 19999) (Fx [50] (lb + 1) A A_q)) ∧ (Cd (lg2 = 0 ∧ lb2 < 19999) (gCl T0 A_q Q F Sn nw (n) (st) (st2) (lb) (lb2))) ∧ True) := by
  have hF0 : Fr [70, 77, 79] [44, 45, 46, 47, 50] G A G A := Fr_rf
  have hC0 : Fx [44, 45, 46, 47] (st) A A := Fx_rf
  have b_st : (-2147483648 : Int) ≤ st ∧ st ≤ 2147483647 := e_st ▸ hW.1 70
  have b_lg : (0 : Int) ≤ lg ∧ lg ≤ 1 := e_lg ▸ hW.1 79
  have b_lb : (-2147483648 : Int) ≤ lb ∧ lb ≤ 2147483647 := e_lb ▸ hW.1 77
  have b_nw : (-2147483648 : Int) ≤ nw ∧ nw ≤ 2147483647 := e_nw ▸ hW.1 81
  have hWT := TA_w hW p_0
  have hBo0 : Cd (lg = 0 ∧ lb < 19999) (Fx [50] (lb + 1) A A) := Cd_mk (fun _ => Fx_rf)
  have hPA := p_19
  have hpq := p_18 (T0 17 (n).toNat) (by omega) (by omega)
  intro m
  induction m using Nat.strongRecOn with
  | ind m ih14 =>
    intro L Gx Ax q c st1 lg1 lb1 gm hm gL_0 gL_1 gL_2 gL_3 hWx hFx hCx hBox ex_st1 ex_lg1 ex_lb1 rx_q rx_c iv_0 iv_1 iv_2 iv_3 iv_4 iv_5 iv_6 iv_7 iv_8 iv_9 iv_10 iv_11
    have b_st1 : (-2147483648 : Int) ≤ st1 ∧ st1 ≤ 2147483647 := ex_st1 ▸ hWx.1 70
    have b_lg1 : (0 : Int) ≤ lg1 ∧ lg1 ≤ 1 := ex_lg1 ▸ hWx.1 79
    have b_lb1 : (-2147483648 : Int) ≤ lb1 ∧ lb1 ≤ 2147483647 := ex_lb1 ▸ hWx.1 77
    refine jx_ld (pc_q := 15) (l_q := L) (st_q := [.int (i32 (c))]) rfl (jl_iloadn gL_3) ?_
    refine jx_if_le (pc_q := 18) (tg := 93) rfl rfl rfl (Int.le_trans (by decide : (-2147483648 : Int) ≤ -2147483648) rx_c.1) (Int.le_trans rx_c.2 (by decide : (2147483647 : Int) ≤ 2147483647)) (fun h1 => ?_) (fun h1 => ?_)
    · have _q := h1
      refine jx_ld (pc_q := 94) (l_q := L) (st_q := [.ref 66]) rfl (jl_aloadn gL_0) ?_
      refine jx_ar (pc_q := 96) (st_q := [.int (i32 (9)), .ref 66]) rfl rfl rfl rfl ?_
      refine jx_ld (pc_q := 97) (l_q := L) (st_q := [.ref 66, .int (i32 (9)), .ref 66]) rfl (jl_aloadn gL_0) ?_
      refine jr_get (pc_q := 100) (i := 82) (v := .ref 119) rfl rfl (by decide) rfl rfl ?_
      refine jx_ld (pc_q := 101) (l_q := L) (st_q := [.int (i32 (q)), .ref 119, .int (i32 (9)), .ref 66]) rfl (jl_iloadn gL_2) ?_
      have b2 : (-2147483648 : Int) ≤ A 52 (q).toNat ∧ A 52 (q).toNat ≤ 2147483647 := hW.2 52 _
      refine jr_ldv (pc_q := 102) (i := 52) (m := 25) (z := q) (y := A 52 (q).toNat) rfl (by decide) rfl (by decide) (by omega) (by omega) rfl (show Ax 52 (q).toNat = A 52 (q).toNat from (congrFun (hFx.2 52 rfl) _)) ?_
      refine jx_ar (pc_q := 103) (st_q := [.int (i32 (0)), .int (i32 (A 52 (q).toNat)), .int (i32 (9)), .ref 66]) rfl rfl rfl rfl ?_
      refine jx_vr (pc_q := 106) (as := [.int (i32 (9)), .int (i32 (A 52 (q).toNat)), .int (i32 (0))]) (st := []) rfl rfl rfl rfl ⟨rfl, rfl, Nat.le_of_ble_eq_true rfl⟩ rfl rfl (c_way (dd := d) (hd := by omega) (hW := hWx) (fn := 9) (to := A 52 (q).toNat) (fr := 0) (st := st1) (e_st := show Gx 70 = st1 from (ex_st1)) (lg := lg1) (e_lg := show Gx 79 = lg1 from (ex_lg1))  (h_fn := ⟨(by decide), (by decide)⟩) (h_to := ⟨(Int.le_trans (by decide : (-2147483648 : Int) ≤ -2147483648) b2.1), (Int.le_trans b2.2 (by decide : (2147483647 : Int) ≤ 2147483647))⟩) (h_fr := ⟨(by decide), (by decide)⟩)  (p_0 := by omega) (p_1 := by omega)) (fun o V_q hq => ?_)
      obtain ⟨G3, A4, st2_5, lg2_6, rfl, rfl, hW7, hF8, hQ9, e10, e11, p12, p13, p14, p15, p16, p17, -⟩ := hq
      have hF19 := Fr_tr hFx hF8 (Fr_sub (by decide)) (Fr_sub (by decide))
      have hC20 := Fx_tr hCx hQ9 (by omega)
      have bst2_5 : (-2147483648 : Int) ≤ st2_5 ∧ st2_5 ≤ 2147483647 := e10 ▸ hW7.1 70
      have blg2_6 : (0 : Int) ≤ lg2_6 ∧ lg2_6 ≤ 1 := e11 ▸ hW7.1 79
      refine .inl ⟨rfl, ?_⟩
      have sf21 : Cd (lg2_6 = 0 ∧ lb1 < 19999) (gAs T0 A4 F Sn nw (T0 17 (n).toNat) (n) (c) (st) (st1) (lb) (lb1)) := Cd_mk (fun hC => gAs_mv (Cg_fx (l0 := lb) (l1 := lb1) hQ9 (Fx_f (w := lb1 + 1) Fx_rf hF8 (by decide)) (by omega)) (by omega) (Cd_ap iv_11 (by omega)))
      have hBo22 : Cd (lg2_6 = 0 ∧ lb1 < 19999) (Fx [50] (lb + 1) A A4) := Cd_mk (fun hC => Fx_f (Cd_ap hBox (by omega)) hF8 (by decide))
      refine jx_rt (v := none) rfl rfl rfl rfl rfl rfl ?_
      exact ⟨_, _, st2_5, lg2_6, lb1, rfl, rfl, hW7, hF19, hC20, (e10), (e11), ((hF8.1 77 rfl).trans (ex_lb1)), by omega, by omega, by omega, by omega, by omega, (Cd_mk (fun hC => by have := Cd_ap iv_5 (by omega); omega)), by omega, (Cd_mk (fun hC => Cd_ap hBo22 (by omega))), (Cd_mk (fun hC => ⟨_, gQ_end (Cd_ap sf21 (by omega)) (by omega), WY_e (Cd_ap p17 (by omega)) rfl (by rw [iv_6]; exact hPA (T0 17 (n).toNat) (by omega) (by omega))⟩)), trivial⟩
    · have _q := h1
      obtain ⟨m1, jx, hm1, hm2, hm3, hm4, hm5, hjx, h18, h18a, h18b, hgE, hgD, hnx⟩ := LAr_hd iv_10 (by omega); have hpv := p_18 (T0 17 (n).toNat) (by omega) (by omega); have hpw := hpv.2.2 jx hjx; have h9 : T0 9 (T0 18 (c).toNat).toNat = 1 + (jx : Int) := (by rw [h18]; exact hpw.1); have h32 : T0 32 (q).toNat = T0 32 (T0 17 (n).toNat).toNat := (by rw [iv_6])
      refine jx_ld (pc_q := 19) (l_q := L) (st_q := [.ref 66]) rfl (jl_aloadn gL_0) ?_
      refine jr_get (pc_q := 22) (i := 21) (v := .ref 74) rfl rfl (by decide) rfl rfl ?_
      refine jx_ld (pc_q := 23) (l_q := L) (st_q := [.ref 66, .ref 74]) rfl (jl_aloadn gL_0) ?_
      refine jr_get (pc_q := 26) (i := 35) (v := .ref 85) rfl rfl (by decide) rfl rfl ?_
      refine jx_ld (pc_q := 27) (l_q := L) (st_q := [.int (i32 (c)), .ref 85, .ref 74]) rfl (jl_iloadn gL_3) ?_
      have b23 : (-2147483648 : Int) ≤ T0 18 (c).toNat ∧ T0 18 (c).toNat ≤ 2147483647 := hWT.2 18 _
      refine jr_ldv (pc_q := 28) (i := 18) (m := 7000) (z := c) (y := T0 18 (c).toNat) rfl (by decide) rfl (by decide) (by omega) (by omega) rfl (show Ax 18 (c).toNat = T0 18 (c).toNat from (congrFun ((hFx.2 18 rfl).trans (p_0 18 rfl)) _)) ?_
      have b24 : (0 : Int) ≤ T0 7 (T0 18 (c).toNat).toNat ∧ T0 7 (T0 18 (c).toNat).toNat ≤ 14 := hWT.2 7 _
      refine jr_ldv (pc_q := 29) (i := 7) (m := 260) (z := T0 18 (c).toNat) (y := T0 7 (T0 18 (c).toNat).toNat) rfl (by decide) rfl (by decide) (by omega) (by omega) rfl (show Ax 7 (T0 18 (c).toNat).toNat = T0 7 (T0 18 (c).toNat).toNat from (congrFun ((hFx.2 7 rfl).trans (p_0 7 rfl)) _)) ?_
      refine jx_ar (pc_q := 30) (st_q := [.int (i32 (5)), .int (i32 (T0 7 (T0 18 (c).toNat).toNat))]) rfl rfl rfl rfl ?_
      refine jx_icmp_ne (pc_q := 33) (tg := 46) rfl rfl rfl (Int.le_trans (by decide : (-2147483648 : Int) ≤ 0) b24.1) (Int.le_trans b24.2 (by decide : (14 : Int) ≤ 2147483647)) (by decide) (by decide) (fun h25 => ?_) (fun h25 => ?_)
      · have _q := h25
        refine jx_ld (pc_q := 47) (l_q := L) (st_q := [.ref 66]) rfl (jl_aloadn gL_0) ?_
        refine jx_ld (pc_q := 48) (l_q := L) (st_q := [.ref 66, .ref 66]) rfl (jl_aloadn gL_0) ?_
        refine jr_get (pc_q := 51) (i := 34) (v := .ref 84) rfl rfl (by decide) rfl rfl ?_
        refine jx_ld (pc_q := 52) (l_q := L) (st_q := [.int (i32 (c)), .ref 84, .ref 66]) rfl (jl_iloadn gL_3) ?_
        have b26 : (-2147483648 : Int) ≤ T0 17 (c).toNat ∧ T0 17 (c).toNat ≤ 2147483647 := hWT.2 17 _
        refine jr_ldv (pc_q := 53) (i := 17) (m := 7000) (z := c) (y := T0 17 (c).toNat) rfl (by decide) rfl (by decide) (by omega) (by omega) rfl (show Ax 17 (c).toNat = T0 17 (c).toNat from (congrFun ((hFx.2 17 rfl).trans (p_0 17 rfl)) _)) ?_
        refine jx_vr (pc_q := 56) (as := [.int (i32 (T0 17 (c).toNat))]) (st := []) rfl rfl rfl rfl ⟨rfl, rfl, Nat.le_of_ble_eq_true rfl⟩ rfl rfl (c_genAddress (dd := d) (k := 20) (hG := GE_all X 20) (hd := by omega) (hW := hWx) (x := T0 17 (c).toNat) (lo := gm) (hi := c) (st := st1) (e_st := show Gx 70 = st1 from (ex_st1)) (lg := lg1) (e_lg := show Gx 79 = lg1 from (ex_lg1)) (lb := lb1) (e_lb := show Gx 77 = lb1 from (ex_lb1)) (nw := nw) (e_nw := show Gx 81 = nw from ((hFx.1 81 rfl).trans (e_nw)))  (h_x := ⟨(Int.le_trans (by decide : (-2147483648 : Int) ≤ -2147483648) b26.1), (Int.le_trans b26.2 (by decide : (2147483647 : Int) ≤ 2147483647))⟩)  (p_0 := (TA_fr hFx (by decide) p_0)) (p_1 := (FA_fr (hFx.2 51 rfl) p_1)) (p_2 := (SA_fr (hFx.2 13 rfl) p_2)) (p_3 := p_3) (p_4 := by omega) (p_5 := by omega) (p_6 := by omega) (p_7 := by omega) (p_8 := by omega) (p_9 := by omega) (p_10 := by omega) (p_11 := by omega) (p_12 := by omega) (p_13 := (hgD (by omega))) (p_14 := by omega)) (fun o V_q hq => ?_)
        obtain ⟨G27, A28, st2_29, lg2_30, lb2_31, rfl, rfl, hW32, hF33, hQ34, e35, e36, e37, p38, p39, p40, p41, p42, p43, p44, p45, p46, -⟩ := hq
        have hF48 := Fr_tr hFx hF33 (Fr_sub (by decide)) (Fr_sub (by decide))
        have hC49 := Fx_tr hCx hQ34 (by omega)
        have bst2_29 : (-2147483648 : Int) ≤ st2_29 ∧ st2_29 ≤ 2147483647 := e35 ▸ hW32.1 70
        have blg2_30 : (0 : Int) ≤ lg2_30 ∧ lg2_30 ≤ 1 := e36 ▸ hW32.1 79
        have blb2_31 : (-2147483648 : Int) ≤ lb2_31 ∧ lb2_31 ≤ 2147483647 := e37 ▸ hW32.1 77
        refine .inl ⟨rfl, ?_⟩
        have sf50 : Cd (lg2_30 = 0 ∧ lb2_31 < 19999) (gAs T0 A28 F Sn nw (T0 17 (n).toNat) (n) (c) (st) (st1) (lb) (lb1)) := Cd_mk (fun hC => gAs_mv (Cg_fx (l0 := lb) (l1 := lb1) hQ34 (Cd_ap p45 (by omega)) (by omega)) (by omega) (Cd_ap iv_11 (by omega)))
        have hBo51 : Cd (lg2_30 = 0 ∧ lb2_31 < 19999) (Fx [50] (lb + 1) A A28) := Cd_mk (fun hC => Fx_tr (Cd_ap hBox (by omega)) (Cd_ap p45 (by omega)) (by omega))
        refine jx_ld (pc_q := 57) (l_q := L) (st_q := [.ref 66]) rfl (jl_aloadn gL_0) ?_
        refine jx_ar (pc_q := 59) (st_q := [.int (i32 (13)), .ref 66]) rfl rfl rfl rfl ?_
        refine jx_ld (pc_q := 60) (l_q := L) (st_q := [.ref 66, .int (i32 (13)), .ref 66]) rfl (jl_aloadn gL_0) ?_
        refine jr_get (pc_q := 63) (i := 23) (v := .ref 76) rfl rfl (by decide) rfl rfl ?_
        refine jx_ld (pc_q := 64) (l_q := L) (st_q := [.ref 66, .ref 76, .int (i32 (13)), .ref 66]) rfl (jl_aloadn gL_0) ?_
        refine jr_get (pc_q := 67) (i := 35) (v := .ref 85) rfl rfl (by decide) rfl rfl ?_
        refine jx_ld (pc_q := 68) (l_q := L) (st_q := [.int (i32 (c)), .ref 85, .ref 76, .int (i32 (13)), .ref 66]) rfl (jl_iloadn gL_3) ?_
        refine jr_ldv (pc_q := 69) (i := 18) (m := 7000) (z := c) (y := T0 18 (c).toNat) rfl (by decide) rfl (by decide) (by omega) (by omega) rfl (show A28 18 (c).toNat = T0 18 (c).toNat from (congrFun ((hF33.2 18 rfl).trans ((hFx.2 18 rfl).trans (p_0 18 rfl))) _)) ?_
        have b52 : (-2147483648 : Int) ≤ T0 9 (T0 18 (c).toNat).toNat ∧ T0 9 (T0 18 (c).toNat).toNat ≤ 2147483647 := hWT.2 9 _
        refine jr_ldv (pc_q := 70) (i := 9) (m := 260) (z := T0 18 (c).toNat) (y := T0 9 (T0 18 (c).toNat).toNat) rfl (by decide) rfl (by decide) (by omega) (by omega) rfl (show A28 9 (T0 18 (c).toNat).toNat = T0 9 (T0 18 (c).toNat).toNat from (congrFun ((hF33.2 9 rfl).trans ((hFx.2 9 rfl).trans (p_0 9 rfl))) _)) ?_
        refine jx_ar (pc_q := 72) (st_q := [.int (i32 (7)), .int (i32 (T0 9 (T0 18 (c).toNat).toNat)), .int (i32 (13)), .ref 66]) rfl rfl rfl rfl ?_
        refine jx_sub (pc_q := 73) rfl rfl ?_
        refine jx_ld (pc_q := 74) (l_q := L) (st_q := [.ref 66, .int (i32 ((T0 9 (T0 18 (c).toNat).toNat - 7))), .int (i32 (13)), .ref 66]) rfl (jl_aloadn gL_0) ?_
        refine jr_get (pc_q := 77) (i := 50) (v := .ref 99) rfl rfl (by decide) rfl rfl ?_
        refine jx_ld (pc_q := 78) (l_q := L) (st_q := [.int (i32 (q)), .ref 99, .int (i32 ((T0 9 (T0 18 (c).toNat).toNat - 7))), .int (i32 (13)), .ref 66]) rfl (jl_iloadn gL_2) ?_
        have b53 : (-2147483648 : Int) ≤ T0 32 (q).toNat ∧ T0 32 (q).toNat ≤ 2147483647 := hWT.2 32 _
        refine jr_ldv (pc_q := 79) (i := 32) (m := 25) (z := q) (y := T0 32 (q).toNat) rfl (by decide) rfl (by decide) (by omega) (by omega) rfl (show A28 32 (q).toNat = T0 32 (q).toNat from (congrFun ((hF33.2 32 rfl).trans ((hFx.2 32 rfl).trans (p_0 32 rfl))) _)) ?_
        refine jx_sub (pc_q := 80) rfl rfl ?_
        refine jx_vr (pc_q := 83) (as := [.int (i32 (13)), .int (i32 (((T0 9 (T0 18 (c).toNat).toNat - 7) - T0 32 (q).toNat)))]) (st := []) rfl rfl rfl rfl ⟨rfl, rfl, Nat.le_of_ble_eq_true rfl⟩ rfl rfl (c_emit (dd := d) (hd := by omega) (hW := hW32) (fn := 13) (v := ((T0 9 (T0 18 (c).toNat).toNat - 7) - T0 32 (q).toNat)) (st := st2_29) (e_st := show G27 70 = st2_29 from (e35)) (lg := lg2_30) (e_lg := show G27 79 = lg2_30 from (e36))  (h_fn := ⟨(by decide), (by decide)⟩) (h_v := ⟨(by omega), (by omega)⟩)  (p_0 := by omega) (p_1 := by omega)) (fun o V_q hq => ?_)
        obtain ⟨G54, A55, st2_56, lg2_57, rfl, rfl, hW58, hF59, hQ60, e61, e62, p63, p64, p65, p66, p67, p68, -⟩ := hq
        have hF70 := Fr_tr hF48 hF59 (Fr_sub (by decide)) (Fr_sub (by decide))
        have hC71 := Fx_tr hC49 hQ60 (by omega)
        have bst2_56 : (-2147483648 : Int) ≤ st2_56 ∧ st2_56 ≤ 2147483647 := e61 ▸ hW58.1 70
        have blg2_57 : (0 : Int) ≤ lg2_57 ∧ lg2_57 ≤ 1 := e62 ▸ hW58.1 79
        refine .inl ⟨rfl, ?_⟩
        have sf72 : Cd (lg2_57 = 0 ∧ lb2_31 < 19999) (gAs T0 A55 F Sn nw (T0 17 (n).toNat) (n) (c) (st) (st1) (lb) (lb1)) := Cd_mk (fun hC => gAs_mv (Cg_fx (l0 := lb) (l1 := lb1) hQ60 (Fx_f (w := lb1 + 1) Fx_rf hF59 (by decide)) (by omega)) (by omega) (Cd_ap sf50 (by omega)))
        have sf73 : Cd (lg2_57 = 0 ∧ lb2_31 < 19999) (gD T0 A55 F Sn nw (20) (T0 17 (c).toNat) (st1) (st2_29) (lb1) (lb2_31)) := Cd_mk (fun hC => gD_mv (Cg_fx (l0 := lb1) (l1 := lb2_31) hQ60 (Fx_f (w := lb2_31 + 1) Fx_rf hF59 (by decide)) (by omega)) (by omega) (Cd_ap p46 (by omega)))
        have hBo74 : Cd (lg2_57 = 0 ∧ lb2_31 < 19999) (Fx [50] (lb + 1) A A55) := Cd_mk (fun hC => Fx_f (Cd_ap hBo51 (by omega)) hF59 (by decide))
        refine jx_ld (pc_q := 84) (l_q := L) (st_q := [.ref 66]) rfl (jl_aloadn gL_0) ?_
        refine jr_get (pc_q := 87) (i := 39) (v := .ref 89) rfl rfl (by decide) rfl rfl ?_
        refine jx_ld (pc_q := 88) (l_q := L) (st_q := [.int (i32 (c)), .ref 89]) rfl (jl_iloadn gL_3) ?_
        have b75 : (-2147483648 : Int) ≤ T0 22 (c).toNat ∧ T0 22 (c).toNat ≤ 2147483647 := hWT.2 22 _
        refine jr_ldv (pc_q := 89) (i := 22) (m := 7000) (z := c) (y := T0 22 (c).toNat) rfl (by decide) rfl (by decide) (by omega) (by omega) rfl (show A55 22 (c).toNat = T0 22 (c).toNat from (congrFun ((hF59.2 22 rfl).trans ((hF33.2 22 rfl).trans ((hFx.2 22 rfl).trans (p_0 22 rfl)))) _)) ?_
        refine jx_ld (pc_q := 90) (l_q := jSto1 L 3 (.int (i32 (T0 22 (c).toNat)))) (st_q := []) rfl rfl ?_
        obtain ⟨L76, eL76⟩ : ∃ q, q = jSto1 L 3 (.int (i32 (T0 22 (c).toNat))) := ⟨_, rfl⟩
        rw [← eL76]
        have gL76_0 : jGet L76 0 = some (.ref 66) := eL76 ▸ jg_ne (by decide) gL_0 rfl
        have gL76_1 : jGet L76 1 = some (.int (i32 (n))) := eL76 ▸ jg_ne (by decide) gL_1 rfl
        have gL76_2 : jGet L76 2 = some (.int (i32 (q))) := eL76 ▸ jg_ne (by decide) gL_2 rfl
        have gL76_3 : jGet L76 3 = some (.int (i32 (T0 22 (c).toNat))) := eL76 ▸ jg_eq
        refine jx_go (tg := 14) rfl rfl ?_
        exact ih14 _ (by omega) L76 G54 A55 (q) (T0 22 (c).toNat) (st2_56) (lg2_57) (lb2_31) (m1) rfl gL76_0 gL76_1 gL76_2 gL76_3 hW58 hF70 hC71 (Cd_mk (fun hC => Cd_ap hBo74 (by omega))) ((e61)) ((e62)) (((hF59.1 77 rfl).trans (e37))) (by omega) (by omega) (by omega) (by omega) (by omega) (by omega) (by omega) ((Cd_mk (fun hC => by have := Cd_ap iv_5 (by omega); have := Cd_ap p43 (by omega); omega))) (by omega) (by omega) (by omega) (by omega) (hnx) ((Cd_mk (fun hC => (gQ_nx (Cd_ap sf72 (by omega)) (by omega) rfl (by omega) ⟨_, .inr ⟨by omega, (Cd_ap sf73 (by omega))⟩, ST_e (Cd_ap p68 (by omega)) rfl (by omega)⟩))))
      · have _q := h25
        refine jx_ld (pc_q := 34) (l_q := L) (st_q := [.ref 66]) rfl (jl_aloadn gL_0) ?_
        refine jx_ld (pc_q := 35) (l_q := L) (st_q := [.ref 66, .ref 66]) rfl (jl_aloadn gL_0) ?_
        refine jr_get (pc_q := 38) (i := 34) (v := .ref 84) rfl rfl (by decide) rfl rfl ?_
        refine jx_ld (pc_q := 39) (l_q := L) (st_q := [.int (i32 (c)), .ref 84, .ref 66]) rfl (jl_iloadn gL_3) ?_
        have b77 : (-2147483648 : Int) ≤ T0 17 (c).toNat ∧ T0 17 (c).toNat ≤ 2147483647 := hWT.2 17 _
        refine jr_ldv (pc_q := 40) (i := 17) (m := 7000) (z := c) (y := T0 17 (c).toNat) rfl (by decide) rfl (by decide) (by omega) (by omega) rfl (show Ax 17 (c).toNat = T0 17 (c).toNat from (congrFun ((hFx.2 17 rfl).trans (p_0 17 rfl)) _)) ?_
        refine jx_vr (pc_q := 43) (as := [.int (i32 (T0 17 (c).toNat))]) (st := []) rfl rfl rfl rfl ⟨rfl, rfl, Nat.le_of_ble_eq_true rfl⟩ rfl rfl (GE_all X 22 (dd := d) (hd := by omega) (hW := hWx) (e := T0 17 (c).toNat) (lo := gm) (hi := c) (st := st1) (e_st := show Gx 70 = st1 from (ex_st1)) (lg := lg1) (e_lg := show Gx 79 = lg1 from (ex_lg1)) (lb := lb1) (e_lb := show Gx 77 = lb1 from (ex_lb1)) (nw := nw) (e_nw := show Gx 81 = nw from ((hFx.1 81 rfl).trans (e_nw)))  (h_e := ⟨(Int.le_trans (by decide : (-2147483648 : Int) ≤ -2147483648) b77.1), (Int.le_trans b77.2 (by decide : (2147483647 : Int) ≤ 2147483647))⟩)  (p_0 := (TA_fr hFx (by decide) p_0)) (p_1 := (FA_fr (hFx.2 51 rfl) p_1)) (p_2 := (SA_fr (hFx.2 13 rfl) p_2)) (p_3 := p_3) (p_4 := by omega) (p_5 := by omega) (p_6 := by omega) (p_7 := by omega) (p_8 := by omega) (p_9 := by omega) (p_10 := by omega) (p_11 := by omega) (p_12 := by omega) (p_13 := (wE_mono (by omega) (by omega) (by omega) (hgE (by omega)))) (p_14 := by omega)) (fun o V_q hq => ?_)
        obtain ⟨G78, A79, st2_80, lg2_81, lb2_82, rfl, rfl, hW83, hF84, hQ85, e86, e87, e88, p89, p90, p91, p92, p93, p94, p95, p96, p97, -⟩ := hq
        have hF99 := Fr_tr hFx hF84 (Fr_sub (by decide)) (Fr_sub (by decide))
        have hC100 := Fx_tr hCx hQ85 (by omega)
        have bst2_80 : (-2147483648 : Int) ≤ st2_80 ∧ st2_80 ≤ 2147483647 := e86 ▸ hW83.1 70
        have blg2_81 : (0 : Int) ≤ lg2_81 ∧ lg2_81 ≤ 1 := e87 ▸ hW83.1 79
        have blb2_82 : (-2147483648 : Int) ≤ lb2_82 ∧ lb2_82 ≤ 2147483647 := e88 ▸ hW83.1 77
        refine .inl ⟨rfl, ?_⟩
        have sf101 : Cd (lg2_81 = 0 ∧ lb2_82 < 19999) (gAs T0 A79 F Sn nw (T0 17 (n).toNat) (n) (c) (st) (st1) (lb) (lb1)) := Cd_mk (fun hC => gAs_mv (Cg_fx (l0 := lb) (l1 := lb1) hQ85 (Cd_ap p96 (by omega)) (by omega)) (by omega) (Cd_ap iv_11 (by omega)))
        have hBo102 : Cd (lg2_81 = 0 ∧ lb2_82 < 19999) (Fx [50] (lb + 1) A A79) := Cd_mk (fun hC => Fx_tr (Cd_ap hBox (by omega)) (Cd_ap p96 (by omega)) (by omega))
        refine jx_go (tg := 56) rfl rfl ?_
        refine jx_ld (pc_q := 57) (l_q := L) (st_q := [.ref 66]) rfl (jl_aloadn gL_0) ?_
        refine jx_ar (pc_q := 59) (st_q := [.int (i32 (13)), .ref 66]) rfl rfl rfl rfl ?_
        refine jx_ld (pc_q := 60) (l_q := L) (st_q := [.ref 66, .int (i32 (13)), .ref 66]) rfl (jl_aloadn gL_0) ?_
        refine jr_get (pc_q := 63) (i := 23) (v := .ref 76) rfl rfl (by decide) rfl rfl ?_
        refine jx_ld (pc_q := 64) (l_q := L) (st_q := [.ref 66, .ref 76, .int (i32 (13)), .ref 66]) rfl (jl_aloadn gL_0) ?_
        refine jr_get (pc_q := 67) (i := 35) (v := .ref 85) rfl rfl (by decide) rfl rfl ?_
        refine jx_ld (pc_q := 68) (l_q := L) (st_q := [.int (i32 (c)), .ref 85, .ref 76, .int (i32 (13)), .ref 66]) rfl (jl_iloadn gL_3) ?_
        refine jr_ldv (pc_q := 69) (i := 18) (m := 7000) (z := c) (y := T0 18 (c).toNat) rfl (by decide) rfl (by decide) (by omega) (by omega) rfl (show A79 18 (c).toNat = T0 18 (c).toNat from (congrFun ((hF84.2 18 rfl).trans ((hFx.2 18 rfl).trans (p_0 18 rfl))) _)) ?_
        have b103 : (-2147483648 : Int) ≤ T0 9 (T0 18 (c).toNat).toNat ∧ T0 9 (T0 18 (c).toNat).toNat ≤ 2147483647 := hWT.2 9 _
        refine jr_ldv (pc_q := 70) (i := 9) (m := 260) (z := T0 18 (c).toNat) (y := T0 9 (T0 18 (c).toNat).toNat) rfl (by decide) rfl (by decide) (by omega) (by omega) rfl (show A79 9 (T0 18 (c).toNat).toNat = T0 9 (T0 18 (c).toNat).toNat from (congrFun ((hF84.2 9 rfl).trans ((hFx.2 9 rfl).trans (p_0 9 rfl))) _)) ?_
        refine jx_ar (pc_q := 72) (st_q := [.int (i32 (7)), .int (i32 (T0 9 (T0 18 (c).toNat).toNat)), .int (i32 (13)), .ref 66]) rfl rfl rfl rfl ?_
        refine jx_sub (pc_q := 73) rfl rfl ?_
        refine jx_ld (pc_q := 74) (l_q := L) (st_q := [.ref 66, .int (i32 ((T0 9 (T0 18 (c).toNat).toNat - 7))), .int (i32 (13)), .ref 66]) rfl (jl_aloadn gL_0) ?_
        refine jr_get (pc_q := 77) (i := 50) (v := .ref 99) rfl rfl (by decide) rfl rfl ?_
        refine jx_ld (pc_q := 78) (l_q := L) (st_q := [.int (i32 (q)), .ref 99, .int (i32 ((T0 9 (T0 18 (c).toNat).toNat - 7))), .int (i32 (13)), .ref 66]) rfl (jl_iloadn gL_2) ?_
        have b104 : (-2147483648 : Int) ≤ T0 32 (q).toNat ∧ T0 32 (q).toNat ≤ 2147483647 := hWT.2 32 _
        refine jr_ldv (pc_q := 79) (i := 32) (m := 25) (z := q) (y := T0 32 (q).toNat) rfl (by decide) rfl (by decide) (by omega) (by omega) rfl (show A79 32 (q).toNat = T0 32 (q).toNat from (congrFun ((hF84.2 32 rfl).trans ((hFx.2 32 rfl).trans (p_0 32 rfl))) _)) ?_
        refine jx_sub (pc_q := 80) rfl rfl ?_
        refine jx_vr (pc_q := 83) (as := [.int (i32 (13)), .int (i32 (((T0 9 (T0 18 (c).toNat).toNat - 7) - T0 32 (q).toNat)))]) (st := []) rfl rfl rfl rfl ⟨rfl, rfl, Nat.le_of_ble_eq_true rfl⟩ rfl rfl (c_emit (dd := d) (hd := by omega) (hW := hW83) (fn := 13) (v := ((T0 9 (T0 18 (c).toNat).toNat - 7) - T0 32 (q).toNat)) (st := st2_80) (e_st := show G78 70 = st2_80 from (e86)) (lg := lg2_81) (e_lg := show G78 79 = lg2_81 from (e87))  (h_fn := ⟨(by decide), (by decide)⟩) (h_v := ⟨(by omega), (by omega)⟩)  (p_0 := by omega) (p_1 := by omega)) (fun o V_q hq => ?_)
        obtain ⟨G105, A106, st2_107, lg2_108, rfl, rfl, hW109, hF110, hQ111, e112, e113, p114, p115, p116, p117, p118, p119, -⟩ := hq
        have hF121 := Fr_tr hF99 hF110 (Fr_sub (by decide)) (Fr_sub (by decide))
        have hC122 := Fx_tr hC100 hQ111 (by omega)
        have bst2_107 : (-2147483648 : Int) ≤ st2_107 ∧ st2_107 ≤ 2147483647 := e112 ▸ hW109.1 70
        have blg2_108 : (0 : Int) ≤ lg2_108 ∧ lg2_108 ≤ 1 := e113 ▸ hW109.1 79
        refine .inl ⟨rfl, ?_⟩
        have sf123 : Cd (lg2_108 = 0 ∧ lb2_82 < 19999) (gAs T0 A106 F Sn nw (T0 17 (n).toNat) (n) (c) (st) (st1) (lb) (lb1)) := Cd_mk (fun hC => gAs_mv (Cg_fx (l0 := lb) (l1 := lb1) hQ111 (Fx_f (w := lb1 + 1) Fx_rf hF110 (by decide)) (by omega)) (by omega) (Cd_ap sf101 (by omega)))
        have sf124 : Cd (lg2_108 = 0 ∧ lb2_82 < 19999) (gE T0 A106 F Sn nw (22) (T0 17 (c).toNat) (st1) (st2_80) (lb1) (lb2_82)) := Cd_mk (fun hC => gE_mv (Cg_fx (l0 := lb1) (l1 := lb2_82) hQ111 (Fx_f (w := lb2_82 + 1) Fx_rf hF110 (by decide)) (by omega)) (by omega) (Cd_ap p97 (by omega)))
        have hBo125 : Cd (lg2_108 = 0 ∧ lb2_82 < 19999) (Fx [50] (lb + 1) A A106) := Cd_mk (fun hC => Fx_f (Cd_ap hBo102 (by omega)) hF110 (by decide))
        refine jx_ld (pc_q := 84) (l_q := L) (st_q := [.ref 66]) rfl (jl_aloadn gL_0) ?_
        refine jr_get (pc_q := 87) (i := 39) (v := .ref 89) rfl rfl (by decide) rfl rfl ?_
        refine jx_ld (pc_q := 88) (l_q := L) (st_q := [.int (i32 (c)), .ref 89]) rfl (jl_iloadn gL_3) ?_
        have b126 : (-2147483648 : Int) ≤ T0 22 (c).toNat ∧ T0 22 (c).toNat ≤ 2147483647 := hWT.2 22 _
        refine jr_ldv (pc_q := 89) (i := 22) (m := 7000) (z := c) (y := T0 22 (c).toNat) rfl (by decide) rfl (by decide) (by omega) (by omega) rfl (show A106 22 (c).toNat = T0 22 (c).toNat from (congrFun ((hF110.2 22 rfl).trans ((hF84.2 22 rfl).trans ((hFx.2 22 rfl).trans (p_0 22 rfl)))) _)) ?_
        refine jx_ld (pc_q := 90) (l_q := jSto1 L 3 (.int (i32 (T0 22 (c).toNat)))) (st_q := []) rfl rfl ?_
        obtain ⟨L127, eL127⟩ : ∃ q, q = jSto1 L 3 (.int (i32 (T0 22 (c).toNat))) := ⟨_, rfl⟩
        rw [← eL127]
        have gL127_0 : jGet L127 0 = some (.ref 66) := eL127 ▸ jg_ne (by decide) gL_0 rfl
        have gL127_1 : jGet L127 1 = some (.int (i32 (n))) := eL127 ▸ jg_ne (by decide) gL_1 rfl
        have gL127_2 : jGet L127 2 = some (.int (i32 (q))) := eL127 ▸ jg_ne (by decide) gL_2 rfl
        have gL127_3 : jGet L127 3 = some (.int (i32 (T0 22 (c).toNat))) := eL127 ▸ jg_eq
        refine jx_go (tg := 14) rfl rfl ?_
        exact ih14 _ (by omega) L127 G105 A106 (q) (T0 22 (c).toNat) (st2_107) (lg2_108) (lb2_82) (m1) rfl gL127_0 gL127_1 gL127_2 gL127_3 hW109 hF121 hC122 (Cd_mk (fun hC => Cd_ap hBo125 (by omega))) ((e112)) ((e113)) (((hF110.1 77 rfl).trans (e88))) (by omega) (by omega) (by omega) (by omega) (by omega) (by omega) (by omega) ((Cd_mk (fun hC => by have := Cd_ap iv_5 (by omega); have := Cd_ap p94 (by omega); omega))) (by omega) (by omega) (by omega) (by omega) (hnx) ((Cd_mk (fun hC => (gQ_nx (Cd_ap sf123 (by omega)) (by omega) rfl (by omega) ⟨_, .inl ⟨by omega, (Cd_ap sf124 (by omega))⟩, ST_e (Cd_ap p119 (by omega)) rfl (by omega)⟩))))
set_option maxRecDepth 20000 in
set_option maxHeartbeats 4000000 in
theorem c_genCall {X : jX} {dd : Nat} {T0 : Nat → Nat → Int} {Q F Sn : Int → Int} {Vs : Nat → Prop} {sb pb : Int} {c0 c1 : jC} {G : Nat → Int} {A : Nat → Nat → Int} {T : jH} {n : Int} {hi : Int} {st lg lb nw : Int} (hd : 60 ≤ dd) (hW : Wk G A) (e_st : G 70 = st) (e_lg : G 79 = lg) (e_lb : G 77 = lb) (e_nw : G 81 = nw) (h_n : (-2147483648 : Int) ≤ n ∧ n ≤ 2147483647) (p_0 : TA T0 A) (p_1 : FA F (nw) A) (p_2 : SA T0 Vs Sn A) (p_3 : VW T0 Vs (nw)) (p_4 : 0 ≤ nw) (p_5 : nw ≤ 39) (p_6 : 0 ≤ st) (p_7 : st ≤ 7000) (p_8 : 0 ≤ lb) (p_9 : lb + (hi - n) + 7000 - st ≤ 1900000000) (p_10 : hi ≤ 6999) (p_11 : sb ≤ 202) (p_12 : LAr T0 Vs sb (T0 17 (n).toNat) (n) (T0 21 (n).toNat) (n + 1) (hi) (n + 1)) (p_13 : 0 ≤ n) (p_14 : n < hi) (p_15 : 0 ≤ T0 17 (n).toNat) (p_16 : T0 17 (n).toNat < pb) (p_17 : pb ≤ 24) (p_18 : PV T0 pb) (p_19 : PA Q pb A) : wk X dd 355 [.ref 66, .int (i32 n)] (rV c0 c1 G A T) (fun o V_q => ∃ (G_q : Nat → Int) (A_q : Nat → Nat → Int) (st2 : Int) (lg2 : Int) (lb2 : Int), V_q = rV c0 c1 G_q A_q T ∧ o = .inl none ∧ Wk G_q A_q ∧ Fr [70, 77, 79] [44, 45, 46, 47, 50] G A G_q A_q ∧ Fx [44, 45, 46, 47] (st) A A_q ∧ G_q 70 = st2 ∧ G_q 79 = lg2 ∧ G_q 77 = lb2 ∧ (st ≤ st2) ∧ (st2 ≤ 7000) ∧ (lg ≤ lg2) ∧ (lg2 ≤ 1) ∧ (lb ≤ lb2) ∧ (Cd (lg2 = 0) (lb2 - lb ≤ st2 - st)) ∧ (lb2 - lb ≤ st2 - st + (hi - n)) ∧ (Cd (lg2 = 0 ∧ lb2 < 19999) (Fx [50] (lb + 1) A A_q)) ∧ (Cd (lg2 = 0 ∧ lb2 < 19999) (gCl T0 A_q Q F Sn nw (n) (st) (st2) (lb) (lb2))) ∧ True) := by
  obtain ⟨d, rfl⟩ : ∃ d, dd = d + 1 := ⟨dd - 1, by omega⟩
  refine wk_of (e := jm355) rfl (Nat.le_of_ble_eq_true rfl) ?_
  show wj X d jm355 (0, [(0, .ref 66), (1, .int (i32 (n)))], [], rV c0 c1 G A T) _
  have hF0 : Fr [70, 77, 79] [44, 45, 46, 47, 50] G A G A := Fr_rf
  have hC0 : Fx [44, 45, 46, 47] (st) A A := Fx_rf
  have b_st : (-2147483648 : Int) ≤ st ∧ st ≤ 2147483647 := e_st ▸ hW.1 70
  have b_lg : (0 : Int) ≤ lg ∧ lg ≤ 1 := e_lg ▸ hW.1 79
  have b_lb : (-2147483648 : Int) ≤ lb ∧ lb ≤ 2147483647 := e_lb ▸ hW.1 77
  have b_nw : (-2147483648 : Int) ≤ nw ∧ nw ≤ 2147483647 := e_nw ▸ hW.1 81
  have hWT := TA_w hW p_0
  have hBo0 : Cd (lg = 0 ∧ lb < 19999) (Fx [50] (lb + 1) A A) := Cd_mk (fun _ => Fx_rf)
  have hPA := p_19
  have hpq := p_18 (T0 17 (n).toNat) (by omega) (by omega)
  refine jx_ld (pc_q := 1) (l_q := [(0, .ref 66), (1, .int (i32 (n)))]) (st_q := [.ref 66]) rfl (jl_aloadn rfl) ?_
  refine jr_get (pc_q := 4) (i := 34) (v := .ref 84) rfl rfl (by decide) rfl rfl ?_
  refine jx_ld (pc_q := 5) (l_q := [(0, .ref 66), (1, .int (i32 (n)))]) (st_q := [.int (i32 (n)), .ref 84]) rfl (jl_iloadn rfl) ?_
  have b128 : (-2147483648 : Int) ≤ T0 17 (n).toNat ∧ T0 17 (n).toNat ≤ 2147483647 := hWT.2 17 _
  refine jr_ldv (pc_q := 6) (i := 17) (m := 7000) (z := n) (y := T0 17 (n).toNat) rfl (by decide) rfl (by decide) (by omega) (by omega) rfl (show A 17 (n).toNat = T0 17 (n).toNat from (congrFun (p_0 17 rfl) _)) ?_
  refine jx_ld (pc_q := 7) (l_q := jSto1 [(0, .ref 66), (1, .int (i32 (n)))] 2 (.int (i32 (T0 17 (n).toNat)))) (st_q := []) rfl rfl ?_
  obtain ⟨L129, eL129⟩ : ∃ q, q = jSto1 [(0, .ref 66), (1, .int (i32 (n)))] 2 (.int (i32 (T0 17 (n).toNat))) := ⟨_, rfl⟩
  rw [← eL129]
  have gL129_0 : jGet L129 0 = some (.ref 66) := eL129 ▸ jg_ne (by decide) (rfl : jGet [(0, .ref 66), (1, .int (i32 (n)))] 0 = some (.ref 66)) rfl
  have gL129_1 : jGet L129 1 = some (.int (i32 (n))) := eL129 ▸ jg_ne (by decide) (rfl : jGet [(0, .ref 66), (1, .int (i32 (n)))] 1 = some (.int (i32 (n)))) rfl
  have gL129_2 : jGet L129 2 = some (.int (i32 (T0 17 (n).toNat))) := eL129 ▸ jg_eq
  have _q : True := trivial
  refine jx_ld (pc_q := 8) (l_q := L129) (st_q := [.ref 66]) rfl (jl_aloadn gL129_0) ?_
  refine jr_get (pc_q := 11) (i := 38) (v := .ref 88) rfl rfl (by decide) rfl rfl ?_
  refine jx_ld (pc_q := 12) (l_q := L129) (st_q := [.int (i32 (n)), .ref 88]) rfl (jl_iloadn gL129_1) ?_
  have b130 : (-2147483648 : Int) ≤ T0 21 (n).toNat ∧ T0 21 (n).toNat ≤ 2147483647 := hWT.2 21 _
  refine jr_ldv (pc_q := 13) (i := 21) (m := 7000) (z := n) (y := T0 21 (n).toNat) rfl (by decide) rfl (by decide) (by omega) (by omega) rfl (show A 21 (n).toNat = T0 21 (n).toNat from (congrFun (p_0 21 rfl) _)) ?_
  refine jx_ld (pc_q := 14) (l_q := jSto1 L129 3 (.int (i32 (T0 21 (n).toNat)))) (st_q := []) rfl rfl ?_
  obtain ⟨L131, eL131⟩ : ∃ q, q = jSto1 L129 3 (.int (i32 (T0 21 (n).toNat))) := ⟨_, rfl⟩
  rw [← eL131]
  have gL131_0 : jGet L131 0 = some (.ref 66) := eL131 ▸ jg_ne (by decide) gL129_0 rfl
  have gL131_1 : jGet L131 1 = some (.int (i32 (n))) := eL131 ▸ jg_ne (by decide) gL129_1 rfl
  have gL131_2 : jGet L131 2 = some (.int (i32 (T0 17 (n).toNat))) := eL131 ▸ jg_ne (by decide) gL129_2 rfl
  have gL131_3 : jGet L131 3 = some (.int (i32 (T0 21 (n).toNat))) := eL131 ▸ jg_eq
  exact c_genCall_at_14 (X := X) (d := d) (T0 := T0) (Q := Q) (F := F) (Sn := Sn) (Vs := Vs) (sb := sb) (pb := pb) (c0 := c0) (c1 := c1) (G := G) (A := A) (T := T) (n := n) (hi := hi) (st := st) (lg := lg) (lb := lb) (nw := nw) (hd := hd) (hW := hW) (e_st := e_st) (e_lg := e_lg) (e_lb := e_lb) (e_nw := e_nw) (h_n := h_n) (p_0 := p_0) (p_1 := p_1) (p_2 := p_2) (p_3 := p_3) (p_4 := p_4) (p_5 := p_5) (p_6 := p_6) (p_7 := p_7) (p_8 := p_8) (p_9 := p_9) (p_10 := p_10) (p_11 := p_11) (p_12 := p_12) (p_13 := p_13) (p_14 := p_14) (p_15 := p_15) (p_16 := p_16) (p_17 := p_17) (p_18 := p_18) (p_19 := p_19) _ L131 G A (T0 17 (n).toNat) (T0 21 (n).toNat) (st) (lg) (lb) (n + 1) rfl gL131_0 gL131_1 gL131_2 gL131_3 hW hF0 hC0 (Cd_mk (fun hC => Cd_ap hBo0 (by omega))) ((e_st)) ((e_lg)) ((e_lb)) (by omega) (by omega) (by omega) (by omega) (by omega) (by omega) (by omega) ((Cd_mk (fun hC => by omega))) (by omega) (by omega) (by omega) (by omega) (p_12) ((Cd_mk (fun hC => (gQ_0 (LAr_ch p_12) (by omega) (by omega) (by omega)))))
