/-- the signs of b stand in a -/
def hb (a b : Int) : Prop := (b % 2 = 1 → a % 2 = 1) ∧ (b / 2 % 2 = 1 → a / 2 % 2 = 1) ∧ (b / 4 % 2 = 1 → a / 4 % 2 = 1) ∧ (b / 8 % 2 = 1 → a / 8 % 2 = 1)
theorem hb_rf {a : Int} : hb a a := ⟨id, id, id, id⟩
theorem or_b {a b : Int} (h0 : 0 ≤ a) (h1 : a ≤ 15) (h2 : 0 ≤ b) (h3 : b ≤ 15) : 0 ≤ (i32 a ||| i32 b).toInt ∧ (i32 a ||| i32 b).toInt ≤ 15 ∧ hb (i32 a ||| i32 b).toInt a ∧ hb (i32 a ||| i32 b).toInt b := by
  have q : ∀ x y : Fin 16, 0 ≤ (i32 (x.val : Int) ||| i32 (y.val : Int)).toInt ∧ (i32 (x.val : Int) ||| i32 (y.val : Int)).toInt ≤ 15 ∧ (((x.val : Int) % 2 = 1 → (i32 (x.val : Int) ||| i32 (y.val : Int)).toInt % 2 = 1) ∧ ((x.val : Int) / 2 % 2 = 1 → (i32 (x.val : Int) ||| i32 (y.val : Int)).toInt / 2 % 2 = 1) ∧ ((x.val : Int) / 4 % 2 = 1 → (i32 (x.val : Int) ||| i32 (y.val : Int)).toInt / 4 % 2 = 1) ∧ ((x.val : Int) / 8 % 2 = 1 → (i32 (x.val : Int) ||| i32 (y.val : Int)).toInt / 8 % 2 = 1)) ∧ (((y.val : Int) % 2 = 1 → (i32 (x.val : Int) ||| i32 (y.val : Int)).toInt % 2 = 1) ∧ ((y.val : Int) / 2 % 2 = 1 → (i32 (x.val : Int) ||| i32 (y.val : Int)).toInt / 2 % 2 = 1) ∧ ((y.val : Int) / 4 % 2 = 1 → (i32 (x.val : Int) ||| i32 (y.val : Int)).toInt / 4 % 2 = 1) ∧ ((y.val : Int) / 8 % 2 = 1 → (i32 (x.val : Int) ||| i32 (y.val : Int)).toInt / 8 % 2 = 1)) := by decide
  have := q ⟨a.toNat, by omega⟩ ⟨b.toNat, by omega⟩
  simp only at this
  rw [show ((a.toNat : Nat) : Int) = a by omega, show ((b.toNat : Nat) : Int) = b by omega] at this
  exact this
/-- one use for the same thing: s, al whether all of it, el which of it -/
def eqk (A : Nat → Nat → Int) (j s al el : Int) : Prop := A 39 j.toNat = s ∧ A 41 j.toNat = al ∧ (al = 1 ∨ A 40 j.toNat = el)
/-- no two uses from f on are of the same thing -/
def Ds (A : Nat → Nat → Int) (f t : Int) : Prop := ∀ i j : Int, f ≤ i → i < j → j < t → ¬ eqk A i (A 39 j.toNat) (A 41 j.toNat) (A 40 j.toNat)
def NF (A : Nat → Nat → Int) (f t s al el : Int) : Prop := ∀ j : Int, f ≤ j → j < t → ¬ eqk A j s al el
theorem NF_0 {A : Nat → Nat → Int} {f t s al el : Int} (h : t ≤ f) : NF A f t s al el := fun j h1 h2 => by omega
theorem NF_nx {A : Nat → Nat → Int} {f t t' s al el : Int} (h : NF A f t s al el) (ht : t' = t + 1) (hn : ¬ eqk A t s al el) : NF A f t' s al el := fun j h1 h2 => by
  by_cases e : j = t
  · subst e
    exact hn
  · exact h j h1 (by omega)
/-- what writing a use down makes -/
def UU (A A' : Nat → Nat → Int) (uf us us2 s al el u : Int) : Prop := (∀ j : Int, 0 ≤ j → j < us → A' 39 j.toNat = A 39 j.toNat ∧ A' 40 j.toNat = A 40 j.toNat ∧ A' 41 j.toNat = A 41 j.toNat ∧ hb (A' 42 j.toNat) (A 42 j.toNat) ∧ (j < uf → A' 42 j.toNat = A 42 j.toNat)) ∧ (Ds A uf us → Ds A' uf us2) ∧ (∃ j : Int, uf ≤ j ∧ j < us2 ∧ eqk A' j s al el ∧ hb (A' 42 j.toNat) u) ∧ ∀ j : Int, 0 ≤ j → j < us2 → 0 ≤ A' 42 j.toNat ∧ A' 42 j.toNat ≤ 15
theorem UU_m {A Ax A' : Nat → Nat → Int} {uf us us2 s al el u i d : Int} (e0 : Ax = A) (e : A' = uA Ax 42 i.toNat d) (h0 : 0 ≤ uf) (hi : uf ≤ i) (hi2 : i < us) (hu2 : us2 = us) (hu : 0 ≤ u ∧ u ≤ 15) (hd : d = (i32 (Ax 42 i.toNat) ||| i32 u).toInt) (hD : ∀ j : Int, 0 ≤ j → j < us → 0 ≤ A 42 j.toNat ∧ A 42 j.toNat ≤ 15) (hk : eqk Ax i s al el) : UU A A' uf us us2 s al el u := by
  subst e0 hu2
  have hx := hD i (by omega) hi2
  have o := or_b hx.1 hx.2 hu.1 hu.2
  rw [← hd] at o
  have e39 : A' 39 = Ax 39 := by rw [e]; exact uA_ne (by decide)
  have e40 : A' 40 = Ax 40 := by rw [e]; exact uA_ne (by decide)
  have e41 : A' 41 = Ax 41 := by rw [e]; exact uA_ne (by decide)
  have e42 : A' 42 i.toNat = d := by rw [e]; exact uA_eq
  have n42 : ∀ j : Int, 0 ≤ j → j ≠ i → A' 42 j.toNat = Ax 42 j.toNat := fun j h1 h2 => by rw [e]; exact uA_ni (by omega)
  refine ⟨fun j h1 h2 => ⟨by rw [e39], by rw [e40], by rw [e41], ?_, fun h3 => n42 j h1 (by omega)⟩, fun D a b h1 h2 h3 => ?_, ⟨i, hi, hi2, ?_, ?_⟩, fun j h1 h2 => ?_⟩
  · by_cases q : j = i
    · subst q
      rw [e42]
      exact o.2.2.1
    · rw [n42 j h1 q]
      exact hb_rf
  · unfold eqk
    rw [e39, e40, e41]
    exact D a b h1 h2 h3
  · unfold eqk
    rw [e39, e40, e41]
    exact hk
  · rw [e42]
    exact o.2.2.2
  · by_cases q : j = i
    · subst q
      rw [e42]
      exact ⟨o.1, o.2.1⟩
    · rw [n42 j h1 q]
      exact hD j h1 h2
theorem UU_a {A Ax A1 A2 A3 A' : Nat → Nat → Int} {uf us us2 s al el el2 u : Int} (e0 : Ax = A) (e1 : A1 = uA Ax 39 us.toNat s) (e2 : A2 = uA A1 40 us.toNat el2) (e3 : A3 = uA A2 41 us.toNat al) (e4 : A' = uA A3 42 us.toNat u) (h0 : 0 ≤ uf) (hi : uf ≤ us) (hu2 : us2 = us + 1) (hu : 0 ≤ u ∧ u ≤ 15) (hel : al = 1 ∨ el2 = el) (hD : ∀ j : Int, 0 ≤ j → j < us → 0 ≤ A 42 j.toNat ∧ A 42 j.toNat ≤ 15) (hn : NF Ax uf us s al el) : UU A A' uf us us2 s al el u := by
  subst e0 hu2
  have r39 : A' 39 = uA Ax 39 us.toNat s 39 := by rw [e4, uA_ne (by decide), e3, uA_ne (by decide), e2, uA_ne (by decide), e1]
  have r40 : A' 40 = uA A1 40 us.toNat el2 40 := by rw [e4, uA_ne (by decide), e3, uA_ne (by decide), e2]
  have r41 : A' 41 = uA A2 41 us.toNat al 41 := by rw [e4, uA_ne (by decide), e3]
  have q39 : A' 39 us.toNat = s := by rw [r39]; exact uA_eq
  have q40 : A' 40 us.toNat = el2 := by rw [r40]; exact uA_eq
  have q41 : A' 41 us.toNat = al := by rw [r41]; exact uA_eq
  have q42 : A' 42 us.toNat = u := by rw [e4]; exact uA_eq
  have n : ∀ j : Int, 0 ≤ j → j < us → A' 39 j.toNat = Ax 39 j.toNat ∧ A' 40 j.toNat = Ax 40 j.toNat ∧ A' 41 j.toNat = Ax 41 j.toNat ∧ A' 42 j.toNat = Ax 42 j.toNat := fun j h1 h2 => by
    refine ⟨by rw [r39]; exact uA_ni (by omega), ?_, ?_, ?_⟩
    · rw [r40, uA_ni (by omega), e1, uA_ne (by decide)]
    · rw [r41, uA_ni (by omega), e2, uA_ne (by decide), e1, uA_ne (by decide)]
    · rw [e4, uA_ni (by omega), e3, uA_ne (by decide), e2, uA_ne (by decide), e1, uA_ne (by decide)]
  refine ⟨fun j h1 h2 => ?_, fun D a b h1 h2 h3 => ?_, ⟨us, hi, by omega, ⟨q39, q41, ?_⟩, ?_⟩, fun j h1 h2 => ?_⟩
  · obtain ⟨g1, g2, g3, g4⟩ := n j h1 h2
    refine ⟨g1, g2, g3, ?_, fun _ => g4⟩
    rw [g4]
    exact hb_rf
  · obtain ⟨g1, g2, g3, g4⟩ := n a (by omega) (by omega)
    unfold eqk
    rw [g1, g2, g3]
    by_cases q : b = us
    · subst q
      rw [q39, q40, q41]
      intro w
      refine hn a h1 h2 ⟨w.1, w.2.1, ?_⟩
      rcases hel with g | g
      · exact .inl g
      · rw [← g]
        exact w.2.2
    · obtain ⟨k1, k2, k3, k4⟩ := n b (by omega) (by omega)
      rw [k1, k2, k3]
      exact D a b h1 h2 (by omega)
  · rcases hel with g | g
    · exact .inl g
    · exact .inr (q40.trans g)
  · rw [q42]
    exact hb_rf
  · by_cases q : j = us
    · subst q
      rw [q42]
      exact hu
    · rw [(n j h1 (by omega)).2.2.2]
      exact hD j h1 (by omega)
theorem NF_e {A : Nat → Nat → Int} {f t t' s al el : Int} (h : NF A f t s al el) (e : t' ≤ t) : NF A f t' s al el := fun j h1 h2 => h j h1 (by omega)

set_option maxRecDepth 20000 in
set_option maxHeartbeats 4000000 in
theorem c_addUse_at_12 {X : jX} {d : Nat} {c0 c1 : jC} {G : Nat → Int} {A : Nat → Nat → Int} {T : jH} {s el al u : Int} {uf us : Int} (hd : 1 ≤ d + 1) (hW : Wk G A) (e_uf : G 62 = uf) (e_us : G 61 = us) (h_s : (-2147483648 : Int) ≤ s ∧ s ≤ 2147483647) (h_el : (-2147483648 : Int) ≤ el ∧ el ≤ 2147483647) (h_al : (0 : Int) ≤ al ∧ al ≤ 1) (h_u : (-2147483648 : Int) ≤ u ∧ u ≤ 2147483647) (p_0 : 0 ≤ uf) (p_1 : uf ≤ us) (p_2 : us ≤ 59999) (p_3 : 0 ≤ u) (p_4 : u ≤ 15) (p_5 : 0 ≤ s) (p_6 : s ≤ 259) (p_7 : 0 ≤ al) (p_8 : (∀ j : Int, 0 ≤ j → j < us → 0 ≤ A 42 (j).toNat ∧ A 42 (j).toNat ≤ 15)) : ∀ (m : Nat) (L : jL) (Gx : Nat → Int) (Ax : Nat → Nat → Int) (i : Int), (us - i).toNat = m → jGet L 0 = some (.ref 66) → jGet L 1 = some (.int (i32 (s))) → jGet L 2 = some (.int (i32 (el))) → jGet L 3 = some (.int (i32 (al))) → jGet L 4 = some (.int (i32 (u))) → jGet L 5 = some (.int (i32 i)) → Wk Gx Ax → Fr [61] [39, 40, 41, 42] G A Gx Ax → Gx 61 = us → ((-2147483648 : Int) ≤ i ∧ i ≤ 2147483647) → (1 ≤ u) → (uf ≤ i) → (i ≤ us) → (Ax = A) → (NF Ax (uf) (i) (s) (al) (el)) → wj X d jm323 (12, L, [], rV c0 c1 Gx Ax T) (fun o V' => ∃ (G' : Nat → Int) (A' : Nat → Nat → Int) (us2 : Int), V' = rV c0 c1 G' A' T ∧ o = .inl none ∧ Wk G' A' ∧ Fr [61] [39, 40, 41, 42] G A G' A' ∧ G' 61 = us2 ∧ (((u = 0) ∧ (us2 = us) ∧ (A' = A)) ∨ ((1 ≤ u) ∧ (us ≤ us2) ∧ (us2 ≤ us + 1) ∧ (UU A A' (uf) (us) (us2) (s) (al) (el) (u))))) := by
  have hF0 : Fr [61] [39, 40, 41, 42] G A G A := Fr_rf
  have b_uf : (-2147483648 : Int) ≤ uf ∧ uf ≤ 2147483647 := e_uf ▸ hW.1 62
  have b_us : (-2147483648 : Int) ≤ us ∧ us ≤ 2147483647 := e_us ▸ hW.1 61
  intro m
  induction m using Nat.strongRecOn with
  | ind m ih12 =>
    intro L Gx Ax i hm gL_0 gL_1 gL_2 gL_3 gL_4 gL_5 hWx hFx fx_61 rx_i iv_0 iv_1 iv_2 iv_3 iv_4
    refine jx_ld (pc' := 14) (l' := L) (st' := [.int (i32 (i))]) rfl (jl_iload gL_5) ?_
    refine jx_ld (pc' := 15) (l' := L) (st' := [.ref 66, .int (i32 (i))]) rfl (jl_aloadn gL_0) ?_
    refine jr_get (pc' := 18) (i := 61) (v := .int (i32 (us))) rfl rfl (by decide) (rFv_eq (by decide) (show Gx 61 = us from (fx_61))) rfl ?_
    refine jx_icmp_ge (pc' := 21) (tg := 82) rfl rfl rfl (Int.le_trans (by decide : (-2147483648 : Int) ≤ -2147483648) rx_i.1) (Int.le_trans rx_i.2 (by decide : (2147483647 : Int) ≤ 2147483647)) (Int.le_trans (by decide : (-2147483648 : Int) ≤ -2147483648) b_us.1) (Int.le_trans b_us.2 (by decide : (2147483647 : Int) ≤ 2147483647)) (fun h1 => ?_) (fun h1 => ?_)
    · have _q := h1
      refine jx_ld (pc' := 83) (l' := L) (st' := [.ref 66]) rfl (jl_aloadn gL_0) ?_
      refine jr_get (pc' := 86) (i := 63) (v := .ref 106) rfl rfl (by decide) rfl rfl ?_
      refine jx_ld (pc' := 87) (l' := L) (st' := [.ref 66, .ref 106]) rfl (jl_aloadn gL_0) ?_
      refine jr_get (pc' := 90) (i := 61) (v := .int (i32 (us))) rfl rfl (by decide) (rFv_eq (by decide) (show Gx 61 = us from (fx_61))) rfl ?_
      refine jx_ld (pc' := 91) (l' := L) (st' := [.int (i32 (s)), .int (i32 (us)), .ref 106]) rfl (jl_iloadn gL_1) ?_
      refine jr_st (pc' := 92) (i := 39) (m := 60000) (z := us) (y := s) rfl (by decide) rfl (by decide) (by omega) (by omega) rfl ?_
      have hW3 : Wk Gx (uA Ax 39 (us).toNat (s)) := Wk_a hWx (show (-2147483648 : Int) ≤ s by omega) (show s ≤ (2147483647 : Int) by omega)
      have hF4 := Fr_a (z := s) (k := 39) (n := (us).toNat) hFx (by decide)
      obtain ⟨A2, eA2⟩ : ∃ q, q = uA Ax 39 (us).toNat (s) := ⟨_, rfl⟩
      rw [← eA2]
      rw [← eA2] at hW3 hF4
      have q5 : A2 39 (us).toNat = s := by rw [eA2]; exact uA_eq
      refine jx_ld (pc' := 93) (l' := L) (st' := [.ref 66]) rfl (jl_aloadn gL_0) ?_
      refine jr_get (pc' := 96) (i := 64) (v := .ref 107) rfl rfl (by decide) rfl rfl ?_
      refine jx_ld (pc' := 97) (l' := L) (st' := [.ref 66, .ref 107]) rfl (jl_aloadn gL_0) ?_
      refine jr_get (pc' := 100) (i := 61) (v := .int (i32 (us))) rfl rfl (by decide) (rFv_eq (by decide) (show Gx 61 = us from (fx_61))) rfl ?_
      refine jx_ld (pc' := 101) (l' := L) (st' := [.int (i32 (al)), .int (i32 (us)), .ref 107]) rfl (jl_iloadn gL_3) ?_
      refine jx_if_eq (pc' := 104) (tg := 108) rfl rfl rfl (Int.le_trans (by decide : (-2147483648 : Int) ≤ 0) h_al.1) (Int.le_trans h_al.2 (by decide : (1 : Int) ≤ 2147483647)) (fun h6 => ?_) (fun h6 => ?_)
      · have _q := h6
        refine jx_ld (pc' := 109) (l' := L) (st' := [.int (i32 (el)), .int (i32 (us)), .ref 107]) rfl (jl_iloadn gL_2) ?_
        refine jr_st (pc' := 110) (i := 40) (m := 60000) (z := us) (y := el) rfl (by decide) rfl (by decide) (by omega) (by omega) rfl ?_
        have hW8 : Wk Gx (uA A2 40 (us).toNat (el)) := Wk_a hW3 (show (-2147483648 : Int) ≤ el by omega) (show el ≤ (2147483647 : Int) by omega)
        have hF9 := Fr_a (z := el) (k := 40) (n := (us).toNat) hF4 (by decide)
        obtain ⟨A7, eA7⟩ : ∃ q, q = uA A2 40 (us).toNat (el) := ⟨_, rfl⟩
        rw [← eA7]
        rw [← eA7] at hW8 hF9
        have q10 : A7 40 (us).toNat = el := by rw [eA7]; exact uA_eq
        refine jx_ld (pc' := 111) (l' := L) (st' := [.ref 66]) rfl (jl_aloadn gL_0) ?_
        refine jr_get (pc' := 114) (i := 65) (v := .ref 108) rfl rfl (by decide) rfl rfl ?_
        refine jx_ld (pc' := 115) (l' := L) (st' := [.ref 66, .ref 108]) rfl (jl_aloadn gL_0) ?_
        refine jr_get (pc' := 118) (i := 61) (v := .int (i32 (us))) rfl rfl (by decide) (rFv_eq (by decide) (show Gx 61 = us from (fx_61))) rfl ?_
        refine jx_ld (pc' := 119) (l' := L) (st' := [.int (i32 (al)), .int (i32 (us)), .ref 108]) rfl (jl_iloadn gL_3) ?_
        refine jr_sb (pc' := 120) (i := 41) (m := 60000) (z := us) (y := al) rfl (by decide) rfl (by decide) (by omega) (by omega) (by omega) rfl ?_
        have hW12 : Wk Gx (uA A7 41 (us).toNat (al)) := Wk_a hW8 (show (0 : Int) ≤ al by omega) (show al ≤ (1 : Int) by omega)
        have hF13 := Fr_a (z := al) (k := 41) (n := (us).toNat) hF9 (by decide)
        obtain ⟨A11, eA11⟩ : ∃ q, q = uA A7 41 (us).toNat (al) := ⟨_, rfl⟩
        rw [← eA11]
        rw [← eA11] at hW12 hF13
        have q14 : A11 41 (us).toNat = al := by rw [eA11]; exact uA_eq
        refine jx_ld (pc' := 121) (l' := L) (st' := [.ref 66]) rfl (jl_aloadn gL_0) ?_
        refine jr_get (pc' := 124) (i := 66) (v := .ref 109) rfl rfl (by decide) rfl rfl ?_
        refine jx_ld (pc' := 125) (l' := L) (st' := [.ref 66, .ref 109]) rfl (jl_aloadn gL_0) ?_
        refine jr_get (pc' := 128) (i := 61) (v := .int (i32 (us))) rfl rfl (by decide) (rFv_eq (by decide) (show Gx 61 = us from (fx_61))) rfl ?_
        refine jx_ld (pc' := 130) (l' := L) (st' := [.int (i32 (u)), .int (i32 (us)), .ref 109]) rfl (jl_iload gL_4) ?_
        refine jr_st (pc' := 131) (i := 42) (m := 60000) (z := us) (y := u) rfl (by decide) rfl (by decide) (by omega) (by omega) rfl ?_
        have hW16 : Wk Gx (uA A11 42 (us).toNat (u)) := Wk_a hW12 (show (-2147483648 : Int) ≤ u by omega) (show u ≤ (2147483647 : Int) by omega)
        have hF17 := Fr_a (z := u) (k := 42) (n := (us).toNat) hF13 (by decide)
        obtain ⟨A15, eA15⟩ : ∃ q, q = uA A11 42 (us).toNat (u) := ⟨_, rfl⟩
        rw [← eA15]
        rw [← eA15] at hW16 hF17
        have q18 : A15 42 (us).toNat = u := by rw [eA15]; exact uA_eq
        refine jx_ld (pc' := 132) (l' := L) (st' := [.ref 66]) rfl (jl_aloadn gL_0) ?_
        refine jx_ar (pc' := 133) (st' := [.ref 66, .ref 66]) rfl rfl rfl rfl ?_
        refine jr_get (pc' := 136) (i := 61) (v := .int (i32 (us))) rfl rfl (by decide) (rFv_eq (by decide) (show Gx 61 = us from (fx_61))) rfl ?_
        refine jx_ar (pc' := 137) (st' := [.int (i32 (1)), .int (i32 (us)), .ref 66]) rfl rfl rfl rfl ?_
        refine jx_add (pc' := 138) rfl rfl ?_
        refine jr_put (pc' := 141) (i := 61) (z := (us + 1)) rfl rfl (by decide) rfl rfl rfl rfl rfl rfl ?_
        have hW19 : Wk (uG Gx 61 ((us + 1))) A15 := Wk_g hW16 (show (-2147483648 : Int) ≤ (us + 1) by omega) (show (us + 1) ≤ (2147483647 : Int) by omega)
        have hF20 := Fr_g (z := (us + 1)) (i := 61) hF17 (by decide)
        refine jx_rt (v := none) rfl rfl rfl rfl rfl rfl ?_
        exact ⟨_, _, (us + 1), rfl, rfl, hW19, hF20, rfl, by first | exact Or.inl (⟨by omega, by omega, iv_3⟩) | exact Or.inr ((⟨by omega, by omega, by omega, (UU_a iv_3 eA2 eA7 eA11 eA15 (by omega) (by omega) (by omega) (by omega) (by omega) p_8 (NF_e iv_4 (by omega)))⟩))⟩
      · have _q := h6
        refine jx_ar (pc' := 105) (st' := [.int (i32 (0)), .int (i32 (us)), .ref 107]) rfl rfl rfl rfl ?_
        refine jx_go (tg := 109) rfl rfl ?_
        refine jr_st (pc' := 110) (i := 40) (m := 60000) (z := us) (y := 0) rfl (by decide) rfl (by decide) (by omega) (by omega) rfl ?_
        have hW22 : Wk Gx (uA A2 40 (us).toNat (0)) := Wk_a hW3 (show (-2147483648 : Int) ≤ 0 by omega) (show 0 ≤ (2147483647 : Int) by omega)
        have hF23 := Fr_a (z := 0) (k := 40) (n := (us).toNat) hF4 (by decide)
        obtain ⟨A21, eA21⟩ : ∃ q, q = uA A2 40 (us).toNat (0) := ⟨_, rfl⟩
        rw [← eA21]
        rw [← eA21] at hW22 hF23
        have q24 : A21 40 (us).toNat = 0 := by rw [eA21]; exact uA_eq
        refine jx_ld (pc' := 111) (l' := L) (st' := [.ref 66]) rfl (jl_aloadn gL_0) ?_
        refine jr_get (pc' := 114) (i := 65) (v := .ref 108) rfl rfl (by decide) rfl rfl ?_
        refine jx_ld (pc' := 115) (l' := L) (st' := [.ref 66, .ref 108]) rfl (jl_aloadn gL_0) ?_
        refine jr_get (pc' := 118) (i := 61) (v := .int (i32 (us))) rfl rfl (by decide) (rFv_eq (by decide) (show Gx 61 = us from (fx_61))) rfl ?_
        refine jx_ld (pc' := 119) (l' := L) (st' := [.int (i32 (al)), .int (i32 (us)), .ref 108]) rfl (jl_iloadn gL_3) ?_
        refine jr_sb (pc' := 120) (i := 41) (m := 60000) (z := us) (y := al) rfl (by decide) rfl (by decide) (by omega) (by omega) (by omega) rfl ?_
        have hW26 : Wk Gx (uA A21 41 (us).toNat (al)) := Wk_a hW22 (show (0 : Int) ≤ al by omega) (show al ≤ (1 : Int) by omega)
        have hF27 := Fr_a (z := al) (k := 41) (n := (us).toNat) hF23 (by decide)
        obtain ⟨A25, eA25⟩ : ∃ q, q = uA A21 41 (us).toNat (al) := ⟨_, rfl⟩
        rw [← eA25]
        rw [← eA25] at hW26 hF27
        have q28 : A25 41 (us).toNat = al := by rw [eA25]; exact uA_eq
        refine jx_ld (pc' := 121) (l' := L) (st' := [.ref 66]) rfl (jl_aloadn gL_0) ?_
        refine jr_get (pc' := 124) (i := 66) (v := .ref 109) rfl rfl (by decide) rfl rfl ?_
        refine jx_ld (pc' := 125) (l' := L) (st' := [.ref 66, .ref 109]) rfl (jl_aloadn gL_0) ?_
        refine jr_get (pc' := 128) (i := 61) (v := .int (i32 (us))) rfl rfl (by decide) (rFv_eq (by decide) (show Gx 61 = us from (fx_61))) rfl ?_
        refine jx_ld (pc' := 130) (l' := L) (st' := [.int (i32 (u)), .int (i32 (us)), .ref 109]) rfl (jl_iload gL_4) ?_
        refine jr_st (pc' := 131) (i := 42) (m := 60000) (z := us) (y := u) rfl (by decide) rfl (by decide) (by omega) (by omega) rfl ?_
        have hW30 : Wk Gx (uA A25 42 (us).toNat (u)) := Wk_a hW26 (show (-2147483648 : Int) ≤ u by omega) (show u ≤ (2147483647 : Int) by omega)
        have hF31 := Fr_a (z := u) (k := 42) (n := (us).toNat) hF27 (by decide)
        obtain ⟨A29, eA29⟩ : ∃ q, q = uA A25 42 (us).toNat (u) := ⟨_, rfl⟩
        rw [← eA29]
        rw [← eA29] at hW30 hF31
        have q32 : A29 42 (us).toNat = u := by rw [eA29]; exact uA_eq
        refine jx_ld (pc' := 132) (l' := L) (st' := [.ref 66]) rfl (jl_aloadn gL_0) ?_
        refine jx_ar (pc' := 133) (st' := [.ref 66, .ref 66]) rfl rfl rfl rfl ?_
        refine jr_get (pc' := 136) (i := 61) (v := .int (i32 (us))) rfl rfl (by decide) (rFv_eq (by decide) (show Gx 61 = us from (fx_61))) rfl ?_
        refine jx_ar (pc' := 137) (st' := [.int (i32 (1)), .int (i32 (us)), .ref 66]) rfl rfl rfl rfl ?_
        refine jx_add (pc' := 138) rfl rfl ?_
        refine jr_put (pc' := 141) (i := 61) (z := (us + 1)) rfl rfl (by decide) rfl rfl rfl rfl rfl rfl ?_
        have hW33 : Wk (uG Gx 61 ((us + 1))) A29 := Wk_g hW30 (show (-2147483648 : Int) ≤ (us + 1) by omega) (show (us + 1) ≤ (2147483647 : Int) by omega)
        have hF34 := Fr_g (z := (us + 1)) (i := 61) hF31 (by decide)
        refine jx_rt (v := none) rfl rfl rfl rfl rfl rfl ?_
        exact ⟨_, _, (us + 1), rfl, rfl, hW33, hF34, rfl, by first | exact Or.inl (⟨by omega, by omega, iv_3⟩) | exact Or.inr ((⟨by omega, by omega, by omega, (UU_a iv_3 eA2 eA21 eA25 eA29 (by omega) (by omega) (by omega) (by omega) (by omega) p_8 (NF_e iv_4 (by omega)))⟩))⟩
    · have _q := h1
      refine jx_ld (pc' := 22) (l' := L) (st' := [.ref 66]) rfl (jl_aloadn gL_0) ?_
      refine jr_get (pc' := 25) (i := 63) (v := .ref 106) rfl rfl (by decide) rfl rfl ?_
      refine jx_ld (pc' := 27) (l' := L) (st' := [.int (i32 (i)), .ref 106]) rfl (jl_iload gL_5) ?_
      have b35 : (-2147483648 : Int) ≤ Ax 39 (i).toNat ∧ Ax 39 (i).toNat ≤ 2147483647 := hWx.2 39 _
      refine jr_ldv (pc' := 28) (i := 39) (m := 60000) (z := i) (y := Ax 39 (i).toNat) rfl (by decide) rfl (by decide) (by omega) (by omega) rfl (show Ax 39 (i).toNat = Ax 39 (i).toNat from rfl) ?_
      refine jx_ld (pc' := 29) (l' := L) (st' := [.int (i32 (s)), .int (i32 (Ax 39 (i).toNat))]) rfl (jl_iloadn gL_1) ?_
      refine jx_icmp_ne (pc' := 32) (tg := 76) rfl rfl rfl (Int.le_trans (by decide : (-2147483648 : Int) ≤ -2147483648) b35.1) (Int.le_trans b35.2 (by decide : (2147483647 : Int) ≤ 2147483647)) (Int.le_trans (by decide : (-2147483648 : Int) ≤ -2147483648) h_s.1) (Int.le_trans h_s.2 (by decide : (2147483647 : Int) ≤ 2147483647)) (fun h36 => ?_) (fun h36 => ?_)
      · have _q := h36
        refine jx_inc (pc' := 79) (l' := jSto1 L 5 (.int (i32 ((i + (1)))))) (x := i) rfl gL_5 (by decide) rfl rfl ?_
        obtain ⟨L37, eL37⟩ : ∃ q, q = jSto1 L 5 (.int (i32 ((i + (1))))) := ⟨_, rfl⟩
        rw [← eL37]
        have gL37_0 : jGet L37 0 = some (.ref 66) := eL37 ▸ jg_ne (by decide) gL_0 rfl
        have gL37_1 : jGet L37 1 = some (.int (i32 (s))) := eL37 ▸ jg_ne (by decide) gL_1 rfl
        have gL37_2 : jGet L37 2 = some (.int (i32 (el))) := eL37 ▸ jg_ne (by decide) gL_2 rfl
        have gL37_3 : jGet L37 3 = some (.int (i32 (al))) := eL37 ▸ jg_ne (by decide) gL_3 rfl
        have gL37_4 : jGet L37 4 = some (.int (i32 (u))) := eL37 ▸ jg_ne (by decide) gL_4 rfl
        have gL37_5 : jGet L37 5 = some (.int (i32 ((i + (1))))) := eL37 ▸ jg_eq
        refine jx_go (tg := 12) rfl rfl ?_
        exact ih12 _ (by omega) L37 Gx Ax ((i + (1))) rfl gL37_0 gL37_1 gL37_2 gL37_3 gL37_4 gL37_5 hWx hFx ((fx_61)) (by omega) (by omega) (by omega) (by omega) (iv_3) ((NF_nx iv_4 (by omega) (fun w => by have w1 := w.1; have w2 := w.2.1; have w3 := w.2.2; omega)))
      · have _q := h36
        refine jx_ld (pc' := 33) (l' := L) (st' := [.ref 66]) rfl (jl_aloadn gL_0) ?_
        refine jr_get (pc' := 36) (i := 65) (v := .ref 108) rfl rfl (by decide) rfl rfl ?_
        refine jx_ld (pc' := 38) (l' := L) (st' := [.int (i32 (i)), .ref 108]) rfl (jl_iload gL_5) ?_
        have b38 : (0 : Int) ≤ Ax 41 (i).toNat ∧ Ax 41 (i).toNat ≤ 1 := hWx.2 41 _
        refine jr_lbv (pc' := 39) (i := 41) (m := 60000) (z := i) (y := Ax 41 (i).toNat) rfl (by decide) rfl (by decide) (by omega) (by omega) rfl (show Ax 41 (i).toNat = Ax 41 (i).toNat from rfl) ?_
        refine jx_ld (pc' := 40) (l' := L) (st' := [.int (i32 (al)), .int (i32 (Ax 41 (i).toNat))]) rfl (jl_iloadn gL_3) ?_
        refine jx_icmp_ne (pc' := 43) (tg := 76) rfl rfl rfl (Int.le_trans (by decide : (-2147483648 : Int) ≤ 0) b38.1) (Int.le_trans b38.2 (by decide : (1 : Int) ≤ 2147483647)) (Int.le_trans (by decide : (-2147483648 : Int) ≤ 0) h_al.1) (Int.le_trans h_al.2 (by decide : (1 : Int) ≤ 2147483647)) (fun h39 => ?_) (fun h39 => ?_)
        · have _q := h39
          refine jx_inc (pc' := 79) (l' := jSto1 L 5 (.int (i32 ((i + (1)))))) (x := i) rfl gL_5 (by decide) rfl rfl ?_
          obtain ⟨L40, eL40⟩ : ∃ q, q = jSto1 L 5 (.int (i32 ((i + (1))))) := ⟨_, rfl⟩
          rw [← eL40]
          have gL40_0 : jGet L40 0 = some (.ref 66) := eL40 ▸ jg_ne (by decide) gL_0 rfl
          have gL40_1 : jGet L40 1 = some (.int (i32 (s))) := eL40 ▸ jg_ne (by decide) gL_1 rfl
          have gL40_2 : jGet L40 2 = some (.int (i32 (el))) := eL40 ▸ jg_ne (by decide) gL_2 rfl
          have gL40_3 : jGet L40 3 = some (.int (i32 (al))) := eL40 ▸ jg_ne (by decide) gL_3 rfl
          have gL40_4 : jGet L40 4 = some (.int (i32 (u))) := eL40 ▸ jg_ne (by decide) gL_4 rfl
          have gL40_5 : jGet L40 5 = some (.int (i32 ((i + (1))))) := eL40 ▸ jg_eq
          refine jx_go (tg := 12) rfl rfl ?_
          exact ih12 _ (by omega) L40 Gx Ax ((i + (1))) rfl gL40_0 gL40_1 gL40_2 gL40_3 gL40_4 gL40_5 hWx hFx ((fx_61)) (by omega) (by omega) (by omega) (by omega) (iv_3) ((NF_nx iv_4 (by omega) (fun w => by have w1 := w.1; have w2 := w.2.1; have w3 := w.2.2; omega)))
        · have _q := h39
          refine jx_ld (pc' := 44) (l' := L) (st' := [.int (i32 (al))]) rfl (jl_iloadn gL_3) ?_
          refine jx_if_ne (pc' := 47) (tg := 58) rfl rfl rfl (Int.le_trans (by decide : (-2147483648 : Int) ≤ 0) h_al.1) (Int.le_trans h_al.2 (by decide : (1 : Int) ≤ 2147483647)) (fun h41 => ?_) (fun h41 => ?_)
          · have _q := h41
            refine jx_ld (pc' := 59) (l' := L) (st' := [.ref 66]) rfl (jl_aloadn gL_0) ?_
            refine jr_get (pc' := 62) (i := 66) (v := .ref 109) rfl rfl (by decide) rfl rfl ?_
            refine jx_ld (pc' := 64) (l' := L) (st' := [.int (i32 (i)), .ref 109]) rfl (jl_iload gL_5) ?_
            refine jx_ld (pc' := 65) (l' := L) (st' := [.ref 66, .int (i32 (i)), .ref 109]) rfl (jl_aloadn gL_0) ?_
            refine jr_get (pc' := 68) (i := 66) (v := .ref 109) rfl rfl (by decide) rfl rfl ?_
            refine jx_ld (pc' := 70) (l' := L) (st' := [.int (i32 (i)), .ref 109, .int (i32 (i)), .ref 109]) rfl (jl_iload gL_5) ?_
            have b42 : (-2147483648 : Int) ≤ Ax 42 (i).toNat ∧ Ax 42 (i).toNat ≤ 2147483647 := hWx.2 42 _
            refine jr_ldv (pc' := 71) (i := 42) (m := 60000) (z := i) (y := Ax 42 (i).toNat) rfl (by decide) rfl (by decide) (by omega) (by omega) rfl (show Ax 42 (i).toNat = Ax 42 (i).toNat from rfl) ?_
            refine jx_ld (pc' := 73) (l' := L) (st' := [.int (i32 (u)), .int (i32 (Ax 42 (i).toNat)), .int (i32 (i)), .ref 109]) rfl (jl_iload gL_4) ?_
            refine jx_or (pc' := 74) rfl rfl ?_
            obtain ⟨b43, eb43⟩ : ∃ z, z = (i32 (Ax 42 (i).toNat) ||| i32 (u)).toInt := ⟨_, rfl⟩
            rw [← eb43]
            have rb43 : (-2147483648 : Int) ≤ b43 ∧ b43 ≤ 2147483647 := eb43 ▸ i32_rg _
            refine jr_st (pc' := 75) (i := 42) (m := 60000) (z := i) (y := b43) rfl (by decide) rfl (by decide) (by omega) (by omega) rfl ?_
            have hW45 : Wk Gx (uA Ax 42 (i).toNat (b43)) := Wk_a hWx (show (-2147483648 : Int) ≤ b43 by omega) (show b43 ≤ (2147483647 : Int) by omega)
            have hF46 := Fr_a (z := b43) (k := 42) (n := (i).toNat) hFx (by decide)
            obtain ⟨A44, eA44⟩ : ∃ q, q = uA Ax 42 (i).toNat (b43) := ⟨_, rfl⟩
            rw [← eA44]
            rw [← eA44] at hW45 hF46
            have q47 : A44 42 (i).toNat = b43 := by rw [eA44]; exact uA_eq
            refine jx_rt (v := none) rfl rfl rfl rfl rfl rfl ?_
            exact ⟨_, _, us, rfl, rfl, hW45, hF46, (fx_61), by first | exact Or.inl (⟨by omega, by omega, iv_3⟩) | exact Or.inr ((⟨by omega, by omega, by omega, (UU_m iv_3 eA44 (by omega) (by omega) (by omega) (by omega) (by omega) eb43 p_8 ⟨by omega, by omega, by omega⟩)⟩))⟩
          · have _q := h41
            refine jx_ld (pc' := 48) (l' := L) (st' := [.ref 66]) rfl (jl_aloadn gL_0) ?_
            refine jr_get (pc' := 51) (i := 64) (v := .ref 107) rfl rfl (by decide) rfl rfl ?_
            refine jx_ld (pc' := 53) (l' := L) (st' := [.int (i32 (i)), .ref 107]) rfl (jl_iload gL_5) ?_
            have b48 : (-2147483648 : Int) ≤ Ax 40 (i).toNat ∧ Ax 40 (i).toNat ≤ 2147483647 := hWx.2 40 _
            refine jr_ldv (pc' := 54) (i := 40) (m := 60000) (z := i) (y := Ax 40 (i).toNat) rfl (by decide) rfl (by decide) (by omega) (by omega) rfl (show Ax 40 (i).toNat = Ax 40 (i).toNat from rfl) ?_
            refine jx_ld (pc' := 55) (l' := L) (st' := [.int (i32 (el)), .int (i32 (Ax 40 (i).toNat))]) rfl (jl_iloadn gL_2) ?_
            refine jx_icmp_ne (pc' := 58) (tg := 76) rfl rfl rfl (Int.le_trans (by decide : (-2147483648 : Int) ≤ -2147483648) b48.1) (Int.le_trans b48.2 (by decide : (2147483647 : Int) ≤ 2147483647)) (Int.le_trans (by decide : (-2147483648 : Int) ≤ -2147483648) h_el.1) (Int.le_trans h_el.2 (by decide : (2147483647 : Int) ≤ 2147483647)) (fun h49 => ?_) (fun h49 => ?_)
            · have _q := h49
              refine jx_inc (pc' := 79) (l' := jSto1 L 5 (.int (i32 ((i + (1)))))) (x := i) rfl gL_5 (by decide) rfl rfl ?_
              obtain ⟨L50, eL50⟩ : ∃ q, q = jSto1 L 5 (.int (i32 ((i + (1))))) := ⟨_, rfl⟩
              rw [← eL50]
              have gL50_0 : jGet L50 0 = some (.ref 66) := eL50 ▸ jg_ne (by decide) gL_0 rfl
              have gL50_1 : jGet L50 1 = some (.int (i32 (s))) := eL50 ▸ jg_ne (by decide) gL_1 rfl
              have gL50_2 : jGet L50 2 = some (.int (i32 (el))) := eL50 ▸ jg_ne (by decide) gL_2 rfl
              have gL50_3 : jGet L50 3 = some (.int (i32 (al))) := eL50 ▸ jg_ne (by decide) gL_3 rfl
              have gL50_4 : jGet L50 4 = some (.int (i32 (u))) := eL50 ▸ jg_ne (by decide) gL_4 rfl
              have gL50_5 : jGet L50 5 = some (.int (i32 ((i + (1))))) := eL50 ▸ jg_eq
              refine jx_go (tg := 12) rfl rfl ?_
              exact ih12 _ (by omega) L50 Gx Ax ((i + (1))) rfl gL50_0 gL50_1 gL50_2 gL50_3 gL50_4 gL50_5 hWx hFx ((fx_61)) (by omega) (by omega) (by omega) (by omega) (iv_3) ((NF_nx iv_4 (by omega) (fun w => by have w1 := w.1; have w2 := w.2.1; have w3 := w.2.2; omega)))
            · have _q := h49
              refine jx_ld (pc' := 59) (l' := L) (st' := [.ref 66]) rfl (jl_aloadn gL_0) ?_
              refine jr_get (pc' := 62) (i := 66) (v := .ref 109) rfl rfl (by decide) rfl rfl ?_
              refine jx_ld (pc' := 64) (l' := L) (st' := [.int (i32 (i)), .ref 109]) rfl (jl_iload gL_5) ?_
              refine jx_ld (pc' := 65) (l' := L) (st' := [.ref 66, .int (i32 (i)), .ref 109]) rfl (jl_aloadn gL_0) ?_
              refine jr_get (pc' := 68) (i := 66) (v := .ref 109) rfl rfl (by decide) rfl rfl ?_
              refine jx_ld (pc' := 70) (l' := L) (st' := [.int (i32 (i)), .ref 109, .int (i32 (i)), .ref 109]) rfl (jl_iload gL_5) ?_
              have b51 : (-2147483648 : Int) ≤ Ax 42 (i).toNat ∧ Ax 42 (i).toNat ≤ 2147483647 := hWx.2 42 _
              refine jr_ldv (pc' := 71) (i := 42) (m := 60000) (z := i) (y := Ax 42 (i).toNat) rfl (by decide) rfl (by decide) (by omega) (by omega) rfl (show Ax 42 (i).toNat = Ax 42 (i).toNat from rfl) ?_
              refine jx_ld (pc' := 73) (l' := L) (st' := [.int (i32 (u)), .int (i32 (Ax 42 (i).toNat)), .int (i32 (i)), .ref 109]) rfl (jl_iload gL_4) ?_
              refine jx_or (pc' := 74) rfl rfl ?_
              obtain ⟨b52, eb52⟩ : ∃ z, z = (i32 (Ax 42 (i).toNat) ||| i32 (u)).toInt := ⟨_, rfl⟩
              rw [← eb52]
              have rb52 : (-2147483648 : Int) ≤ b52 ∧ b52 ≤ 2147483647 := eb52 ▸ i32_rg _
              refine jr_st (pc' := 75) (i := 42) (m := 60000) (z := i) (y := b52) rfl (by decide) rfl (by decide) (by omega) (by omega) rfl ?_
              have hW54 : Wk Gx (uA Ax 42 (i).toNat (b52)) := Wk_a hWx (show (-2147483648 : Int) ≤ b52 by omega) (show b52 ≤ (2147483647 : Int) by omega)
              have hF55 := Fr_a (z := b52) (k := 42) (n := (i).toNat) hFx (by decide)
              obtain ⟨A53, eA53⟩ : ∃ q, q = uA Ax 42 (i).toNat (b52) := ⟨_, rfl⟩
              rw [← eA53]
              rw [← eA53] at hW54 hF55
              have q56 : A53 42 (i).toNat = b52 := by rw [eA53]; exact uA_eq
              refine jx_rt (v := none) rfl rfl rfl rfl rfl rfl ?_
              exact ⟨_, _, us, rfl, rfl, hW54, hF55, (fx_61), by first | exact Or.inl (⟨by omega, by omega, iv_3⟩) | exact Or.inr ((⟨by omega, by omega, by omega, (UU_m iv_3 eA53 (by omega) (by omega) (by omega) (by omega) (by omega) eb52 p_8 ⟨by omega, by omega, by omega⟩)⟩))⟩
set_option maxRecDepth 20000 in
set_option maxHeartbeats 4000000 in
theorem c_addUse {X : jX} {dd : Nat} {c0 c1 : jC} {G : Nat → Int} {A : Nat → Nat → Int} {T : jH} {s el al u : Int} {uf us : Int} (hd : 1 ≤ dd) (hW : Wk G A) (e_uf : G 62 = uf) (e_us : G 61 = us) (h_s : (-2147483648 : Int) ≤ s ∧ s ≤ 2147483647) (h_el : (-2147483648 : Int) ≤ el ∧ el ≤ 2147483647) (h_al : (0 : Int) ≤ al ∧ al ≤ 1) (h_u : (-2147483648 : Int) ≤ u ∧ u ≤ 2147483647) (p_0 : 0 ≤ uf) (p_1 : uf ≤ us) (p_2 : us ≤ 59999) (p_3 : 0 ≤ u) (p_4 : u ≤ 15) (p_5 : 0 ≤ s) (p_6 : s ≤ 259) (p_7 : 0 ≤ al) (p_8 : (∀ j : Int, 0 ≤ j → j < us → 0 ≤ A 42 (j).toNat ∧ A 42 (j).toNat ≤ 15)) : wk X dd 323 [.ref 66, .int (i32 s), .int (i32 el), .int (i32 al), .int (i32 u)] (rV c0 c1 G A T) (fun o V' => ∃ (G' : Nat → Int) (A' : Nat → Nat → Int) (us2 : Int), V' = rV c0 c1 G' A' T ∧ o = .inl none ∧ Wk G' A' ∧ Fr [61] [39, 40, 41, 42] G A G' A' ∧ G' 61 = us2 ∧ (((u = 0) ∧ (us2 = us) ∧ (A' = A)) ∨ ((1 ≤ u) ∧ (us ≤ us2) ∧ (us2 ≤ us + 1) ∧ (UU A A' (uf) (us) (us2) (s) (al) (el) (u))))) := by
  obtain ⟨d, rfl⟩ : ∃ d, dd = d + 1 := ⟨dd - 1, by omega⟩
  refine wk_of (e := jm323) rfl (Nat.le_of_ble_eq_true rfl) ?_
  show wj X d jm323 (0, [(0, .ref 66), (1, .int (i32 (s))), (2, .int (i32 (el))), (3, .int (i32 (al))), (4, .int (i32 (u)))], [], rV c0 c1 G A T) _
  have hF0 : Fr [61] [39, 40, 41, 42] G A G A := Fr_rf
  have b_uf : (-2147483648 : Int) ≤ uf ∧ uf ≤ 2147483647 := e_uf ▸ hW.1 62
  have b_us : (-2147483648 : Int) ≤ us ∧ us ≤ 2147483647 := e_us ▸ hW.1 61
  refine jx_ld (pc' := 2) (l' := [(0, .ref 66), (1, .int (i32 (s))), (2, .int (i32 (el))), (3, .int (i32 (al))), (4, .int (i32 (u)))]) (st' := [.int (i32 (u))]) rfl (jl_iload rfl) ?_
  refine jx_if_ne (pc' := 5) (tg := 6) rfl rfl rfl (Int.le_trans (by decide : (-2147483648 : Int) ≤ -2147483648) h_u.1) (Int.le_trans h_u.2 (by decide : (2147483647 : Int) ≤ 2147483647)) (fun h57 => ?_) (fun h57 => ?_)
  · have _q := h57
    refine jx_ld (pc' := 7) (l' := [(0, .ref 66), (1, .int (i32 (s))), (2, .int (i32 (el))), (3, .int (i32 (al))), (4, .int (i32 (u)))]) (st' := [.ref 66]) rfl (jl_aloadn rfl) ?_
    refine jr_get (pc' := 10) (i := 62) (v := .int (i32 (uf))) rfl rfl (by decide) (rFv_eq (by decide) (show G 62 = uf from (e_uf))) rfl ?_
    refine jx_ld (pc' := 12) (l' := jSto1 [(0, .ref 66), (1, .int (i32 (s))), (2, .int (i32 (el))), (3, .int (i32 (al))), (4, .int (i32 (u)))] 5 (.int (i32 (uf)))) (st' := []) rfl rfl ?_
    obtain ⟨L58, eL58⟩ : ∃ q, q = jSto1 [(0, .ref 66), (1, .int (i32 (s))), (2, .int (i32 (el))), (3, .int (i32 (al))), (4, .int (i32 (u)))] 5 (.int (i32 (uf))) := ⟨_, rfl⟩
    rw [← eL58]
    have gL58_0 : jGet L58 0 = some (.ref 66) := eL58 ▸ jg_ne (by decide) (rfl : jGet [(0, .ref 66), (1, .int (i32 (s))), (2, .int (i32 (el))), (3, .int (i32 (al))), (4, .int (i32 (u)))] 0 = some (.ref 66)) rfl
    have gL58_1 : jGet L58 1 = some (.int (i32 (s))) := eL58 ▸ jg_ne (by decide) (rfl : jGet [(0, .ref 66), (1, .int (i32 (s))), (2, .int (i32 (el))), (3, .int (i32 (al))), (4, .int (i32 (u)))] 1 = some (.int (i32 (s)))) rfl
    have gL58_2 : jGet L58 2 = some (.int (i32 (el))) := eL58 ▸ jg_ne (by decide) (rfl : jGet [(0, .ref 66), (1, .int (i32 (s))), (2, .int (i32 (el))), (3, .int (i32 (al))), (4, .int (i32 (u)))] 2 = some (.int (i32 (el)))) rfl
    have gL58_3 : jGet L58 3 = some (.int (i32 (al))) := eL58 ▸ jg_ne (by decide) (rfl : jGet [(0, .ref 66), (1, .int (i32 (s))), (2, .int (i32 (el))), (3, .int (i32 (al))), (4, .int (i32 (u)))] 3 = some (.int (i32 (al)))) rfl
    have gL58_4 : jGet L58 4 = some (.int (i32 (u))) := eL58 ▸ jg_ne (by decide) (rfl : jGet [(0, .ref 66), (1, .int (i32 (s))), (2, .int (i32 (el))), (3, .int (i32 (al))), (4, .int (i32 (u)))] 4 = some (.int (i32 (u)))) rfl
    have gL58_5 : jGet L58 5 = some (.int (i32 (uf))) := eL58 ▸ jg_eq
    exact c_addUse_at_12 (X := X) (d := d) (c0 := c0) (c1 := c1) (G := G) (A := A) (T := T) (s := s) (el := el) (al := al) (u := u) (uf := uf) (us := us) (hd := hd) (hW := hW) (e_uf := e_uf) (e_us := e_us) (h_s := h_s) (h_el := h_el) (h_al := h_al) (h_u := h_u) (p_0 := p_0) (p_1 := p_1) (p_2 := p_2) (p_3 := p_3) (p_4 := p_4) (p_5 := p_5) (p_6 := p_6) (p_7 := p_7) (p_8 := p_8) _ L58 G A (uf) rfl gL58_0 gL58_1 gL58_2 gL58_3 gL58_4 gL58_5 hW hF0 ((e_us)) (by omega) (by omega) (by omega) (by omega) (rfl) ((NF_0 (by omega)))
  · have _q := h57
    refine jx_rt (v := none) rfl rfl rfl rfl rfl rfl ?_
    exact ⟨_, _, us, rfl, rfl, hW, hF0, (e_us), by first | exact Or.inl (⟨by omega, by omega, rfl⟩)⟩
