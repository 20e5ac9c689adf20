/-! PAR keeps the rules: what the branches may do -/
/-- the right to a use, in a branch (d: what its W lies below) -/
def KcC (T : Nat → Nat → Int) (F : Int → Int) (nw : Int) (V : Nat → Prop) (mk d : Int) (u : Int × Int × Int × Int) (q : Cp) : Prop := 0 ≤ u.1 ∧ V u.1.toNat ∧ u.1 < mk ∧
  ((T 7 u.1.toNat = 3 ∧ q = (2, wd T F nw u.1 + d, 1, u.2.2.2, r0)) ∨ (T 7 u.1.toNat = 4 ∧ u.2.1 = 1 ∧ q = (2, wd T F nw u.1 + d, T 8 u.1.toNat, u.2.2.2, r0)) ∨ (T 7 u.1.toNat = 4 ∧ u.2.1 ≠ 1 ∧ 0 ≤ u.2.2.1 ∧ u.2.2.1 < T 8 u.1.toNat ∧ q = (2, wd T F nw u.1 + u.2.2.1 + d, 1, u.2.2.2, r0)) ∨ (T 7 u.1.toNat = 8 ∧ q = (4, wd T F nw u.1 + d, 1, u.2.2.2, r0)) ∨ (11 ≤ T 7 u.1.toNat ∧ T 7 u.1.toNat ≤ 13 ∧ q = (5, adv T F nw u.1, 1, u.2.2.2, r0)))
theorem kch {T : Nat → Nat → Int} {F : Int → Int} {nw : Int} {V : Nat → Prop} {mk d : Int} : ∀ L : List (Int × Int × Int × Int), ∃ l : List Cp, (∀ q ∈ l, ∃ u ∈ L, KcC T F nw V mk d u q) ∧ ∀ u ∈ L, ∀ q, KcC T F nw V mk d u q → q ∈ l
  | [] => ⟨[], fun q hq => absurd hq List.not_mem_nil, fun u hu => absurd hu List.not_mem_nil⟩
  | u :: L => by
    obtain ⟨l, h1, h2⟩ := kch (T := T) (F := F) (nw := nw) (V := V) (mk := mk) (d := d) L
    by_cases h : ∃ q, KcC T F nw V mk d u q
    · obtain ⟨q0, hq0⟩ := h
      refine ⟨q0 :: l, fun q hq => ?_, fun u_q hu' q hq => ?_⟩
      · rcases List.mem_cons.mp hq with e | hq
        · subst e
          exact ⟨u, List.mem_cons_self, hq0⟩
        · obtain ⟨u_q, hu', r⟩ := h1 q hq
          exact ⟨u_q, List.mem_cons_of_mem _ hu', r⟩
      · rcases List.mem_cons.mp hu' with e | hu'
        · subst e
          have : q = q0 := by
            obtain ⟨_, _, _, a⟩ := hq
            obtain ⟨_, _, _, b⟩ := hq0
            rcases a with a | a | a | a | a <;> rcases b with b | b | b | b | b
            · exact a.2.trans b.2.symm
            · omega
            · omega
            · omega
            · omega
            · omega
            · exact a.2.2.trans b.2.2.symm
            · omega
            · omega
            · omega
            · omega
            · omega
            · exact a.2.2.2.2.trans b.2.2.2.2.symm
            · omega
            · omega
            · omega
            · omega
            · omega
            · exact a.2.trans b.2.symm
            · omega
            · omega
            · omega
            · omega
            · omega
            · exact a.2.2.trans b.2.2.symm
          rw [this]
          exact List.mem_cons_self
        · exact List.mem_cons_of_mem _ (h2 u_q hu' q hq)
    · refine ⟨l, fun q hq => ?_, fun u_q hu' q hq => ?_⟩
      · obtain ⟨u_q, hu', r⟩ := h1 q hq
        exact ⟨u_q, List.mem_cons_of_mem _ hu', r⟩
      · rcases List.mem_cons.mp hu' with e | hu'
        · subst e
          exact absurd ⟨q, hq⟩ h
        · exact h2 u_q hu' q hq
/-- data's rights, seen from a branch -/
def dcp (d : Int) : List Cp → List Cp
  | [] => []
  | q :: l => if qK q = 1 ∨ qK q = 3 then (qK q, qO q + d, qN q, 0, r0) :: dcp d l else dcp d l
theorem dcp_m {d : Int} : ∀ {l : List Cp} {q : Cp}, q ∈ dcp d l → ∃ q0 ∈ l, (qK q0 = 1 ∨ qK q0 = 3) ∧ q = (qK q0, qO q0 + d, qN q0, 0, r0)
  | [], q, h => absurd h List.not_mem_nil
  | x :: l, q, h => by
    unfold dcp at h
    by_cases k : qK x = 1 ∨ qK x = 3
    · rw [if_pos k] at h
      rcases List.mem_cons.mp h with e | h
      · exact ⟨x, List.mem_cons_self, k, e⟩
      · obtain ⟨q0, hq0, r⟩ := dcp_m h
        exact ⟨q0, List.mem_cons_of_mem _ hq0, r⟩
    · rw [if_neg k] at h
      obtain ⟨q0, hq0, r⟩ := dcp_m h
      exact ⟨q0, List.mem_cons_of_mem _ hq0, r⟩
theorem dcp_i {d : Int} : ∀ {l : List Cp} {q : Cp}, q ∈ l → (qK q = 1 ∨ qK q = 3) → (qK q, qO q + d, qN q, 0, r0) ∈ dcp d l
  | [], q, h, _ => absurd h List.not_mem_nil
  | x :: l, q, h, k => by
    unfold dcp
    rcases List.mem_cons.mp h with e | h
    · subst e
      rw [if_pos k]
      exact List.mem_cons_self
    · by_cases kx : qK x = 1 ∨ qK x = 3
      · rw [if_pos kx]
        exact List.mem_cons_of_mem _ (dcp_i h k)
      · rw [if_neg kx]
        exact dcp_i h k
/-- a branch's context: its rights are part of those around it, it sees what it may use -/
theorem brc {T : Nat → Nat → Int} {F F_q : Int → Int} {nw : Int} {V V_q : Nat → Prop} {U : Us} {c : Cx} {f mk d z1 D1 pd : Int} {L : List (Int × Int × Int × Int)} (hE : En T F nw V U c f) (hG : Eg T F nw V U (cZ c) f) (ab : Abv c) (hN : ∀ q ∈ cCp c, 1 ≤ qN q) (hd : z1 + 3 ≤ d) (hd2 : d ≤ 4000) (hz : 1 ≤ z1) (hnw : nw + 1 ≤ 100) (hL : ∀ u ∈ L, u.1 < mk → U u.1 u.2.1 u.2.2.1 u.2.2.2) (hV : ∀ s : Nat, V s → (s : Int) < mk) (hV' : ∀ s : Nat, V_q s → V s ∨ T 7 s = 10) (hw : ∀ s : Nat, V s → T 7 s ≤ 9 → wd T F_q (nw + 1) (s : Int) = wd T F nw (s : Int) + d) :
    ∃ l : List Cp, (∀ q ∈ l, 1 ≤ qN q ∧ Prt (cCp c) d q) ∧ (∀ q ∈ l, qK q = 1 ∨ qK q = 3 ∨ ∃ u ∈ L, KcC T F nw V mk d u q) ∧ En T F_q (nw + 1) V_q (fun s al e b => (s, al, e, b) ∈ L) ((2, pd, z1, D1, 0), l, (r0, r0, r0), (0, [], [])) 1 ∧ Eg T F_q (nw + 1) V_q (fun s al e b => (s, al, e, b) ∈ L) z1 1 ∧ Abv ((2, pd, z1, D1, 0), l, (r0, r0, r0), (0, [], [])) := by
  obtain ⟨l, h1, h2⟩ := kch (T := T) (F := F) (nw := nw) (V := V) (mk := mk) (d := d) L
  have hE' := hE
  obtain ⟨e1, e2, e3, e4, e5, e6, e7, e8⟩ := hE
  obtain ⟨g1, g2, g3, g4⟩ := hG
  have mem : ∀ q ∈ dcp d (cCp c) ++ l, (∃ q0 ∈ cCp c, (qK q0 = 1 ∨ qK q0 = 3) ∧ q = (qK q0, qO q0 + d, qN q0, 0, r0)) ∨ ∃ u ∈ L, KcC T F nw V mk d u q := fun q hq => by
    rcases List.mem_append.mp hq with w | w
    · exact Or.inl (dcp_m w)
    · exact Or.inr (h1 q w)
  have adv' : ∀ s : Int, adv T F_q (nw + 1) s = if T 7 s.toNat = 11 ∨ T 7 s.toNat = 12 ∨ T 7 s.toNat = 13 then adv T F nw s else wd T F_q (nw + 1) s := fun s => by
    unfold adv
    by_cases k11 : T 7 s.toNat = 11
    · rw [if_pos k11, if_pos (Or.inl k11), if_pos k11]
    · rw [if_neg k11]
      by_cases k12 : T 7 s.toNat = 12
      · rw [if_pos k12, if_pos (Or.inr (Or.inl k12)), if_neg k11, if_pos k12]
      · rw [if_neg k12]
        by_cases k13 : T 7 s.toNat = 13
        · rw [if_pos k13, if_pos (Or.inr (Or.inr k13)), if_neg k11, if_neg k12, if_pos k13]
        · rw [if_neg k13, if_neg (by omega)]
  have advo : ∀ s : Nat, 11 ≤ T 7 s → T 7 s ≤ 13 → adv T F_q (nw + 1) (s : Int) = adv T F nw (s : Int) := fun s a b => by
    have es : ((s : Int)).toNat = s := by omega
    rw [adv', es, if_pos (by omega)]
  have use : ∀ u q, KcC T F nw V mk d u q → (T 7 u.1.toNat ≤ 9 → T 7 u.1.toNat ≤ 8) := fun u q _ h => by
    rename_i hk
    obtain ⟨_, _, _, a⟩ := hk
    rcases a with a | a | a | a | a <;> omega
  -- the right around, of which it is a part
  have prt : ∀ u ∈ L, ∀ q, KcC T F nw V mk d u q → 1 ≤ qN q ∧ Prt (cCp c) d q ∧ (qK q ≠ 5 → z1 ≤ qO q) := fun u hu q hq => by
    obtain ⟨u0, uv, um, a⟩ := hq
    have es : ((u.1.toNat : Nat) : Int) = u.1 := by omega
    obtain ⟨y1, y2, y3, y4, y5⟩ := e2 u.1.toNat u.2.1 u.2.2.1 u.2.2.2 uv (by rw [es]; exact hL u hu um)
    rw [es] at y1 y2 y3 y4 y5
    have gg := fun k => g2 u.1.toNat uv k
    rw [es] at gg
    rcases a with a | a | a | a | a
    · obtain ⟨q0, hq0, r1, r2, r3, r4⟩ := y1 a.1
      have := gg (by omega)
      rw [a.2]
      exact ⟨by show (1 : Int) ≤ 1; omega, ⟨q0, hq0, r2, Or.inr (Or.inl ⟨rfl, by show qO q0 ≤ wd T F nw u.1 + d - d; omega, by show wd T F nw u.1 + d - d + 1 ≤ _; omega, r1⟩)⟩, fun _ => by show z1 ≤ wd T F nw u.1 + d; omega⟩
    · obtain ⟨q0, hq0, r1, r2, r3, r4⟩ := y2 a.1 a.2.1
      have := gg (by omega)
      rw [a.2.2]
      exact ⟨by show 1 ≤ T 8 u.1.toNat; omega, ⟨q0, hq0, r2, Or.inr (Or.inl ⟨rfl, by show qO q0 ≤ wd T F nw u.1 + d - d; omega, by show wd T F nw u.1 + d - d + T 8 u.1.toNat ≤ _; omega, r1⟩)⟩, fun _ => by show z1 ≤ wd T F nw u.1 + d; omega⟩
    · obtain ⟨q0, hq0, r1, r2, r3, r4⟩ := y3 a.1 a.2.1 a.2.2.1 a.2.2.2.1
      have := gg (by omega)
      rw [a.2.2.2.2]
      exact ⟨by show (1 : Int) ≤ 1; omega, ⟨q0, hq0, r2, Or.inr (Or.inl ⟨rfl, by show qO q0 ≤ wd T F nw u.1 + u.2.2.1 + d - d; omega, by show wd T F nw u.1 + u.2.2.1 + d - d + 1 ≤ _; omega, r1⟩)⟩, fun _ => by show z1 ≤ wd T F nw u.1 + u.2.2.1 + d; omega⟩
    · obtain ⟨q0, hq0, r1, r2, r3⟩ := y4 a.1
      have := gg (by omega)
      rw [a.2]
      exact ⟨by show (1 : Int) ≤ 1; omega, ⟨q0, hq0, r2, Or.inr (Or.inr (Or.inr (Or.inl ⟨rfl, by show qO q0 = wd T F nw u.1 + d - d; omega, r1⟩)))⟩, fun _ => by show z1 ≤ wd T F nw u.1 + d; omega⟩
    · obtain ⟨q0, hq0, r1, r2, r3⟩ := y5 a.1 a.2.1
      rw [a.2.2]
      exact ⟨by show (1 : Int) ≤ 1; omega, ⟨q0, hq0, r2, Or.inr (Or.inr (Or.inr (Or.inr ⟨rfl, r3, r1⟩)))⟩, fun w => absurd rfl w⟩
  have all : ∀ q ∈ dcp d (cCp c) ++ l, 1 ≤ qN q ∧ Prt (cCp c) d q ∧ (qK q ≠ 5 → z1 ≤ qO q) ∧ qK q ≠ 8 ∧ qK q ≠ 9 := fun q hq => by
    rcases mem q hq with ⟨q0, hq0, k, r⟩ | ⟨u, hu, r⟩
    · have a := (ab q0 hq0).2.2 (by omega)
      rw [r]
      refine ⟨hN q0 hq0, ⟨q0, hq0, rfl, ?_⟩, fun _ => by show z1 ≤ qO q0 + d; omega, by show qK q0 ≠ 8; omega, by show qK q0 ≠ 9; omega⟩
      rcases k with k | k
      · exact Or.inl ⟨k, by show qO q0 ≤ qO q0 + d - d; omega, by show qO q0 + d - d + qN q0 ≤ _; omega⟩
      · exact Or.inr (Or.inr (Or.inl ⟨k, by show qO q0 = qO q0 + d - d; omega, Int.le_refl _⟩))
    · obtain ⟨a, b, e⟩ := prt u hu q r
      refine ⟨a, b, e, ?_⟩
      obtain ⟨_, _, e, _⟩ := b
      obtain ⟨_, _, _, a⟩ := r
      rcases a with a | a | a | a | a
      · rw [a.2]; exact ⟨by show ¬ (2 : Int) = 8; decide, by show ¬ (2 : Int) = 9; decide⟩
      · rw [a.2.2]; exact ⟨by show ¬ (2 : Int) = 8; decide, by show ¬ (2 : Int) = 9; decide⟩
      · rw [a.2.2.2.2]; exact ⟨by show ¬ (2 : Int) = 8; decide, by show ¬ (2 : Int) = 9; decide⟩
      · rw [a.2]; exact ⟨by show ¬ (4 : Int) = 8; decide, by show ¬ (4 : Int) = 9; decide⟩
      · rw [a.2.2]; exact ⟨by show ¬ (5 : Int) = 8; decide, by show ¬ (5 : Int) = 9; decide⟩
  have hvs : ∀ s : Nat, V_q s → T 7 s ≠ 10 → V s := fun s hs k => by
    rcases hV' s hs with w | w
    · exact w
    · exact absurd w k
  refine ⟨dcp d (cCp c) ++ l, fun q hq => ⟨(all q hq).1, (all q hq).2.1⟩, fun q hq => ?_, ⟨fun s hs => ⟨fun k => ?_, fun k => ?_⟩, fun s al e b hs hu => ?_, fun q hq => ?_, Int.le_refl _, rfl, rfl, ⟨by omega, fun s hs k => ?_⟩, fun s hs k => e8 s (hvs s hs (by omega)) k⟩, ⟨fun s s_q hs hs_q ne k k_q => ?_, fun s hs k => ?_, fun s s_q hs hs_q ne us us' k1 k2 k3 k4 => ?_, ?_⟩, fun q hq => ⟨(all q hq).2.2.2.1, (all q hq).2.2.2.2, fun k5 => by have := (all q hq).2.2.1 k5; omega⟩⟩
  · rcases mem q hq with ⟨q0, hq0, k, r⟩ | ⟨u, hu, r⟩
    · rw [r]
      rcases k with k | k
      · exact Or.inl k
      · exact Or.inr (Or.inl k)
    · exact Or.inr (Or.inr ⟨u, hu, r⟩)
  · obtain ⟨q, hq, q1, q2, q3⟩ := (e1 s (hvs s hs (by omega))).1 k
    have w := hw s (hvs s hs (by omega)) (by omega)
    refine ⟨_, List.mem_append.mpr (Or.inl (dcp_i hq (Or.inl q1))), q1, ?_, ?_⟩
    · show qO q + d ≤ _
      omega
    · show _ ≤ qO q + d + qN q
      omega
  · obtain ⟨q, hq, q1, q2, q3⟩ := (e1 s (hvs s hs (by omega))).2 k
    have w := hw s (hvs s hs (by omega)) (by omega)
    refine ⟨_, List.mem_append.mpr (Or.inl (dcp_i hq (Or.inr q1))), q1, ?_, q3⟩
    show qO q + d = _
    omega
  · have put : ∀ q, V s → KcC T F nw V mk d ((s : Int), al, e, b) q → q ∈ dcp d (cCp c) ++ l := fun q _ r => List.mem_append.mpr (Or.inr (h2 _ hu q r))
    have es : ((s : Int)).toNat = s := by omega
    refine ⟨fun k => ?_, fun k al1 => ?_, fun k al1 y1 y2 => ?_, fun k => ?_, fun k1 k2 => ?_⟩
    · have vs := hvs s hs (by omega)
      have w := hw s vs (by omega)
      refine ⟨(2, wd T F nw (s : Int) + d, 1, b, r0), put _ vs ⟨by omega, by rw [es]; exact vs, hV s vs, Or.inl ⟨by rw [es]; exact k, rfl⟩⟩, sbt_r, rfl, ?_, ?_⟩
      · show wd T F nw (s : Int) + d ≤ _
        omega
      · show _ ≤ wd T F nw (s : Int) + d + 1
        omega
    · have vs := hvs s hs (by omega)
      have w := hw s vs (by omega)
      refine ⟨(2, wd T F nw (s : Int) + d, T 8 s, b, r0), put _ vs ⟨by omega, by rw [es]; exact vs, hV s vs, Or.inr (Or.inl ⟨by rw [es]; exact k, al1, by rw [es]⟩)⟩, sbt_r, rfl, ?_, ?_⟩
      · show wd T F nw (s : Int) + d ≤ _
        omega
      · show _ ≤ wd T F nw (s : Int) + d + T 8 s
        omega
    · have vs := hvs s hs (by omega)
      have w := hw s vs (by omega)
      refine ⟨(2, wd T F nw (s : Int) + e + d, 1, b, r0), put _ vs ⟨by omega, by rw [es]; exact vs, hV s vs, Or.inr (Or.inr (Or.inl ⟨by rw [es]; exact k, al1, y1, by rw [es]; exact y2, rfl⟩))⟩, sbt_r, rfl, ?_, ?_⟩
      · show wd T F nw (s : Int) + e + d ≤ _
        omega
      · show _ ≤ wd T F nw (s : Int) + e + d + 1
        omega
    · have vs := hvs s hs (by omega)
      have w := hw s vs (by omega)
      refine ⟨(4, wd T F nw (s : Int) + d, 1, b, r0), put _ vs ⟨by omega, by rw [es]; exact vs, hV s vs, Or.inr (Or.inr (Or.inr (Or.inl ⟨by rw [es]; exact k, rfl⟩)))⟩, sbt_r, rfl, ?_⟩
      show wd T F nw (s : Int) + d = _
      omega
    · have vs := hvs s hs (by omega)
      refine ⟨(5, adv T F nw (s : Int), 1, b, r0), put _ vs ⟨by omega, by rw [es]; exact vs, hV s vs, Or.inr (Or.inr (Or.inr (Or.inr ⟨by rw [es]; exact k1, by rw [es]; exact k2, rfl⟩)))⟩, sbt_r, rfl, ?_⟩
      show adv T F nw (s : Int) = _
      rw [advo s k1 k2]
  · by_cases k5 : qK q = 5
    · exact Or.inl k5
    · exact Or.inr (Or.inr ((all q hq).2.2.1 k5))
  · by_cases k10 : T 7 s = 10
    · omega
    · have vs := hvs s hs k10
      have w := hw s vs k
      have b := e7.2 s vs k
      omega
  · have vs := hvs s hs (by omega)
    have vs' := hvs s_q hs_q (by omega)
    have w := hw s vs (by omega)
    have w_q := hw s_q vs' (by omega)
    have := g1 s s_q vs vs' ne k k_q
    rw [w, w_q]
    unfold Ov at this ⊢
    omega
  · have vs := hvs s hs (by omega)
    have w := hw s vs (by omega)
    obtain ⟨x1, x2, x3, x4⟩ := g2 s vs k
    exact ⟨by omega, x2, x3, fun _ => Or.inr (by omega)⟩
  · have vs := hvs s hs (by omega)
    have vs' := hvs s_q hs_q (by omega)
    rw [advo s k1 k2, advo s_q k3 k4]
    obtain ⟨al, e, b, hu⟩ := us
    obtain ⟨al', e_q, b_q, hu'⟩ := us'
    exact g3 s s_q vs vs' ne ⟨al, e, b, hL ((s : Int), al, e, b) hu (hV s vs)⟩ ⟨al', e_q, b_q, hL ((s_q : Int), al', e_q, b_q) hu' (hV s_q vs')⟩ k1 k2 k3 k4
  · rcases g4 with g4 | g4
    · refine Or.inl (fun s hs k => g4 s (hvs s hs (by omega)) k)
    · refine Or.inr (fun s al e b hs hu => ?_)
      by_cases k10 : T 7 s = 10
      · exact Or.inl (by omega)
      · have vs := hvs s hs k10
        exact g4 s al e b vs (hL ((s : Int), al, e, b) hu (hV s vs))
