/-! PAR keeps the rules: the whole -/
theorem wN_7 {o n u : Int} {r : Rt} : wN (7, o, n, u, r) = 1 := by
  unfold wN
  rw [if_neg (show ¬ ((7 : Int) = 1 ∨ (7 : Int) = 2) by decide), if_neg (show ¬ (7 : Int) = 5 by decide)]
theorem gPa_g {T C : Nat → Nat → Int} {F S : Int → Int} {nw N : Int} {V : Nat → Prop} {U : Us} {P : Int → Cx → Prop} {R : (Int → Int) → (Int → Int) → Int → Int → Int → Int → Int → Int → Prop} {c : Cx} {p f mk k k_q l0 l1 : Int} {L : Nat → List (Int × Int × Int × Int)} (hE : En T F nw V U c f) (hG : Eg T F nw V U (cZ c) f) (ab : Abv c) (hN : ∀ q ∈ cCp c, 1 ≤ qN q) (hn : T 25 p.toNat = f) (hz : f + 3 ≤ cZ c) (hDm : cD c ≤ 4000) (hnw : nw + 1 ≤ 100) (m1 : 1 ≤ mny T p) (m2 : T 15 p.toNat ≠ 29 → 2 ≤ mny T p) (h0 : 0 ≤ l0)
    (hk26 : ∀ j : Nat, (j : Int) < mny T p → 1 ≤ T 26 (kid T p j).toNat ∧ 0 ≤ T 27 (kid T p j).toNat ∧ 3 ≤ dpt T p j ∧ dpt T p j + T 26 (kid T p j).toNat + T 27 (kid T p j).toNat + 3 ≤ cD c) (h29 : T 15 p.toNat = 29 → T 7 (T 17 p.toNat).toNat = 10) (hV : ∀ s : Nat, V s → (s : Int) < mk) (hVW : ∀ s : Nat, V s → T 7 s ≤ 9 → T 10 s ≤ nw)
    (hL : ∀ i : Nat, (i : Int) < mny T p → ∀ u ∈ L i, u.1 < mk → U u.1 u.2.1 u.2.2.1 u.2.2.2) (hNC : ∀ i j : Nat, (i : Int) < mny T p → (j : Int) < mny T p → i ≠ j → ∀ u ∈ L i, ∀ w ∈ L j, u.1 = w.1 → u.1 < mk → (u.2.1 = 1 ∨ w.2.1 = 1 ∨ u.2.2.1 = w.2.2.1 ∨ T 7 u.1.toNat ≠ 4) → NC u.2.2.2 w.2.2.2)
    (h : gPa T C R F S nw p k k_q l0 l1) (hk : k_q ≤ N) (hle : ∀ F S nw c a b u v, R F S nw c a b u v → a ≤ b)
    (hR : ∀ j : Nat, (j : Int) < mny T p → ∀ ci : Cx, En T (fB T F nw p j) (nw + 1) (vB T V p) (fun s al e b => (s, al, e, b) ∈ L j) ci 1 → Eg T (fB T F nw p j) (nw + 1) (vB T V p) (fun s al e b => (s, al, e, b) ∈ L j) (cZ ci) 1 → Abv ci → (∀ q ∈ cCp ci, 1 ≤ qN q) → cZ ci = T 26 (kid T p j).toNat → cD ci = T 27 (kid T p j).toNat → ∀ a b u v, R (fB T F nw p j) (sB T S p j) (nw + 1) (kid T p j) a b u v → b ≤ N → Gd (Kc C) N P b ci → Gd (Kc C) N P a ci) (g : Gd (Kc C) N P k_q c) : Gd (Kc C) N P k c := by
  obtain ⟨La, le, a, b, n1, n2, _, _, _, ⟨p0, _, _, p1⟩, ⟨x, y, n3, _, _, h1, ⟨s1, q1, s2, q2, s3, q3, s4, q4, s5, q5, q6⟩, h3⟩, h4, h5⟩ := h
  have q6 : y = s5 := q6
  subst q6
  rw [hn] at q1 q3 q5
  generalize hm : (mny T p).toNat = m at h3 h5
  have em : (m : Int) = mny T p := by omega
  obtain ⟨a1, a2, a3, a4⟩ := ST_k q1
  obtain ⟨b1, b2, b3, b4⟩ := ST_k q2
  obtain ⟨c1, c2, c3, c4⟩ := ST_k q3
  obtain ⟨d1, d2, d3, d4⟩ := ST_k q4
  obtain ⟨e1, e2, e3, e4⟩ := ST_k q5
  obtain ⟨f1, f2, f3, f4⟩ := ST_k h4
  have l3 := (gB1_le h3).1
  have l5 := (gB2_le hle h5).1
  have LaP : ∀ j : Nat, j < m → 0 < La (j : Int) := by
    intro j hj
    have : ∀ {i : Nat} {k k_q l0 l1 : Int}, 0 ≤ l0 → gB1 T C La p i k k_q l0 l1 → ∀ j : Nat, j < i → 0 < La (j : Int) := by
      intro i
      induction i with
      | zero => intro k k_q l0 l1 _ _ j hj; omega
      | succ i ih =>
        intro k k_q l0 l1 hl h j hj
        obtain ⟨_, _, mm, z1, z2, z3, z4, _⟩ := h
        by_cases e : j = i
        · subst e
          omega
        · exact ih hl z4 j (by omega)
    exact this (by omega) h3 j hj
  obtain ⟨ra, rb, rd, md, dw, bf, ff⟩ := En_r hE
  have nm : cMd c ≠ 1 := by omega
  have e7 := hE.2.2.2.2.2.2.1
  -- the branches' contexts
  have ex : ∀ j : Nat, ∃ ci : Cx, j < m → (∀ q ∈ cCp ci, 1 ≤ qN q ∧ Prt (cCp c) (dpt T p j + T 26 (kid T p j).toNat) q) ∧ (∀ q ∈ cCp ci, qK q = 1 ∨ qK q = 3 ∨ ∃ u ∈ L j, KcC T F nw V mk (dpt T p j + T 26 (kid T p j).toNat) u q) ∧ En T (fB T F nw p j) (nw + 1) (vB T V p) (fun s al e b => (s, al, e, b) ∈ L j) ci 1 ∧ Eg T (fB T F nw p j) (nw + 1) (vB T V p) (fun s al e b => (s, al, e, b) ∈ L j) (cZ ci) 1 ∧ Abv ci ∧ ci.1 = (2, f + (dpt T p j + T 26 (kid T p j).toNat), T 26 (kid T p j).toNat, T 27 (kid T p j).toNat, 0) ∧ ci.2.2 = ((r0, r0, r0), (0, [], [])) := fun j => by
    by_cases hj : j < m
    · have k26 := hk26 j (by omega)
      obtain ⟨l, r1, r2, r3, r4, r5⟩ := brc (F_q := fB T F nw p j) (V_q := vB T V p) (mk := mk) (d := dpt T p j + T 26 (kid T p j).toNat) (z1 := T 26 (kid T p j).toNat) (D1 := T 27 (kid T p j).toNat) (pd := f + (dpt T p j + T 26 (kid T p j).toNat)) (L := L j) hE hG ab hN (by omega) (by omega) k26.1 hnw (hL j (by omega)) hV (fun s hs => by
        rcases hs with q | q
        · exact Or.inl q
        · refine Or.inr ?_
          have := h29 q.1
          rw [← q.2] at this
          exact this) (fun s hs ks => by
        have := hVW s hs ks
        unfold wd
        have es : ((s : Int)).toNat = s := by omega
        rw [es]
        have x1 : fB T F nw p j (T 10 s) = F (T 10 s) := if_neg (by omega)
        have x2 : fB T F nw p j (nw + 1) = F nw - dpt T p j - T 26 (kid T p j).toNat := if_pos rfl
        rw [x1, x2]
        omega)
      exact ⟨_, fun _ => ⟨r1, r2, r3, r4, r5, rfl, rfl⟩⟩
    · exact ⟨c, fun q => absurd q hj⟩
  obtain ⟨ci, hci⟩ := Classical.axiomOfChoice ex
  have kids := gB2_g (P := P) (N := N) (m := m) (ci := ci) hle (fun j hj => by
    obtain ⟨_, _, _, _, _, z1, z2⟩ := hci j hj
    exact ⟨by rw [cEk, z1], by rw [cPd, z1, hn], by rw [cDw, z1], z2⟩) (fun j hj => by
    obtain ⟨z0, _, z3, z4, z5, z1, z2⟩ := hci j hj
    exact hR j (by omega) (ci j) z3 z4 z5 (fun q hq => (z0 q hq).1) (by rw [cZ, z1]) (by rw [cD, z1])) h5 (Nat.le_refl _) hk
  generalize hks : (List.range m).map (fun j => (dpt T p j + T 26 (kid T p j).toNat, C 50 (La (j : Int)).toNat, ci j)) = ks
  have ksl : (ks.length : Int) = mny T p := by
    rw [← hks, List.length_map, List.length_range]
    exact em
  have ksm : ks.map (fun k => (k.1, k.2.1)) = (List.range m).map (fun j => (dpt T p j + T 26 (kid T p j).toNat, C 50 (La (j : Int)).toNat)) := by
    rw [← hks, List.map_map]
    rfl
  have ksi : ∀ k ∈ ks, ∃ j : Nat, j < m ∧ k = (dpt T p j + T 26 (kid T p j).toNat, C 50 (La (j : Int)).toNat, ci j) := fun k hk => by
    rw [← hks] at hk
    obtain ⟨j, hj, r⟩ := List.mem_map.mp hk
    exact ⟨j, List.mem_range.mp hj, r.symm⟩
  have kds : Kds c f ks := by
    refine ⟨fun k hk => ?_, ?_⟩
    · obtain ⟨j, hj, r⟩ := ksi k hk
      obtain ⟨z0, _, z3, z4, z5, z1, z2⟩ := hci j hj
      have k26 := hk26 j (by omega)
      rw [r]
      refine ⟨by show (ci j).1.1 = 2; rw [z1], by show (ci j).1.2.1 = f + (dpt T p j + T 26 (kid T p j).toNat); rw [z1], by show (ci j).1.2.2.2.2 = 0; rw [z1], by show 1 ≤ (ci j).1.2.2.1; rw [z1]; exact k26.1, by show 0 ≤ (ci j).1.2.2.2.1; rw [z1]; exact k26.2.1, ?_, ?_, z2, z0⟩
      · show (ci j).1.2.2.1 + 3 ≤ dpt T p j + T 26 (kid T p j).toNat
        rw [z1]
        show T 26 (kid T p j).toNat + 3 ≤ _
        omega
      · show dpt T p j + T 26 (kid T p j).toNat + (ci j).1.2.2.2.1 ≤ cD c
        rw [z1]
        show dpt T p j + T 26 (kid T p j).toNat + T 27 (kid T p j).toNat ≤ cD c
        omega
    · rw [← hks]
      refine List.pairwise_map.mpr (List.Pairwise.imp_of_mem (fun {i j} hi hj hlt => ?_) List.pairwise_lt_range)
      have hi := List.mem_range.mp hi
      have hj := List.mem_range.mp hj
      obtain ⟨z0, z6, _, _, _, z1, _⟩ := hci i hi
      obtain ⟨y0, y6, _, _, _, y1, _⟩ := hci j hj
      have dl := dpt_le (T := T) (p := p) (j := j) (i := i) (fun k hk => ⟨by have := hk26 k (by omega); omega, by have := hk26 k (by omega); omega⟩) hlt
      refine ⟨?_, fun q hq s hs => ?_⟩
      · show dpt T p i + T 26 (kid T p i).toNat + 3 + (ci i).1.2.2.2.1 ≤ dpt T p j + T 26 (kid T p j).toNat - (ci j).1.2.2.1
        rw [z1, y1]
        show dpt T p i + T 26 (kid T p i).toNat + 3 + T 27 (kid T p i).toNat ≤ dpt T p j + T 26 (kid T p j).toNat - T 26 (kid T p j).toNat
        omega
      · rcases z6 q hq with kq | kq | ⟨u, hu, ku⟩
        · exact fun w _ => by omega
        · exact fun w _ => by omega
        · rcases y6 s hs with kq | kq | ⟨v, hv, kv⟩
          · exact fun _ w => by omega
          · exact fun _ w => by omega
          · exact Kc_frn hG ku kv (hL i (by omega) u hu ku.2.2.1) (hL j (by omega) v hv kv.2.2.1) (fun x1 x2 => hNC i j (by omega) (by omega) (by omega) u hu v hv x1 ku.2.2.1 x2)
  -- the steps
  have n5 : ∀ (l : List Cp) (z w : Int), Sup l (5, z, w) := fun l z w q => absurd q (by show ¬ (5 : Int) = 3; decide)
  have n6 : ∀ (l : List Cp) (z w : Int), Sup l (6, z, w) := fun l z w q => absurd q (by show ¬ (6 : Int) = 3; decide)
  have ec := En_i hE
  have bfz : ∀ q ∈ cCp c, qK q = 5 ∨ qO q + wN q ≤ f ∨ cZ c ≤ qO q := bf
  have fre : ∀ (l : List Cp) (o : Int) (x y z : Rt), f ≤ o → o + 1 ≤ cZ c → (∀ q ∈ l, q ∈ cCp c ∨ (qO q + 1 ≤ o ∧ wN q = 1)) → Fre (sR (sC c l) x y z) o 1 := fun l o x y z o1 o2 hl => ⟨Or.inl ⟨by omega, o2⟩, fun q hq => by
    rcases hl q hq with w | w
    · rcases bfz q w with r | r | r
      · exact Or.inl r
      · refine Or.inr (fun v => ?_)
        unfold Ov at v
        omega
      · refine Or.inr (fun v => ?_)
        unfold Ov at v
        omega
    · refine Or.inr (fun v => ?_)
      unfold Ov at v
      omega⟩
  rw [ec]
  refine Gs_d (PL_g (X := sR c r0 r0 r0) h1 p0 (by omega) (fun a b d t1 t2 t3 => Wf_m t1 t2 t3 nm) s0 s0 s0 ?_)
  rw [p1]
  refine Gs_d (Gs_stl (l := (7, f, 1, kP (Kc C) k_q, r0) :: cCp c) a2 a1 (by omega) (Wf_m (n5 _ _ _) s0 s0 nm) a3 dw md (Or.inr ⟨by rw [a4]; exact fre (cCp c) f _ _ _ (Int.le_refl _) (by omega) (fun q hq => Or.inl hq), Or.inr (Or.inr (Or.inr (Or.inr (Or.inr ⟨rfl, by rw [a4]; rfl⟩))))⟩) ?_)
  refine Gs_d (Gs_psh (t := (5, mny T p, 0)) b2 b1 (by omega) (Wf_m s0 s0 s0 nm) (Or.inl ⟨b3, Or.inl (by rw [b4])⟩) ?_)
  refine Gs_d (Gs_stl (l := (7, f + 1, 1, mny T p, r0) :: (7, f, 1, kP (Kc C) k_q, r0) :: cCp c) c2 c1 (by omega) (Wf_m (n5 _ _ _) s0 s0 nm) c3 dw md (Or.inr ⟨?_, Or.inr (Or.inr (Or.inr (Or.inr (Or.inr ⟨rfl, by rw [c4]; rfl⟩))))⟩) ?_)
  · rw [c4]
    refine fre ((7, f, 1, kP (Kc C) k_q, r0) :: cCp c) (f + 1) _ _ _ (by omega) (by omega) (fun q hq => ?_)
    rcases List.mem_cons.mp hq with e | hq
    · rw [e]
      exact Or.inr ⟨by show f + 1 ≤ f + 1; omega, wN_7⟩
    · exact Or.inl hq
  refine Gs_d (Gs_psh (t := (6, 0, 0)) d2 d1 (by omega) (Wf_m s0 s0 s0 nm) (Or.inr (Or.inr (Or.inr ⟨d3, d4, dw, rfl⟩))) ?_)
  generalize hX : sR (sC (sR (sR (sC (sR (sR (sR c r0 r0 r0) (5, kP (Kc C) k_q, 0) r0 r0) r0 r0 r0) ((7, f, 1, kP (Kc C) k_q, r0) :: cCp c)) (5, mny T p, 0) r0 r0) r0 r0 r0) ((7, f + 1, 1, mny T p, r0) :: (7, f, 1, kP (Kc C) k_q, r0) :: cCp c)) (6, 0, 0) r0 r0 = X
  have X1 : X = (c.1, (7, f + 1, 1, mny T p, r0) :: (7, f, 1, kP (Kc C) k_q, r0) :: cCp c, ((6, 0, 0), r0, r0), c.2.2.2) := by
    rw [← hX]
    rfl
  show Gd (Kc C) N P s4 (sR (sC (sR (sR (sC (sR (sR (sR c r0 r0 r0) (5, kP (Kc C) k_q, 0) r0 r0) r0 r0 r0) ((7, f, 1, kP (Kc C) k_q, r0) :: cCp c)) (5, mny T p, 0) r0 r0) r0 r0 r0) ((7, f + 1, 1, mny T p, r0) :: (7, f, 1, kP (Kc C) k_q, r0) :: cCp c)) (6, 0, 0) r0 r0)
  rw [hX, X1]
  have wk : Wkr c (a0 (c.1, (7, f + 1, 1, mny T p, r0) :: (7, f, 1, kP (Kc C) k_q, r0) :: cCp c, ((6, 0, 0), r0, r0), c.2.2.2)) := ⟨rfl, Or.inr ⟨fun q hq => List.mem_cons_of_mem _ (List.mem_cons_of_mem _ hq), fun q hq => ⟨(ab q hq).1, (ab q hq).2.1, fun k3 => (ab q hq).2.2 (by omega)⟩⟩, Or.inr ra, Or.inr rb, Or.inr rd, rfl, by rw [ra]; exact s0, by rw [rb]; exact s0, by rw [rd]; exact s0, fun _ _ q => absurd q nm⟩
  have fr2 : Fre (c.1, (7, f + 1, 1, mny T p, r0) :: (7, f, 1, kP (Kc C) k_q, r0) :: cCp c, ((6, 0, 0), r0, r0), c.2.2.2) (f + 2) 1 := by
    refine fre ((7, f + 1, 1, mny T p, r0) :: (7, f, 1, kP (Kc C) k_q, r0) :: cCp c) (f + 2) (6, 0, 0) r0 r0 (by omega) (by omega) (fun q hq => ?_)
    rcases List.mem_cons.mp hq with e | hq
    · rw [e]
      exact Or.inr ⟨by show f + 1 + 1 ≤ f + 2; omega, wN_7⟩
    · rcases List.mem_cons.mp hq with e | hq
      · rw [e]
        exact Or.inr ⟨by show f + 1 ≤ f + 2; omega, wN_7⟩
      · exact Or.inl hq
  have ov : ∀ q ∈ cCp c, qK q = 5 ∨ ¬ Ov f 3 (qO q) (wN q) := fun q hq => by
    rcases bfz q hq with r | r | r
    · exact Or.inl r
    · refine Or.inr (fun v => ?_)
      unfold Ov at v
      omega
    · refine Or.inr (fun v => ?_)
      unfold Ov at v
      omega
  have ph : Gd (Kc C) N P y (phx c ((List.range m).map (fun j => (dpt T p j + T 26 (kid T p j).toNat, C 50 (La (j : Int)).toNat))) f) := by
    refine gB1_g (c := c) (w := f) (m := m) dw (fun q => by have := m2 q; omega) LaP h3 (Nat.le_refl _) (by omega) ?_
    have ed : ((List.range m).map (fun j => (dpt T p j + T 26 (kid T p j).toNat, C 50 (La (j : Int)).toNat))).drop m = [] := by
      rw [List.drop_eq_nil_iff, List.length_map, List.length_range]
      exact Nat.le_refl _
    rw [ed]
    exact Gs_d (Gs_sph f2 (by omega) (phx_w r0 r0 r0 s0 s0 s0) f3 f4 rfl rfl)
  refine Gs_d ⟨e2, by omega, _, (k_q, c) :: (s4 + 1, sM (sC (a0 (c.1, (7, f + 1, 1, mny T p, r0) :: (7, f, 1, kP (Kc C) k_q, r0) :: cCp c, ((6, 0, 0), r0, r0), c.2.2.2)) []) (2, ks.map (fun k => (k.1, k.2.1)), [f])) :: ks.map (fun k => (k.2.1, k.2.2)), Wkr_r (Wf_m (n6 _ _ _) s0 s0 nm), Or.inr (Or.inr (Or.inr (Or.inr (Or.inr (Or.inr (Or.inr (Or.inr (Or.inr (Or.inr (Or.inr (Or.inr (Or.inr (Or.inr (Or.inr (Or.inr (Or.inl (⟨e3, dw, md, f, k_q, c, ks, e4, ff, hz, rfl, fr2, ⟨_, List.mem_cons_of_mem _ List.mem_cons_self, rfl, rfl, rfl⟩, ⟨_, List.mem_cons_self, rfl, rfl, ksl.symm⟩, wk, ab, ov, kds, rfl⟩))))))))))))))))), fun s hs => ?_⟩
  rcases List.mem_cons.mp hs with e | hs
  · rw [e]
    exact g
  · rcases List.mem_cons.mp hs with e | hs
    · rw [e, ksm]
      show Gd (Kc C) N P (s4 + 1) _
      rw [← e1]
      exact ph
    · obtain ⟨k0, hk0, r⟩ := List.mem_map.mp hs
      obtain ⟨j, hj, r2⟩ := ksi k0 hk0
      rw [← r, r2]
      exact kids j hj
