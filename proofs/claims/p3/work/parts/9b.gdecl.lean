/-! declared names; loops and rows of processes -/
def Ud (U : Int → Int → Int → Int → Prop) (s0 s1 : Int) : Int → Int → Int → Int → Prop := fun s al e b => U s al e b ∨ (s0 ≤ s ∧ s < s1)
theorem sbt_12 {b : Int} : sbt 12 b := ⟨fun _ => by decide, fun _ => by decide⟩
/-- names are declared: their words are data or channels then -/
theorem gN_g {T C : Nat → Nat → Int} {F : Int → Int} {nw N f s : Int} {V : Nat → Prop} {U : Int → Int → Int → Int → Prop} {P : Int → Cx → Prop} {c : Cx} (hE : En T F nw V U c f) (hs : 0 ≤ s) (hz : cZ c ≤ 4000) : ∀ {m : Nat} {k k_q : Int}, gN T C F nw s m k k_q → (∀ j : Nat, j < m → T 9 (s + (j : Int)).toNat = f + zS T s j ∧ T 10 (s + (j : Int)).toNat = nw) → wD T s (s + (m : Int)) → f + zS T s m ≤ cZ c → k_q ≤ N → (∀ l, En T F nw (Vd V s (s + (m : Int))) (Ud U s (s + (m : Int))) (sC c l) (f + zS T s m) → (∀ q ∈ cCp c, q ∈ l) → (∀ q ∈ l, q ∈ cCp c ∨ ((qK q = 1 ∨ qK q = 2) ∧ 1 ≤ qO q ∧ 1 ≤ qN q)) → Gd (Kc C) N P k_q (sC c l)) → Gd (Kc C) N P k c
  | 0, k, k_q, h, _, _, _, _, g => by
    have h : k_q = k := h
    subst h
    have := g (cCp c) ?_ (fun q hq => hq) (fun q hq => Or.inl hq)
    · exact this
    · obtain ⟨e1, e2, e3, e4, e5, e6, e7, e8⟩ := hE
      have v0 : ∀ x : Nat, Vd V s (s + ((0 : Nat) : Int)) x → V x := fun x hx => by
        rcases hx with q | q
        · exact q
        · omega
      refine ⟨fun x hx => e1 x (v0 x hx), fun x al e b hx hu => e2 x al e b (v0 x hx) (by rcases hu with q | q; exact q; omega), Bf_m (c := c) e3 (by show f ≤ f + 0; omega), by show 1 ≤ f + 0; omega, e5, e6, ⟨e7.1, fun x hx => e7.2 x (v0 x hx)⟩, fun x hx => e8 x (v0 x hx)⟩
  | m + 1, k, k_q, h, hd, wd', hz1, hk, g => by
    obtain ⟨a, h1, a1, h2, a2, h3, a3, h4, a4, h5, h6⟩ := h
    have h6 : k_q = a4 := h6
    subst h6
    obtain ⟨i1, i2, i3, i4⟩ := ST_k h2
    obtain ⟨j1, j2, j3, j4⟩ := ST_k h3
    obtain ⟨m1, m2, m3, m4⟩ := ST_k h4
    obtain ⟨n1, n2, n3, n4⟩ := ST_k h5
    have es : (((s + (m : Int)).toNat : Nat) : Int) = s + (m : Int) := by omega
    have wm := wd' (s + (m : Int)).toNat (by omega) (by omega)
    have zz : zS T s (m + 1) = zS T s m + T 8 (s + (m : Int)).toNat := rfl
    have hdm := hd m (by omega)
    have ew : wd T F nw (s + (m : Int)) = f + zS T s m := by
      unfold wd
      rw [hdm.1, hdm.2]
      omega
    refine gN_g hE hs hz h1 (fun j hj => hd j (by omega)) (fun x x1 x2 => wd' x x1 (by omega)) (by omega) (by omega) (fun l hl sub inc => ?_)
    have hr := En_r hl
    obtain ⟨ra, rb, rd, md, dw, bf, f1⟩ := hr
    have nm : cMd (sC c l) ≠ 1 := by omega
    rw [En_i hl]
    have n5 : ∀ (l : List Cp) (z w : Int), Sup l (5, z, w) := fun l z w q => absurd q (by show ¬ (5 : Int) = 3; decide)
    have n2' : ∀ (l : List Cp) (z w : Int), Sup l (2, z, w) := fun l z w q => absurd q (by show ¬ (2 : Int) = 3; decide)
    have dw' : cDw (sR (sC c l) r0 r0 r0) = 0 := dw
    refine Gs_d (Gs_psh (t := (5, kV (Kc C) a, 0)) i2 i1 (by omega) (Wf_m s0 s0 s0 nm) (Or.inl ⟨i3, Or.inl rfl⟩) (Gs_d (Gs_psh (t := (5, T 8 (s + (m : Int)).toNat, 0)) j2 j1 (by omega) (Wf_m (n5 _ _ _) s0 s0 nm) (Or.inl ⟨j3, Or.inl (by rw [j4])⟩) (Gs_d (Gs_psh (t := (2, f + zS T s m, 1)) m2 m1 (by omega) (Wf_m (n5 _ _ _) (n5 _ _ _) s0 nm) (Or.inr (Or.inl ⟨m3, dw', by rw [m4, ew]⟩)) (Gs_d ?_))))))
    generalize hq : (if T 7 (s + (m : Int)).toNat = 3 ∨ T 7 (s + (m : Int)).toNat = 4 then ((2, f + zS T s m, T 8 (s + (m : Int)).toNat, 12, r0) : Cp) else (1, f + zS T s m, T 8 (s + (m : Int)).toNat, 0, r0)) = q0
    have q0f : qO q0 = f + zS T s m ∧ qN q0 = T 8 (s + (m : Int)).toNat ∧ wN q0 = T 8 (s + (m : Int)).toNat ∧ ((T 7 (s + (m : Int)).toNat = 3 ∨ T 7 (s + (m : Int)).toNat = 4) → qK q0 = 2 ∧ qU q0 = 12) ∧ (¬ (T 7 (s + (m : Int)).toNat = 3 ∨ T 7 (s + (m : Int)).toNat = 4) → qK q0 = 1) ∧ (qK q0 = 1 ∨ qK q0 = 2) := by
      rw [← hq]
      split
      · exact ⟨rfl, rfl, by unfold wN; rw [if_pos (Or.inr rfl)], fun _ => ⟨rfl, rfl⟩, fun q => absurd (by assumption) q, Or.inr rfl⟩
      · exact ⟨rfl, rfl, by unfold wN; rw [if_pos (Or.inl rfl)], fun q => absurd q (by assumption), fun _ => rfl, Or.inl rfl⟩
    refine Gs_fil (q := q0) n2 n1 hk (Wf_m (n2' _ _ _) (n5 _ _ _) (n5 _ _ _) nm) n3 n4 md rfl rfl rfl (by omega) wm.2.2.1 (Bf_f (c := sC c l) bf f1 (Int.le_refl _) (by show f + zS T s m + T 8 (s + (m : Int)).toNat ≤ cZ c; omega) (by omega)) ?_ ?_
    · rw [i4]
      by_cases k34 : T 7 (s + (m : Int)).toNat = 3 ∨ T 7 (s + (m : Int)).toNat = 4
      · rw [if_pos k34] at hq ⊢
        exact Or.inr ⟨rfl, hq.symm⟩
      · rw [if_neg k34] at hq
        exact Or.inl hq.symm
    · have fin := g (q0 :: l) ?_ (fun q hq_q => List.mem_cons_of_mem _ (sub q hq_q)) (fun q hq_q => ?_)
      · have e0 := En_i hl
        have e1 : sC (a0 (sR (sR (sR (sR (sC c l) r0 r0 r0) (5, kV (Kc C) a, 0) r0 r0) (5, T 8 (s + (m : Int)).toNat, 0) (5, kV (Kc C) a, 0) r0) (2, f + zS T s m, 1) (5, T 8 (s + (m : Int)).toNat, 0) (5, kV (Kc C) a, 0))) (q0 :: l) = sC (sR (sC c l) r0 r0 r0) (q0 :: l) := rfl
        show Gd (Kc C) N P k_q (sC (sR (sC c l) r0 r0 r0) (q0 :: l))
        rw [← e0]
        exact fin
      · obtain ⟨e1, e2, e3, e4, e5, e6, e7, e8⟩ := hl
        have up : ∀ {R : Cp → Prop}, (∃ q ∈ cCp (sC c l), R q) → ∃ q ∈ cCp (sC c (q0 :: l)), R q := fun {R} ⟨q, hq_q, r⟩ => ⟨q, List.mem_cons_of_mem _ hq_q, r⟩
        have vs : ∀ x : Nat, Vd V s (s + ((m + 1 : Nat) : Int)) x → (x : Int) = s + (m : Int) ∨ Vd V s (s + (m : Int)) x := fun x hx => by
          rcases hx with q | q
          · exact Or.inr (Or.inl q)
          · by_cases w : (x : Int) = s + (m : Int)
            · exact Or.inl w
            · exact Or.inr (Or.inr ⟨q.1, by omega⟩)
        have xn : ∀ x : Nat, (x : Int) = s + (m : Int) → x = (s + (m : Int)).toNat := fun x q => by omega
        refine ⟨fun x hx => ?_, fun x al e b hx hu => ?_, fun q hq_q => ?_, by omega, e5, e6, ⟨e7.1, fun x hx kx => ?_⟩, fun x hx kx8 => ?_⟩
        · rcases vs x hx with w | w
          · have := xn x w
            subst this
            refine ⟨fun kx => ⟨q0, List.mem_cons_self, q0f.2.2.2.2.1 (by omega), ?_, ?_⟩, fun kx => by omega⟩
            · rw [w, ew]
              omega
            · rw [w, ew]
              omega
          · exact ⟨fun kx => up ((e1 x w).1 kx), fun kx => up ((e1 x w).2 kx)⟩
        · by_cases w : (x : Int) = s + (m : Int)
          · have := xn x w
            subst this
            have c0 : ∀ (_ : T 7 (s + (m : Int)).toNat = 3 ∨ T 7 (s + (m : Int)).toNat = 4), sbt (qU q0) b ∧ qK q0 = 2 := fun kx => by
              obtain ⟨y1, y2⟩ := q0f.2.2.2.1 kx
              rw [y2]
              exact ⟨sbt_12, y1⟩
            rw [w, ew]
            refine ⟨fun kx => ⟨q0, List.mem_cons_self, (c0 (Or.inl kx)).1, (c0 (Or.inl kx)).2, by omega, by omega⟩, fun kx _ => ⟨q0, List.mem_cons_self, (c0 (Or.inr kx)).1, (c0 (Or.inr kx)).2, by omega, by omega⟩, fun kx _ y1 y2 => ⟨q0, List.mem_cons_self, (c0 (Or.inr kx)).1, (c0 (Or.inr kx)).2, by omega, by omega⟩, fun kx => by omega, fun kx _ => by omega⟩
          · have hv : Vd V s (s + (m : Int)) x := by
              rcases vs x hx with q | q
              · exact absurd q w
              · exact q
            have hu' : Ud U s (s + (m : Int)) (x : Int) al e b := by
              rcases hu with q | q
              · exact Or.inl q
              · exact Or.inr ⟨q.1, by omega⟩
            obtain ⟨y1, y2, y3, y4, y5⟩ := e2 x al e b hv hu'
            exact ⟨fun kx => up (y1 kx), fun kx z => up (y2 kx z), fun kx z z1 z2 => up (y3 kx z z1 z2), fun kx => up (y4 kx), fun kx z => up (y5 kx z)⟩
        · rcases List.mem_cons.mp hq_q with e | hq_q
          · rw [e]
            exact Or.inr (Or.inl (by omega))
          · rcases e3 q hq_q with z | z | z
            · exact Or.inl z
            · exact Or.inr (Or.inl (by omega))
            · exact Or.inr (Or.inr z)
        · rcases vs x hx with w | w
          · have := e7.1
            rw [w, ew]
            omega
          · exact e7.2 x w kx
        · rcases vs x hx with w | w
          · have := xn x w
            subst this
            refine ⟨by omega, wm.2.2.2.1, fun kx => ?_⟩
            have := wm.2.2.2.2
            omega
          · exact e8 x w kx8
      · rcases List.mem_cons.mp hq_q with e | hq_q
        · rw [e]
          exact Or.inr ⟨q0f.2.2.2.2.2, by omega, by omega⟩
        · exact inc q hq_q
