/-! COMPILE: from what was read, measured, checked and written to what a begin needs -/
def tq : List Nat := [7, 8, 12, 15, 17, 18, 19, 20, 21, 22, 23, 24, 29, 30, 31, 34, 35, 36]
theorem tq_sr {A A_q : Nat → Nat → Int} {w : Int} (e : ∀ k : Nat, tq.elem k = true → A_q k = A k) : Fx sr w A A_q := fun k j hk _ => by
  have hk := List.elem_iff.mp hk
  simp only [sr, List.mem_cons, List.not_mem_nil, or_false] at hk
  rcases hk with rfl | rfl | rfl
  · rw [e 7 rfl]
  · rw [e 8 rfl]
  · rw [e 12 rfl]
theorem tq_ag {A A_q : Nat → Nat → Int} {lo hi : Int} (e : ∀ k : Nat, tq.elem k = true → A_q k = A k) : Ag lo hi A A_q := fun k j hk _ _ => by
  have hk := List.elem_iff.mp hk
  simp only [wr, List.mem_cons, List.not_mem_nil, or_false] at hk
  rcases hk with rfl | rfl | rfl | rfl | rfl | rfl | rfl | rfl | rfl
  · rw [e 15 rfl]
  · rw [e 17 rfl]
  · rw [e 18 rfl]
  · rw [e 19 rfl]
  · rw [e 20 rfl]
  · rw [e 21 rfl]
  · rw [e 22 rfl]
  · rw [e 23 rfl]
  · rw [e 24 rfl]
theorem tq_qg {A A_q : Nat → Nat → Int} {pb : Int} (e : ∀ k : Nat, tq.elem k = true → A_q k = A k) : Qg pb A A_q := fun k j hk _ => by
  have hk := List.elem_iff.mp hk
  simp only [List.mem_cons, List.not_mem_nil, or_false] at hk
  rcases hk with rfl | rfl
  · rw [e 29 rfl]
  · rw [e 30 rfl]
theorem tq_fr {A A_q : Nat → Nat → Int} {G G_q : Nat → Int} {gs as : List Nat} (hF : Fr gs as G A G_q A_q) (hd : tq.all (fun k => !as.elem k) = true) (k : Nat) (hk : tq.elem k = true) : A_q k = A k := by
  have e : as.elem k = false := by
    have := List.all_eq_true.mp hd k (List.elem_iff.mp hk)
    simpa using this
  exact hF.2 k e
theorem wQ_e {A A_q : Nat → Nat → Int} (e : ∀ k : Nat, tq.elem k = true → A_q k = A k) : ∀ {q : Nat} {hi s1 : Int}, wQ A q hi s1 → wQ A_q q hi s1
  | 0, _, _, h => h
  | q + 1, hi, s1, h => by
    obtain ⟨lo, s0, V, h1, h2, h3, h4, h5, h6, h7, h8, h9, h10, h11, h12, h13⟩ := h
    refine ⟨lo, s0, V, wQ_e e h1, h2, h3, h4, ?_⟩
    rw [e 29 rfl, e 30 rfl, e 31 rfl, e 7 rfl, e 12 rfl]
    refine ⟨h5, h6, h7, h8, h9, h10, wM_fx (w := s1) (tq_sr e) (by omega) (by omega) h11, fun s hs => ?_, ?_⟩
    · rcases h12 s hs with g | g | g
      · exact .inl (k01_fx (w := 2) (tq_sr e) g.1 g)
      · exact .inr (.inl g)
      · exact .inr (.inr g)
    · exact wP_ag (tq_sr e) (tq_qg e) (by omega) (Int.le_refl _) (Ax_ag (tq_ag e)) h13
theorem wB_e {A A_q : Nat → Nat → Int} {V : Nat → Prop} {pb lo hi s0 s1 : Int} (e : ∀ k : Nat, tq.elem k = true → A_q k = A k) (h0 : 0 ≤ lo) (h : wB A V pb lo hi s0 s1) : wB A_q V pb lo hi s0 s1 := by
  obtain ⟨l, h1, h2, h3, h4⟩ := h
  refine ⟨l, h1, ?_, ?_, ?_⟩
  · rw [e 36 rfl]
    exact h2
  · rw [e 36 rfl]
    exact h3
  · rw [e 36 rfl]
    exact wCs_im2 (fun p _ a b u v g1 g2 g3 g4 w => wP_ag (tq_sr e) (tq_qg e) (by omega) (Int.le_refl _) (Ax_ag (tq_ag e)) w) (Int.le_refl _) (Int.le_refl _) h4
theorem TT_e {A A_q : Nat → Nat → Int} {q hi sy lk : Int} (e : ∀ k : Nat, tq.elem k = true → A_q k = A k) (h : TT A q hi sy lk) : TT A_q q hi sy lk := by
  obtain ⟨V, lo, s0, t0, e1, e2, e3, e4, e5, e6, e7, e8⟩ := h
  have l := wQ_le e6
  refine ⟨V, lo, s0, t0, e1, e2, e3, e4, VL_fx (w := s0) (tq_sr e) (Int.le_refl _) e5, wQ_e e e6, fun k hk => ?_, wB_e e (by omega) e8⟩
  have := e7 k hk
  unfold LK at this ⊢
  rw [e 7 rfl, e 12 rfl, e 34 rfl, e 35 rfl]
  exact this
/-- what checkUses asks for -/
theorem CU_of {T : Nat → Nat → Int} {nd pc sy lk : Int} (h : TT T pc nd sy lk) (hpc : 0 ≤ pc) (hsy : sy ≤ 202) (hlk : lk ≤ 12) (ix : Ix3 T nd) (hn : nd + 5 * ecn T nd ≤ 6055) : ∃ (VF : Int → Nat → Prop) (LO HI S0 S1 : Int → Int) (FF : Int → Int → Int → Int → Prop) (VG : Int → Nat → Prop) (LP HP S2 S3 : Int → Int) (FG : Int → Int → Int → Int → Prop), CUs T nd pc VF LO HI S0 S1 FF ∧ CUt T nd pc VG LP HP S2 S3 FG := by
  obtain ⟨V, lo, s0, t0, e1, e2, e3, e4, e5, e6, e7, e8⟩ := h
  obtain ⟨Lx, Sx, g1, g2, g3⟩ := wQ_cw e6
  have ll := wQ_le e6
  have lb := wB_le e8
  rw [show ((pc.toNat : Nat) : Int) = pc by omega] at g3
  have exq : ∀ q : Int, ∃ x : (Nat → Prop) × Int × Int × Int × Int × (Int → Int → Int → Prop), 0 ≤ q → q < pc → Rq T nd q x.1 x.2.1 x.2.2.1 x.2.2.2.1 x.2.2.2.2.1 x.2.2.2.2.2 := fun q => by
    by_cases qq : 0 ≤ q ∧ q < pc
    · obtain ⟨Vq, qv, a1, a2, a3, a4, a5, a6, a7, a8, a9⟩ := g3.2 q.toNat (by omega)
      have m1 := CW_mo g3 (i := q.toNat + 1) (j := pc.toNat) (by omega) (by omega)
      rw [show ((q.toNat : Nat) : Int) = q by omega] at a9
      have n10 : ∀ s : Nat, Vq s → T 7 s ≠ 10 := fun s hs => (QV_k qv a8 (by omega) hs).1
      obtain ⟨Fm, f1, f2, f3⟩ := Fm_ex ix (by omega) hn a1 (by omega) a9 n10
      have r : Rq T nd q Vq (Lx q.toNat) (Lx (q.toNat + 1)) (Sx q.toNat + 1 + T 30 q.toNat) (Sx (q.toNat + 1)) Fm := by
        refine ⟨⟨a9, ⟨a1, by omega, by omega, by omega⟩, fun s hs => ?_, n10, f1, f2, f3, fun s hs k => ?_⟩, ⟨by omega, by omega, a4⟩, fun s hs => ?_, fun i j i0 i1 j0 j1 => ?_⟩
        · rcases qv s hs with g | g | g
          · have := g.1
            omega
          · omega
          · omega
        · rcases qv s hs with g | g | g
          · have := g.2
            omega
          · omega
          · have m := a8 (s : Int) g.1 g.2
            unfold MP at m
            rw [Int.toNat_natCast] at m
            omega
        · rcases qv s hs with g | g | g
          · exact Or.inl g
          · exact Or.inr (Or.inl g.2)
          · exact Or.inr (Or.inr (by omega))
        · obtain ⟨Vi, vi, b1, b2, b3, b4, b5, b6, b7, b8, b9⟩ := g3.2 i.toNat (by omega)
          have m2 := CW_mo g3 (i := i.toNat + 1) (j := q.toNat) (by omega) (by omega)
          have m := b8 (T 29 i.toNat + j) (by omega) (by omega)
          unfold MP at m
          exact ⟨by omega, by omega, by omega⟩
      exact ⟨(Vq, Lx q.toNat, Lx (q.toNat + 1), Sx q.toNat + 1 + T 30 q.toNat, Sx (q.toNat + 1), Fm), fun _ _ => r⟩
    · exact ⟨(fun _ => False, 0, 0, 0, 0, fun _ _ _ => False), fun a b => absurd ⟨a, b⟩ qq⟩
  have exp : ∀ p : Int, ∃ x : (Nat → Prop) × Int × Int × Int × Int × (Int → Int → Int → Prop), 0 ≤ p → p ≤ 5 → 0 < T 36 p.toNat → Rtt T nd pc (T 36 p.toNat) x.1 x.2.1 x.2.2.1 x.2.2.2.1 x.2.2.2.2.1 x.2.2.2.2.2 := fun p => by
    by_cases pp : 0 ≤ p ∧ p ≤ 5 ∧ 0 < T 36 p.toNat
    · obtain ⟨a, b, u, v, b1, _⟩ := wB_ba e8
      obtain ⟨w1, w2, w3, w4, w5, w6, w7⟩ := b1 p pp.1 pp.2.1 pp.2.2
      have cls : ∀ s : Nat, V s → T 7 s ≠ 10 ∧ (T 7 s = 11 → T 12 s < 13) := fun s hs => by
        rcases e5 s hs with g | g | g
        · have := g.1.2
          exact ⟨by omega, fun k => by omega⟩
        · exact ⟨by omega, fun k => by omega⟩
        · have z := e7 ((s : Int) - s0).toNat (by omega)
          unfold LK at z
          rw [show (s0 + ((((s : Int) - s0).toNat : Nat) : Int)).toNat = s by omega] at z
          exact ⟨by omega, fun k => by omega⟩
      obtain ⟨Fm, f1, f2, f3⟩ := Fm_ex ix (by omega) hn (by omega) (by omega) w1 (fun s hs => (cls s hs).1)
      have r : Rtt T nd pc (T 36 p.toNat) V (a p) (b p) (u p) (v p) Fm := ⟨w1, ⟨by omega, by omega, by omega, by omega⟩, VB_mo e4 (by omega), fun s hs => (cls s hs).1, f1, f2, f3, fun s hs => (cls s hs).2⟩
      exact ⟨(V, a p, b p, u p, v p, Fm), fun _ _ _ => r⟩
    · exact ⟨(fun _ => False, 0, 0, 0, 0, fun _ _ _ => False), fun a b c => absurd ⟨a, b, c⟩ pp⟩
  obtain ⟨F, hF⟩ := Classical.axiomOfChoice exq
  obtain ⟨H, hH⟩ := Classical.axiomOfChoice exp
  exact ⟨fun q => (F q).1, fun q => (F q).2.1, fun q => (F q).2.2.1, fun q => (F q).2.2.2.1, fun q => (F q).2.2.2.2.1, fun q => (F q).2.2.2.2.2, fun q => (H q).1, fun q => (H q).2.1, fun q => (H q).2.2.1, fun q => (H q).2.2.2.1, fun q => (H q).2.2.2.2.1, fun q => (H q).2.2.2.2.2, fun q a b => hF q a b, fun p a b c => hH p a b c⟩
/-- what is allowed, of every PROC and processor -/
theorem UPq_of {T A : Nat → Nat → Int} {nd pc : Int} {VF : Int → Nat → Prop} {LO HI S0 S1 : Int → Int} {FF : Int → Int → Int → Int → Prop} (cs : CUs T nd pc VF LO HI S0 S1 FF) (b : ∀ n, 0 ≤ A 11 n ∧ A 11 n ≤ 15) (h : CUq T A (-1) pc) (q : Nat) (hq : (q : Int) < pc) : uP T (syU A) 18 (fun _ => 0) (pU T (syU A) q) (T 31 q) := by
  obtain ⟨⟨r1, r2, r3, r4, r5, r6, r7, r8⟩, ⟨r9, r10, r11⟩, r12, r13⟩ := cs (q : Int) (by omega) hq
  obtain ⟨p1, p2⟩ := h rfl (q : Int) (by omega) hq
  rw [Int.toNat_natCast] at r1 r9 r10 r11 r12 p1 p2
  rw [r9] at r1
  exact uP_pc (pb := (q : Int)) (fun _ _ _ _ _ _ => b _) (by omega) r10 r11 r1 r12 p1 p2
theorem UPp_of {T A : Nat → Nat → Int} {nd pc p : Int} {VF : Int → Nat → Prop} {LO HI S0 S1 : Int → Int} {FF : Int → Int → Int → Int → Prop} (cs : CUt T nd pc VF LO HI S0 S1 FF) (b : ∀ n, 0 ≤ A 11 n ∧ A 11 n ≤ 15) (h : CUp T A (-1) 6) (p0 : 0 ≤ p) (p5 : p ≤ 5) (hp : 0 < T 36 p.toNat) : uP T (syU A) 18 (fun _ => 0) (pUs T p) (T 36 p.toNat) := by
  obtain ⟨r1, r2, r3, r4, r5, r6, r7, r8⟩ := cs p p0 p5 hp
  exact uP_pr (pb := pc) (fun _ _ _ _ _ _ => b _) (by omega) r1 r3 (r6 (syU A)) (h rfl p p0 (by omega) hp)
/-- the code of a processor stays while that of another is made -/
theorem CP_mv {T A A_q : Nat → Nat → Int} {pc p p_q : Int} (f : Fo [53] (6000 * p_q) (6000 * p_q + 6000) A A_q) (g : Fo [54, 55] p_q (p_q + 1) A A_q) (ne : p ≠ p_q) (p0 : 0 ≤ p) (q0 : 0 ≤ p_q) (h : CP T A pc p) : CP T A_q pc p := by
  obtain ⟨C, st, bg, lb, h1, h2, h3, h4, h5, h6, h7, h8, h9, h10⟩ := h
  refine ⟨C, st, bg, lb, h1, h2, h3, h4, h5, h6, ?_, ?_, fun j j0 j1 i i0 i1 => ?_, h10⟩
  · rw [g 54 p.toNat rfl (by omega)]
    exact h7
  · rw [g 55 p.toNat rfl (by omega)]
    exact h8
  · have a := h2.2 j.toNat (by omega)
    have b := AT_mo h2 h3 (i := j.toNat + 1) (j := st.toNat) (by omega) (by omega)
    have c := AT_mo h2 h3 (i := 0) (j := j.toNat) (by omega) (by omega)
    have d := h2.1
    rw [f 53 (6000 * p + C 49 j.toNat + i).toNat rfl (by omega)]
    exact h9 j j0 j1 i i0 i1
/-- all is made that a begin needs -/
theorem RD_of {T A : Nat → Nat → Int} {Bu : Int → Int} {nd pc sy lk : Int} (h : TT T pc nd sy lk) (ta : TA T A) (hpc : 0 ≤ pc) (hnd : nd ≤ 6999) (hsy : sy ≤ 202) (hlk : lk ≤ 12) (mq : MQa T T pc 1) (mb : MBs T T 6 1) (hu : ∀ q : Nat, (q : Int) < pc → uP T Bu 18 (fun _ => 0) (pU T Bu q) (T 31 q)) (hp : ∀ p : Int, 0 ≤ p → p ≤ 5 → 0 < T 36 p.toNat → uP T Bu 18 (fun _ => 0) (pUs T p) (T 36 p.toNat)) (cp : ∀ p : Int, 0 ≤ p → p ≤ 5 → 0 < T 36 p.toNat → CP T A pc p) : RD lk A := by
  have e34 := ta 34 rfl
  have e35 := ta 35 rfl
  have e36 := ta 36 rfl
  have e37 := ta 37 rfl
  have e38 := ta 38 rfl
  obtain ⟨V, lo, s0, t0, e1, e2, e3, e4, e5, e6, e7, e8⟩ := h
  obtain ⟨Lx, Sx, g1, g2, g3⟩ := wQ_cw e6
  have ll := wQ_le e6
  have lb' := wB_le e8
  rw [show ((pc.toNat : Nat) : Int) = pc by omega] at g3
  have lks : LKs lk A := by
    refine ⟨hlk, fun l l0 l1 => ?_⟩
    have z := e7 l.toNat (by omega)
    unfold LK at z
    rw [show ((l.toNat : Nat) : Int) = l by omega] at z
    rw [e34, e35]
    omega
  refine ⟨lks, fun p p0 p5 hb => ?_⟩
  rw [e36] at hb
  obtain ⟨a, b, u, v, b1, _⟩ := wB_ba e8
  obtain ⟨w1, w2, w3, w4, w5, w6, w7⟩ := b1 p p0 p5 hb
  obtain ⟨m1, m2, m3, m4⟩ := mb p p0 (by omega) hb
  have m4 := m4 rfl
  obtain ⟨C, st, bg, lb, h1, h2, h3, h4, h5, h6, h7, h8, h9, h10⟩ := cp p p0 p5 hb
  rw [e1] at e5
  obtain ⟨q1, q2, q3⟩ := pro_g hpc g3 mq hu h1 h2 h3 e3 hlk e5 e7 w1 m1 m2 m3 m4 (hp p p0 p5 hb) (VB_mo e4 (by omega)) (by omega)
  have st1 := pro_s p0 (by omega) h2 h3 h4 h5 h6 (gM_lr h1) h9 h10
  have n0 := AT_mo h2 h3 (i := 0) (j := st.toNat) (by omega) (by omega)
  have z0 := h2.1
  rw [e37, e38, h7, h8]
  refine ⟨⟨m2, m3, m4⟩, ⟨by omega, h6⟩, Kn (Kc C) st, st, bg, st1, rfl, ?_⟩
  have ep : pcx0 A lk p = pcx0 T lk p := by
    unfold pcx0 pcap pbt
    rw [e34, e35, e37, e38]
  rw [ep]
  exact Gd_kn q3
