/-! A PROCESSOR AS IT BEGINS -/
/-- steps beyond the code have no operand -/
def Kn (K : Kd) (N : Int) : Kd := fun j => (kF K j, if 0 ≤ j ∧ j < N then kV K j else 0, kP K j)
theorem Rul_v {K K' : Kd} {j : Int} {c : Cx} {S : Sc} (e1 : kF K' j = kF K j) (e2 : kV K' j = kV K j) (e3 : ∀ t, kP K' t = kP K t) (h : Rul K j c S) : Rul K' j c S := by
  unfold Rul Psh at h ⊢
  simp only [e1, e2, e3]
  exact h
theorem Gd_kn {K : Kd} {N : Int} {P : Int → Cx → Prop} {j : Int} {c : Cx} (h : Gd K N P j c) : Gd (Kn K N) N P j c := by
  obtain ⟨Ty, h1, h2⟩ := h
  refine ⟨Ty, h1, fun i d t => ?_⟩
  obtain ⟨e, w, q | ⟨a, b, S, r, s⟩⟩ := h2 i d t
  · exact ⟨e, w, Or.inl q⟩
  · exact ⟨e, w, Or.inr ⟨a, b, S, Rul_v (K := K) rfl (if_pos ⟨a, b⟩) (fun _ => rfl) r, s⟩⟩
/-- which core may send and take at a channel of the outside -/
def pbt (T : Nat → Nat → Int) (lk p x : Int) : Int := if 0 ≤ x ∧ x < lk then (if T 34 x.toNat = p then 4 else 0) + (if T 35 x.toNat = p then 8 else 0) else if x = 12 ∧ p = 0 then 4 else if x = 13 ∧ p = 0 then 8 else 0
theorem pbt_l {T : Nat → Nat → Int} {lk p x : Int} (h0 : 0 ≤ x) (h1 : x < lk) : (pbt T lk p x / 4 % 2 = 1 ↔ T 34 x.toNat = p) ∧ (pbt T lk p x / 8 % 2 = 1 ↔ T 35 x.toNat = p) ∧ pbt T lk p x ≠ 2 := by
  unfold pbt
  rw [if_pos ⟨h0, h1⟩]
  by_cases a : T 34 x.toNat = p <;> by_cases b : T 35 x.toNat = p
  · rw [if_pos a, if_pos b]
    exact ⟨⟨fun _ => a, fun _ => by decide⟩, ⟨fun _ => b, fun _ => by decide⟩, by decide⟩
  · rw [if_pos a, if_neg b]
    exact ⟨⟨fun _ => a, fun _ => by decide⟩, ⟨fun w => absurd w (by decide), fun w => absurd w b⟩, by decide⟩
  · rw [if_neg a, if_pos b]
    exact ⟨⟨fun w => absurd w (by decide), fun w => absurd w a⟩, ⟨fun _ => b, fun _ => by decide⟩, by decide⟩
  · rw [if_neg a, if_neg b]
    exact ⟨⟨fun w => absurd w (by decide), fun w => absurd w a⟩, ⟨fun w => absurd w (by decide), fun w => absurd w b⟩, by decide⟩
theorem pbt_o {T : Nat → Nat → Int} {lk p x : Int} (h : ¬ (0 ≤ x ∧ x < lk)) : (x = 12 ∧ p = 0 → pbt T lk p x = 4) ∧ (x = 13 ∧ p = 0 → pbt T lk p x = 8) ∧ (¬ (x = 12 ∧ p = 0) → ¬ (x = 13 ∧ p = 0) → pbt T lk p x = 0) := by
  unfold pbt
  rw [if_neg h]
  refine ⟨fun a => if_pos a, fun a => ?_, fun a b => ?_⟩
  · rw [if_neg (by omega), if_pos a]
  · rw [if_neg a, if_neg b]
def pcap (T : Nat → Nat → Int) (lk p : Int) : List Cp := (List.range 14).map (fun i : Nat => (5, (i : Int), 1, pbt T lk p (i : Int), r0))
theorem pcap_i {T : Nat → Nat → Int} {lk p x : Int} (h0 : 0 ≤ x) (h1 : x ≤ 13) : (5, x, 1, pbt T lk p x, r0) ∈ pcap T lk p := by
  refine List.mem_map.mpr ⟨x.toNat, List.mem_range.mpr (by omega), ?_⟩
  rw [show ((x.toNat : Nat) : Int) = x by omega]
theorem pcap_m {T : Nat → Nat → Int} {lk p : Int} {q : Cp} (h : q ∈ pcap T lk p) : ∃ x, 0 ≤ x ∧ x ≤ 13 ∧ q = (5, x, 1, pbt T lk p x, r0) := by
  obtain ⟨i, h1, h2⟩ := List.mem_map.mp h
  have := List.mem_range.mp h1
  exact ⟨(i : Int), by omega, by omega, h2.symm⟩
def pcx0 (T : Nat → Nat → Int) (lk p : Int) : Cx := ((0, 0, T 37 p.toNat, T 38 p.toNat, 0), pcap T lk p, (r0, r0, r0), (0, [], []))
def pUs (T : Nat → Nat → Int) (p : Int) : Us := fun s _ _ b => OKc T p s b
theorem pcx0_e {T : Nat → Nat → Int} {V : Nat → Prop} {s0 lk p : Int} (hs : 2 ≤ s0) (hl : lk ≤ 12) (hV : VL V T s0 (s0 + lk)) (hk : wK T s0 lk) :
    En T (fun _ => 0) 0 V (pUs T p) (pcx0 T lk p) 1 ∧ Eg T (fun _ => 0) 0 V (pUs T p) (T 37 p.toNat) 1 ∧ Abv (pcx0 T lk p) ∧ (∀ x ∈ cCp (pcx0 T lk p), 1 ≤ qN x) ∧ (∀ s : Nat, V s → 11 ≤ T 7 s) := by
  have cls : ∀ s : Nat, V s → (T 7 s = 12 ∧ s = 0) ∨ (T 7 s = 13 ∧ s = 1) ∨ T 7 s = 14 ∨ (T 7 s = 11 ∧ 0 ≤ T 12 s ∧ T 12 s < lk ∧ T 12 s = (s : Int) - s0) := fun s h => by
    rcases hV s h with ⟨⟨k1, k2, k3, k4⟩, _⟩ | ⟨_, k⟩ | ⟨k1, k2⟩
    · have : s = 0 ∨ s = 1 := by omega
      rcases this with w | w
      · subst w
        exact Or.inl ⟨by omega, rfl⟩
      · subst w
        exact Or.inr (Or.inl ⟨by omega, rfl⟩)
    · exact Or.inr (Or.inr (Or.inl k))
    · have z := hk ((s : Int) - s0).toNat (by omega)
      have e : (s0 + ((((s : Int) - s0).toNat : Nat) : Int)).toNat = s := by omega
      unfold LK at z
      rw [e] at z
      exact Or.inr (Or.inr (Or.inr ⟨z.1, by omega, by omega, by omega⟩))
  have k11 : ∀ s : Nat, V s → 11 ≤ T 7 s := fun s h => by
    rcases cls s h with w | w | w | w <;> omega
  have ad : ∀ s : Nat, V s → T 7 s ≤ 13 → (T 7 s = 12 ∧ s = 0 ∧ adv T (fun _ => 0) 0 (s : Int) = 12) ∨ (T 7 s = 13 ∧ s = 1 ∧ adv T (fun _ => 0) 0 (s : Int) = 13) ∨ (T 7 s = 11 ∧ adv T (fun _ => 0) 0 (s : Int) = (s : Int) - s0 ∧ T 12 s = (s : Int) - s0 ∧ 0 ≤ (s : Int) - s0 ∧ (s : Int) - s0 < lk) := fun s h k => by
    have e : ((s : Int)).toNat = s := by omega
    unfold adv
    rw [e]
    rcases cls s h with w | w | w | w
    · rw [if_neg (by omega), if_pos (by omega)]
      exact Or.inl ⟨w.1, w.2, rfl⟩
    · rw [if_neg (by omega), if_neg (by omega), if_pos (by omega)]
      exact Or.inr (Or.inl ⟨w.1, w.2, rfl⟩)
    · omega
    · rw [if_pos (by omega)]
      exact Or.inr (Or.inr ⟨w.1, w.2.2.2, w.2.2.2, by omega, by omega⟩)
  have c5 : ∀ x ∈ pcap T lk p, qK x = 5 ∧ 1 ≤ qN x := fun x hx => by
    obtain ⟨y, _, _, e⟩ := pcap_m hx
    rw [e]
    exact ⟨rfl, by show (1 : Int) ≤ 1; omega⟩
  refine ⟨⟨fun s h => ⟨fun k => ?_, fun k => ?_⟩, fun s al e b h hu => ⟨fun k => ?_, fun k => ?_, fun k => ?_, fun k => ?_, fun _ k => ?_⟩, fun x hx => Or.inl (c5 x hx).1, by omega, rfl, rfl, ⟨by omega, fun s h k => ?_⟩, fun s h k => ?_⟩, ⟨fun s s_q h h_q ne k k_q => ?_, fun s h k => ?_, fun s s_q h h_q ne us us' k1 k2 k3 k4 => ?_, Or.inl (fun s h k => ?_)⟩, fun x hx => ?_, fun x hx => (c5 x hx).2, k11⟩
  · have := k11 s h
    omega
  · have := k11 s h
    omega
  · have := k11 s h
    omega
  · have := k11 s h
    omega
  · have := k11 s h
    omega
  · have := k11 s h
    omega
  · have hu : OKc T p (s : Int) b := hu
    unfold OKc at hu
    rw [show ((s : Int)).toNat = s by omega] at hu
    rcases ad s h k with ⟨w1, w2, w3⟩ | ⟨w1, w2, w3⟩ | ⟨w1, w2, w3, w4, w5⟩
    · have u := hu.1 w1
      refine ⟨_, pcap_i (x := 12) (by decide) (by decide), ?_, rfl, w3.symm⟩
      have z := (pbt_o (T := T) (lk := lk) (p := p) (x := 12) (by omega)).1 ⟨rfl, u.1⟩
      show sbt (pbt T lk p 12) b
      rw [z]
      exact ⟨fun _ => by decide, fun w => by omega⟩
    · have u := hu.2.1 w1
      refine ⟨_, pcap_i (x := 13) (by decide) (by decide), ?_, rfl, w3.symm⟩
      have z := (pbt_o (T := T) (lk := lk) (p := p) (x := 13) (by omega)).2.1 ⟨rfl, u.1⟩
      show sbt (pbt T lk p 13) b
      rw [z]
      exact ⟨fun w => by omega, fun _ => by decide⟩
    · have u := hu.2.2 w1
      rw [w3] at u
      refine ⟨_, pcap_i (x := (s : Int) - s0) w4 (by omega), ?_, rfl, w2.symm⟩
      have z := pbt_l (T := T) (p := p) w4 w5
      show sbt (pbt T lk p ((s : Int) - s0)) b
      exact ⟨fun w => z.1.mpr (u.2.1 w), fun w => z.2.1.mpr (u.2.2 w)⟩
  · have := k11 s h
    omega
  · have := k11 s h
    omega
  · have := k11 s h
    omega
  · have := k11 s h
    omega
  · rcases ad s h k2 with ⟨w1, w2, w3⟩ | ⟨w1, w2, w3⟩ | ⟨w1, w2, w3, w4, w5⟩ <;> rcases ad s_q h_q k4 with ⟨v1, v2, v3⟩ | ⟨v1, v2, v3⟩ | ⟨v1, v2, v3, v4, v5⟩ <;> omega
  · have := k11 s h
    omega
  · have := c5 x hx
    exact ⟨by omega, by omega, fun w => absurd this.1 w⟩
/-- the code of a processor keeps the rules from its begin on -/
theorem pro_g {T C : Nat → Nat → Int} {Bu : Int → Int} {V : Nat → Prop} {L Sx : Nat → Int} {pc p bg st lb lk sq ba bb bu bv : Int} (hpc : 0 ≤ pc) (hcw : CW T L Sx pc) (hmq : MQa T T pc 1) (hu : ∀ q : Nat, (q : Int) < pc → uP T Bu 18 (fun _ => 0) (pU T Bu q) (T 31 q)) (hg : gM T C pc p bg st lb) (hat : AT C st) (hln : LN C st) (hs : 2 ≤ sq) (hl : lk ≤ 12) (hV : VL V T sq (sq + lk)) (hk : wK T sq lk) (hw : wP T bv pc 18 V (T 36 p.toNat) ba bb bu bv) (hlp : lP T 18 (T 36 p.toNat) 1 0 (T 37 p.toNat) (T 38 p.toNat)) (h37 : 1 ≤ T 37 p.toNat) (h38 : 0 ≤ T 38 p.toNat) (h40 : T 37 p.toNat + T 38 p.toNat + 3 ≤ 4000) (hup : uP T Bu 18 (fun _ => 0) (pUs T p) (T 36 p.toNat)) (hVB : VB V bu) (hba : 1 ≤ ba) : 0 ≤ bg ∧ bg ≤ st ∧ Gd (Kc C) st (fun _ _ => False) bg (pcx0 T lk p) := by
  obtain ⟨c, m, g1, g2, g3, g4, g5⟩ := hg
  obtain ⟨i1, i2, i3, i4⟩ := ST_k g5
  have le3 := gPR_le g3
  have le4 := gP_le g4
  have hM : ∀ i j : Int, 0 ≤ i → i ≤ j → j ≤ st → C 49 i.toNat ≤ C 49 j.toNat := fun i j a b d => AT_mo hat hln (by omega) (by omega)
  have hlq : ∀ q : Nat, (q : Int) < pc → lQ1 T T q ∧ T 32 q + T 33 q + 3 ≤ 4000 := fun q hq => ⟨(hmq q hq).1, (hmq q hq).2 rfl⟩
  have ih := gPr_g (Bu := Bu) hM hcw hlq hu g3 (by omega) (by omega)
  obtain ⟨e1, e2, e3, e4, e5⟩ := pcx0_e (p := p) hs hl hV hk
  refine ⟨by omega, by omega, ?_⟩
  refine gP_g (Bu := Bu) (sb := bv) (pb := pc) hM (fun r r0 r1 => ?_) g4 hw hlp hup e1 e2 e3 e4 (by show T 37 p.toNat ≤ 4000; omega) (by show T 38 p.toNat ≤ 4000; omega) (fun s hs => hVB s hs) (fun s hs k => ?_) hba (by omega) (by omega) (Gs_d ?_)
  · obtain ⟨V_q, hv', qa'⟩ := hcw.2 r.toNat (by omega)
    obtain ⟨c1, c2, c3, c4, c5, c6, c7, c8, c9⟩ := qa'
    obtain ⟨⟨d1, d2, d3, d4, d5, d6⟩, d7⟩ := hlq r.toNat (by omega)
    refine ⟨⟨by unfold Qf; rw [if_pos (by omega)]; omega, fun P => ?_⟩, d2, d4, by rw [c7]; exact c8, fun j j0 j1' => ?_⟩
    · have := ih r.toNat (by omega) P
      have eL : Qf pc r = r + 1 := if_pos (by omega)
      rw [eL, show (r + 1).toNat = r.toNat + 1 by omega, show r = ((r.toNat : Nat) : Int) by omega]
      exact this
    · have := (d6 j.toNat (by omega)).1
      rw [show ((j.toNat : Nat) : Int) = j by omega] at this
      exact this
  · have := e5 s hs
    omega
  · exact ⟨i2, by omega, _, [], Wkr_r (Wf_m s0 s0 s0 (by show ¬ (0 : Int) = 1; decide)), Or.inr (Or.inr (Or.inr (Or.inr (Or.inr (Or.inr (Or.inr (Or.inr (Or.inr (Or.inr (Or.inr (Or.inr (Or.inr (Or.inr (Or.inr (Or.inl ⟨i3, i4, rfl, rfl⟩))))))))))))))), fun _ h => absurd h List.not_mem_nil⟩
/-- what stays of a processor's code -/
theorem pro_s {C A : Nat → Nat → Int} {p st : Int} (hp : 0 ≤ p) (hst : 0 ≤ st) (hat : AT C st) (hln : LN C st) (hfi : FI C st) (hfk : FK C st st) (h6 : C 49 st.toNat ≤ 6000) (hlr : LR C st 0 st) (hdw : DW C A p st) (hb : ∀ n, (-2147483648 ≤ C 49 n ∧ C 49 n ≤ 2147483647) ∧ -2147483648 ≤ C 45 n ∧ C 45 n ≤ 2147483647) : St1 (Kn (Kc C) st) st A p := by
  have kr : ∀ n : Nat, (n : Int) ≤ st → 0 ≤ C 49 n ∧ C 49 n ≤ 6000 := fun n hn => by
    have a := AT_mo hat hln (i := 0) (j := n) (by omega) hn
    have b := AT_mo hat hln (i := n) (j := st.toNat) (by omega) (by omega)
    have := hat.1
    omega
  have ln : ∀ j : Int, 0 ≤ j → j < st → kP (Kn (Kc C) st) (j + 1) - kP (Kn (Kc C) st) j = C 48 j.toNat := fun j j0 j1 => by
    show C 49 (j + 1).toNat - C 49 j.toNat = _
    have := hat.2 j.toNat (by omega)
    rw [show (j + 1).toNat = j.toNat + 1 by omega]
    omega
  have kv : ∀ j : Int, 0 ≤ j → j < st → kV (Kn (Kc C) st) j = vl C j := fun j j0 j1 => if_pos ⟨j0, j1⟩
  refine ⟨fun j j0 j1 => ?_, fun t => (hb t.toNat).1, fun j j0 j1 => kr j.toNat (by omega), fun j => ?_, fun j i j0 j1 i0 i1 => ?_⟩
  · rw [ln j j0 j1, kv j j0 j1]
    refine ⟨(hln j.toNat (by omega)).1, ?_⟩
    unfold vl
    by_cases w : 0 < C 46 j.toNat
    · rw [if_pos w]
      have := hfk.2 j.toNat (by omega) w
      rw [show ((j.toNat : Nat) : Int) = j by omega] at this
      exact this
    · rw [if_neg w]
      exact hfi j.toNat (by omega) (by omega)
  · by_cases w : 0 ≤ j ∧ j < st
    · rw [kv j w.1 w.2]
      unfold vl
      by_cases w2 : 0 < C 46 j.toNat
      · rw [if_pos w2]
        obtain ⟨_, l2⟩ := hlr j.toNat (by omega) (by omega)
        obtain ⟨l3, l4, l5, l6⟩ := l2 w2
        unfold wy
        have a := kr (C 50 (C 46 j.toNat).toNat).toNat (by omega)
        by_cases w3 : C 47 j.toNat = 0
        · rw [if_pos w3]
          have b := kr (j + 1).toNat (by omega)
          omega
        · rw [if_neg w3]
          obtain ⟨_, _, l9, l10⟩ := l6 w3
          have b := kr (C 50 (C 47 j.toNat).toNat).toNat (by omega)
          omega
      · rw [if_neg w2]
        exact (hb j.toNat).2
    · have e : kV (Kn (Kc C) st) j = 0 := if_neg w
      rw [e]
      decide
  · rw [ln j j0 j1] at i1 ⊢
    rw [kv j j0 j1]
    have := hdw j j0 j1 i (by omega) i1
    show A 53 (6000 * p + (C 49 j.toNat + i)).toNat = byt (C 44 j.toNat) (vl C j) (C 48 j.toNat) i
    rw [← Int.add_assoc]
    exact this
