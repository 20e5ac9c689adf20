/-! the code that was made keeps the rules: expressions and addresses -/
def Kc (C : Nat → Nat → Int) : Kd := fun j => (C 44 j.toNat, vl C j, C 49 j.toNat)
theorem ST_k {C : Nat → Nat → Int} {k k_q fn v : Int} (h : ST C k k_q fn v) : k_q = k + 1 ∧ 0 ≤ k ∧ kF (Kc C) k = fn ∧ kV (Kc C) k = v := by
  obtain ⟨h1, h2, h3, h4, h5⟩ := h
  exact ⟨h1, h2, h3, (vl_v (by omega)).trans h4⟩
theorem WY_k {C : Nat → Nat → Int} {k k_q fn l t : Int} (h : WY C k k_q fn l 0) (hl : 0 < l) (ht : C 50 l.toNat = t) : k_q = k + 1 ∧ 0 ≤ k ∧ kF (Kc C) k = fn ∧ kP (Kc C) t = kP (Kc C) (k + 1) + kV (Kc C) k := by
  obtain ⟨h1, h2, h3, h4, h5⟩ := h
  refine ⟨h1, h2, h3, ?_⟩
  have e : kV (Kc C) k = wy C k := vl_w (by omega)
  rw [e]
  unfold wy
  rw [if_pos h5, h4, ht]
  show C 49 t.toNat = C 49 (k + 1).toNat + _
  omega
theorem JP_k {C : Nat → Nat → Int} {k k_q fn t l0 l1 : Int} (h : JP C k k_q fn t l0 l1) : k_q = k + 1 ∧ 0 ≤ k ∧ kF (Kc C) k = fn ∧ kP (Kc C) t = kP (Kc C) (k + 1) + kV (Kc C) k := by
  obtain ⟨l, h1, h2, h3, h4, h5⟩ := h
  exact WY_k h1 h2 h5
def Wf (c : Cx) : Prop := Sup (cCp c) (cA c) ∧ Sup (cCp c) (cB c) ∧ Sup (cCp c) (cC c) ∧ ∀ e ∈ cPe c, cMd c = 1 → (∃ q ∈ cCp c, qK q = 8 ∧ qO q = e.2 ∧ qU q / 8 % 2 = 1) ∧ ∃ q ∈ cCp c, qK q = 6 ∧ qO q = e.1
theorem Wkr_r {c : Cx} (h : Wf c) : Wkr c c := ⟨rfl, Or.inl rfl, Or.inl rfl, Or.inl rfl, Or.inl rfl, rfl, h.1, h.2.1, h.2.2.1, h.2.2.2⟩
/-- less is known of the registers -/
theorem Wkr_g {c : Cx} {a b d : Rt} (ha : a = cA c ∨ a = r0) (hb : b = cB c ∨ b = r0) (hd : d = cC c ∨ d = r0) (h1 : Sup (cCp c) a) (h2 : Sup (cCp c) b) (h3 : Sup (cCp c) d) (hm : cMd c ≠ 1) : Wkr (sR c a b d) c := ⟨rfl, Or.inl rfl, ha, hb, hd, rfl, h1, h2, h3, fun _ _ q => absurd q hm⟩
theorem Gs_1 {K : Kd} {N : Int} {P : Int → Cx → Prop} {j j_q : Int} {c c_q : Cx} (h0 : 0 ≤ j) (hj : j_q = j + 1) (h1 : j_q ≤ N) (w : Wf c) (r : Rul K j c [(j + 1, c_q)]) (g : Gd K N P j_q c_q) : Gs K N P j c := by
  subst hj
  refine ⟨h0, by omega, c, [(j + 1, c_q)], Wkr_r w, r, fun s hs => ?_⟩
  rw [List.mem_singleton.mp hs]
  exact g
/-- what a register needs when rights stay -/
theorem Wf_m {c : Cx} (h1 : Sup (cCp c) (cA c)) (h2 : Sup (cCp c) (cB c)) (h3 : Sup (cCp c) (cC c)) (hm : cMd c ≠ 1) : Wf c := ⟨h1, h2, h3, fun _ _ q => absurd q hm⟩
section
variable {K : Kd} {N : Int} {P : Int → Cx → Prop}
theorem Gs_psh {j j_q : Int} {c : Cx} {t : Rt} (h0 : 0 ≤ j) (hj : j_q = j + 1) (h1 : j_q ≤ N) (w : Wf c) (p : Psh K c j t) (g : Gd K N P j_q (sR c t (cA c) (cB c))) : Gs K N P j c := Gs_1 h0 hj h1 w (Or.inl ⟨t, p, rfl⟩) g
theorem Gs_any {j j_q : Int} {c : Cx} (h0 : 0 ≤ j) (hj : j_q = j + 1) (h1 : j_q ≤ N) (w : Wf c) (p : kF K j = 3 ∨ kF K j = 5 ∨ kF K j = 8 ∨ kF K j = 12) (g : Gd K N P j_q (sR c r0 (cB c) (cC c))) : Gs K N P j c := Gs_1 h0 hj h1 w (Or.inr (Or.inl ⟨p, rfl⟩)) g
theorem Gs_two {j j_q : Int} {c : Cx} {t : Rt} (h0 : 0 ≤ j) (hj : j_q = j + 1) (h1 : j_q ≤ N) (w : Wf c) (p : kF K j = 15) (v1 : 1 ≤ kV K j) (v2 : kV K j ≤ 11) (m : cMd c = 0) (ht : t = r0 ∨ (kV K j = 11 ∧ Sum2 c t) ∨ (kV K j = 1 ∧ (cA c).1 = 5 ∧ (cB c).1 = 5 ∧ t = (5, (i32 ((cB c).2.1 + (cA c).2.1)).toInt, 0)) ∨ (kV K j = 2 ∧ (cA c).1 = 5 ∧ (cB c).1 = 5 ∧ t = (5, (i32 ((cB c).2.1 - (cA c).2.1)).toInt, 0))) (g : Gd K N P j_q (sR c t (cC c) (cC c))) : Gs K N P j c := Gs_1 h0 hj h1 w (Or.inr (Or.inr (Or.inl ⟨p, v1, v2, m, t, ht, rfl⟩))) g
theorem Gs_rev {j j_q : Int} {c : Cx} (h0 : 0 ≤ j) (hj : j_q = j + 1) (h1 : j_q ≤ N) (w : Wf c) (p : kF K j = 15) (v1 : kV K j = 0) (g : Gd K N P j_q (sR c (cB c) (cA c) (cC c))) : Gs K N P j c := Gs_1 h0 hj h1 w (Or.inr (Or.inr (Or.inr (Or.inl ⟨p, v1, rfl⟩)))) g
theorem Gs_chk {j j_q : Int} {c : Cx} {t : Rt} (h0 : 0 ≤ j) (hj : j_q = j + 1) (h1 : j_q ≤ N) (w : Wf c) (p : kF K j = 15) (v1 : kV K j = 12) (m : cMd c = 0) (ht : t = r0 ∨ ((cA c).1 = 5 ∧ t = (1, (cA c).2.1, 0))) (g : Gd K N P j_q (sR c t (cC c) (cC c))) : Gs K N P j c := Gs_1 h0 hj h1 w (Or.inr (Or.inr (Or.inr (Or.inr (Or.inl ⟨p, v1, m, t, Or.inl ⟨ht, rfl⟩⟩))))) g
/-- the index is known -/
theorem Gs_chc {j j_q : Int} {c : Cx} {e n : Int} (h0 : 0 ≤ j) (hj : j_q = j + 1) (h1 : j_q ≤ N) (w : Wf c) (p : kF K j = 15) (v1 : kV K j = 12) (m : cMd c = 0) (ha : cA c = (5, n, 0)) (hb : cB c = (5, e, 0)) (g : 0 ≤ e → e < n → Gd K N P j_q (sR c (5, e, 0) (cC c) (cC c))) : Gs K N P j c := by
  subst hj
  have a1 : (cA c).1 = 5 := by rw [ha]
  have b1 : (cB c).1 = 5 := by rw [hb]
  have a2 : (cA c).2.1 = n := by rw [ha]
  have b2 : (cB c).2.1 = e := by rw [hb]
  by_cases q : 0 ≤ e ∧ e < n
  · refine ⟨h0, by omega, c, [(j + 1, sR c (5, e, 0) (cC c) (cC c))], Wkr_r w, Or.inr (Or.inr (Or.inr (Or.inr (Or.inl ⟨p, v1, m, (5, e, 0), Or.inr ⟨a1, b1, Or.inl ⟨by rw [b2]; exact q.1, by rw [b2, a2]; exact q.2, by rw [b2], rfl⟩⟩⟩)))), fun s hs => ?_⟩
    rw [List.mem_singleton.mp hs]
    exact g q.1 q.2
  · exact ⟨h0, by omega, c, [], Wkr_r w, Or.inr (Or.inr (Or.inr (Or.inr (Or.inl ⟨p, v1, m, r0, Or.inr ⟨a1, b1, Or.inr ⟨by rw [b2, a2]; exact q, rfl⟩⟩⟩)))), fun s hs => absurd hs List.not_mem_nil⟩
theorem Gs_cj {j j_q t : Int} {c : Cx} (h0 : 0 ≤ j) (hj : j_q = j + 1) (h1 : j_q ≤ N) (w : Wf c) (p : kF K j = 10) (ht : kP K t = kP K (j + 1) + kV K j) (g : Gd K N P j_q (sR c (cB c) (cC c) (cC c))) (g2 : Gd K N P t c) : Gs K N P j c := by
  subst hj
  refine ⟨h0, by omega, c, [(j + 1, sR c (cB c) (cC c) (cC c)), (t, c)], Wkr_r w, Or.inr (Or.inr (Or.inr (Or.inr (Or.inr (Or.inr (Or.inl ⟨p, t, ht, rfl⟩)))))), fun s hs => ?_⟩
  rcases List.mem_cons.mp hs with e | hs
  · rw [e]
    exact g
  · rw [List.mem_singleton.mp hs]
    exact g2
theorem Gs_stl {j j_q : Int} {c : Cx} {l : List Cp} (h0 : 0 ≤ j) (hj : j_q = j + 1) (h1 : j_q ≤ N) (w : Wf c) (p : kF K j = 13) (dw : cDw c = 0) (m : cMd c = 0) (hn : New c (kV K j) l) (g : Gd K N P j_q (sC (sR c (cB c) (cC c) (cC c)) l)) : Gs K N P j c := Gs_1 h0 hj h1 w (Or.inr (Or.inr (Or.inr (Or.inr (Or.inr (Or.inr (Or.inr (Or.inr (Or.inl ⟨p, dw, m, l, hn, rfl⟩))))))))) g
end
/-- all rights' words lie below f, or in frames around -/
def Bf (c : Cx) (f : Int) : Prop := ∀ q ∈ cCp c, qK q = 5 ∨ qO q + wN q ≤ f ∨ cZ c ≤ qO q
theorem Bf_m {c : Cx} {f f_q : Int} (h : Bf c f) (hf : f ≤ f_q) : Bf c f_q := fun q hq => by
  rcases h q hq with a | a | a
  · exact Or.inl a
  · exact Or.inr (Or.inl (by omega))
  · exact Or.inr (Or.inr a)
theorem Bf_f {c : Cx} {f o n : Int} (h : Bf c f) (h1 : 1 ≤ f) (h2 : f ≤ o) (h3 : o + n ≤ cZ c) (hn : 0 ≤ n) : Fre c o n := ⟨Or.inl ⟨by omega, h3⟩, fun q hq => by
  rcases h q hq with a | a | a
  · exact Or.inl a
  · exact Or.inr (fun v => by
      unfold Ov at v
      omega)
  · exact Or.inr (fun v => by
      unfold Ov at v
      omega)⟩
/-- the signs of two values -/
theorem sgn_g {C : Nat → Nat → Int} {N : Int} {P : Int → Cx → Prop} {o : Int} {a : Rt} : ∀ {b k_q : Int} {c : Cx}, SQ C (sgn o) b k_q → k_q ≤ N → cMd c = 0 → cC c = a → Sup (cCp c) (cA c) → Sup (cCp c) (cB c) → Sup (cCp c) a → Gd (Kc C) N P k_q (sR c r0 a r0) → Gs (Kc C) N P b c := fun {b k_q c} h hk md hc s1 s2 s3 g => by
  subst hc
  have nm : cMd c ≠ 1 := by omega
  have s0 : Sup (cCp c) r0 := fun q => absurd q (by decide)
  have wf : Wf c := Wf_m s1 s2 s3 nm
  have last : ∀ {b : Int} {c_q : Cx} {v : Int}, ST C b k_q 15 v → 1 ≤ v → v ≤ 11 → cCp c_q = cCp c → c_q.1 = c.1 → c_q.2.2.2 = c.2.2.2 → cC c_q = cC c → Sup (cCp c) (cA c_q) → Sup (cCp c) (cB c_q) → Gs (Kc C) N P b c_q := fun {b c_q v} h v1 v2 e1 e2 e3 e4 t1 t2 => by
    obtain ⟨i1, i2, i3, i4⟩ := ST_k h
    have md' : cMd c_q = 0 := (congrArg (fun q : Mo => q.1) e3).trans md
    refine Gs_two i2 i1 hk (Wf_m (e1 ▸ t1) (e1 ▸ t2) (by rw [e1, e4]; exact s3) (by omega)) i3 (by omega) (by omega) md' (Or.inl rfl) (Gd_w (e := sR c r0 (cC c) r0) ?_ g)
    refine ⟨e2.symm, Or.inl e1.symm, Or.inl rfl, Or.inl e4.symm, Or.inr rfl, e3.symm, s0, s3, s0, fun _ _ q => absurd q (show ¬ cMd c_q = 1 by omega)⟩
  -- two, then EQC 0 once or twice
  have eqc : ∀ {b : Int} {c_q : Cx}, ST C b k_q 12 0 → cCp c_q = cCp c → c_q.1 = c.1 → c_q.2.2.2 = c.2.2.2 → cB c_q = cC c → cA c_q = r0 → Sup (cCp c) (cC c_q) → Gd (Kc C) N P b c_q := fun {b c_q} h e1 e2 e3 e4 e5 t3 => by
    obtain ⟨i1, i2, i3, i4⟩ := ST_k h
    have md' : cMd c_q = 0 := (congrArg (fun q : Mo => q.1) e3).trans md
    refine Gs_d (Gs_any i2 i1 hk (Wf_m (by rw [e5]; exact fun q => absurd q (by decide)) (by rw [e1, e4]; exact s3) (e1 ▸ t3) (by omega)) (by omega) (Gd_w (e := sR c r0 (cC c) r0) ?_ g))
    exact ⟨e2.symm, Or.inl e1.symm, Or.inl rfl, Or.inl e4.symm, Or.inr rfl, e3.symm, s0, s3, s0, fun _ _ q => absurd q (show ¬ cMd c_q = 1 by omega)⟩
  have two1 : ∀ {b : Int} {c_q : Cx} {v : Int}, SQ C [(15, v), (12, 0)] b k_q → 1 ≤ v → v ≤ 11 → cCp c_q = cCp c → c_q.1 = c.1 → c_q.2.2.2 = c.2.2.2 → cC c_q = cC c → Sup (cCp c) (cA c_q) → Sup (cCp c) (cB c_q) → Gs (Kc C) N P b c_q := fun {b c_q v} h v1 v2 e1 e2 e3 e4 t1 t2 => by
    obtain ⟨x, h1, y, h2, h3⟩ := h
    have h3 : k_q = y := h3
    subst h3
    obtain ⟨i1, i2, i3, i4⟩ := ST_k h1
    have := (ST_k h2).1
    have md' : cMd c_q = 0 := (congrArg (fun q : Mo => q.1) e3).trans md
    exact Gs_two i2 i1 (by omega) (Wf_m (e1 ▸ t1) (e1 ▸ t2) (by rw [e1, e4]; exact s3) (by omega)) i3 (by omega) (by omega) md' (Or.inl rfl) (eqc h2 e1 e2 e3 e4 rfl (by show Sup (cCp c) (cC c_q); rw [e4]; exact s3))
  have two2 : ∀ {b : Int} {c_q : Cx} {v : Int}, SQ C [(15, v), (12, 0), (12, 0)] b k_q → 1 ≤ v → v ≤ 11 → cCp c_q = cCp c → c_q.1 = c.1 → c_q.2.2.2 = c.2.2.2 → cC c_q = cC c → Sup (cCp c) (cA c_q) → Sup (cCp c) (cB c_q) → Gs (Kc C) N P b c_q := fun {b c_q v} h v1 v2 e1 e2 e3 e4 t1 t2 => by
    obtain ⟨x, h1, y, h2, z, h3, h4⟩ := h
    have h4 : k_q = z := h4
    subst h4
    obtain ⟨i1, i2, i3, i4⟩ := ST_k h1
    obtain ⟨j1, j2, j3, j4⟩ := ST_k h2
    have := (ST_k h3).1
    have md' : cMd c_q = 0 := (congrArg (fun q : Mo => q.1) e3).trans md
    refine Gs_two i2 i1 (by omega) (Wf_m (e1 ▸ t1) (e1 ▸ t2) (by rw [e1, e4]; exact s3) (by omega)) i3 (by omega) (by omega) md' (Or.inl rfl) (Gs_d (Gs_any j2 j1 (by omega) (Wf_m (fun q => absurd q (by show ¬ (0 : Int) = 3; decide)) (by show Sup (cCp c_q) (cC c_q); rw [e1, e4]; exact s3) (by show Sup (cCp c_q) (cC c_q); rw [e1, e4]; exact s3) (show cMd c_q ≠ 1 by omega)) (by omega) (eqc h3 e1 e2 e3 e4 rfl (by show Sup (cCp c) (cC c_q); rw [e4]; exact s3))))
  unfold sgn at h
  have one : ∀ {v : Int}, SQ C [(15, v)] b k_q → 1 ≤ v → v ≤ 11 → Gs (Kc C) N P b c := fun {v} h v1 v2 => by
    obtain ⟨x, h1, h2⟩ := h
    have h2 : k_q = x := h2
    subst h2
    exact last h1 v1 v2 rfl rfl rfl rfl s1 s2
  by_cases q43 : o = 43
  · rw [if_pos q43] at h
    exact one h (by omega) (by omega)
  rw [if_neg q43] at h
  by_cases q45 : o = 45
  · rw [if_pos q45] at h
    exact one h (by omega) (by omega)
  rw [if_neg q45] at h
  by_cases q42 : o = 42
  · rw [if_pos q42] at h
    exact one h (by omega) (by omega)
  rw [if_neg q42] at h
  by_cases q47 : o = 47
  · rw [if_pos q47] at h
    exact one h (by omega) (by omega)
  rw [if_neg q47] at h
  by_cases q92 : o = 92
  · rw [if_pos q92] at h
    exact one h (by omega) (by omega)
  rw [if_neg q92] at h
  by_cases q304 : o = 304
  · rw [if_pos q304] at h
    exact one h (by omega) (by omega)
  rw [if_neg q304] at h
  by_cases q305 : o = 305
  · rw [if_pos q305] at h
    exact one h (by omega) (by omega)
  rw [if_neg q305] at h
  by_cases q306 : o = 306
  · rw [if_pos q306] at h
    exact one h (by omega) (by omega)
  rw [if_neg q306] at h
  by_cases q307 : o = 307
  · rw [if_pos q307] at h
    exact one h (by omega) (by omega)
  rw [if_neg q307] at h
  by_cases q62 : o = 62
  · rw [if_pos q62] at h
    exact one h (by omega) (by omega)
  rw [if_neg q62] at h
  by_cases q60 : o = 60
  · rw [if_pos q60] at h
    obtain ⟨x, h1, h2⟩ := h
    obtain ⟨i1, i2, i3, i4⟩ := ST_k h1
    have := SQ_le h2
    obtain ⟨y, h3, h4⟩ := h2
    have h4 : k_q = y := h4
    subst h4
    exact Gs_rev i2 i1 (by omega) wf i3 i4 (Gs_d (last h3 (by omega) (by omega) rfl rfl rfl rfl s2 s1))
  rw [if_neg q60] at h
  by_cases q302 : o = 302
  · rw [if_pos q302] at h
    exact two1 h (by omega) (by omega) rfl rfl rfl rfl s1 s2
  rw [if_neg q302] at h
  by_cases q303 : o = 303
  · rw [if_pos q303] at h
    obtain ⟨x, h1, h2⟩ := h
    obtain ⟨i1, i2, i3, i4⟩ := ST_k h1
    have := SQ_le h2
    exact Gs_rev i2 i1 (by omega) wf i3 i4 (Gs_d (two1 h2 (by omega) (by omega) rfl rfl rfl rfl s2 s1))
  rw [if_neg q303] at h
  by_cases q61 : o = 61
  · rw [if_pos q61] at h
    exact two1 h (by omega) (by omega) rfl rfl rfl rfl s1 s2
  rw [if_neg q61] at h
  exact two2 h (by omega) (by omega) rfl rfl rfl rfl s1 s2
