/-! statements keep the rules -/
section
variable {K : Kd} {N : Int} {P : Int → Cx → Prop}
theorem Gs_ldp {j j_q : Int} {c : Cx} (h0 : 0 ≤ j) (hj : j_q = j + 1) (h1 : j_q ≤ N) (w : Wf c) (p : kF K j = 15) (v : kV K j = 13) (a : (cA c).1 = 5) (e : ∃ t, kP K t = kP K (j + 1) + (cA c).2.1) (g : Gd K N P j_q (sR c (5, kP K (j + 1) + (cA c).2.1, 0) (cB c) (cC c))) : Gs K N P j c := Gs_1 h0 hj h1 w (Or.inr (Or.inr (Or.inr (Or.inr (Or.inr (Or.inl (⟨p, v, a, e, rfl⟩))))))) g
theorem Gs_stn {j j_q : Int} {c : Cx} (h0 : 0 ≤ j) (hj : j_q = j + 1) (h1 : j_q ≤ N) (w : Wf c) (p : kF K j = 14) (v : kV K j = 0) (m : cMd c = 0) (d : Dtr (cCp c) (cA c) 1) (g : Gd K N P j_q (sR c (cC c) (cC c) (cC c))) : Gs K N P j c := Gs_1 h0 hj h1 w (Or.inr (Or.inr (Or.inr (Or.inr (Or.inr (Or.inr (Or.inr (Or.inr (Or.inr (Or.inl (⟨p, v, m, d, rfl⟩))))))))))) g
theorem Gs_fil {j j_q : Int} {c : Cx} {o n x : Int} {q : Cp} (h0 : 0 ≤ j) (hj : j_q = j + 1) (h1 : j_q ≤ N) (w : Wf c) (p : kF K j = 15) (v : kV K j = 14) (m : cMd c = 0) (a : cA c = (2, o, 1)) (b : cB c = (5, n, 0)) (d : cC c = (5, x, 0)) (o1 : 1 ≤ o) (n1 : 1 ≤ n) (f : Fre c o n) (hq : q = (1, o, n, 0, r0) ∨ (x = -1 ∧ q = (2, o, n, 12, r0))) (g : Gd K N P j_q (sC (a0 c) (q :: cCp c))) : Gs K N P j c := by
  rcases hq with rfl | ⟨hx, rfl⟩
  · exact Gs_1 h0 hj h1 w (Or.inr (Or.inr (Or.inr (Or.inr (Or.inr (Or.inr (Or.inr (Or.inr (Or.inr (Or.inr (Or.inl (⟨p, v, m, o, n, x, a, b, d, o1, n1, f, Or.inl rfl⟩)))))))))))) g
  · exact Gs_1 h0 hj h1 w (Or.inr (Or.inr (Or.inr (Or.inr (Or.inr (Or.inr (Or.inr (Or.inr (Or.inr (Or.inr (Or.inl (⟨p, v, m, o, n, x, a, b, d, o1, n1, f, Or.inr ⟨hx, rfl⟩⟩)))))))))))) g
theorem Gs_in {j j_q : Int} {c : Cx} (h0 : 0 ≤ j) (hj : j_q = j + 1) (h1 : j_q ≤ N) (w : Wf c) (p : kF K j = 15) (v : kV K j = 20) (dw : cDw c = 0) (m : cMd c = 0) (a : Chr (cCp c) (cA c) 8) (d : Dtr (cCp c) (cB c) 1) (g : Gd K N P j_q (a0 c)) : Gs K N P j c := Gs_1 h0 hj h1 w (Or.inr (Or.inr (Or.inr (Or.inr (Or.inr (Or.inr (Or.inr (Or.inr (Or.inr (Or.inr (Or.inr (Or.inr (Or.inr (Or.inr (Or.inr (Or.inr (Or.inr (Or.inr (Or.inr (Or.inr (Or.inl (⟨p, v, dw, m, a, d, rfl⟩)))))))))))))))))))))) g
theorem Gs_out {j j_q : Int} {c : Cx} (h0 : 0 ≤ j) (hj : j_q = j + 1) (h1 : j_q ≤ N) (w : Wf c) (p : kF K j = 15) (v : kV K j = 21) (dw : cDw c = 0) (m : cMd c = 0) (a : Chr (cCp c) (cA c) 4) (g : Gd K N P j_q (a0 c)) : Gs K N P j c := Gs_1 h0 hj h1 w (Or.inr (Or.inr (Or.inr (Or.inr (Or.inr (Or.inr (Or.inr (Or.inr (Or.inr (Or.inr (Or.inr (Or.inr (Or.inr (Or.inr (Or.inr (Or.inr (Or.inr (Or.inr (Or.inr (Or.inr (Or.inr (Or.inl (⟨p, v, dw, m, a, rfl⟩))))))))))))))))))))))) g
theorem Gs_alt {j j_q : Int} {c : Cx} (h0 : 0 ≤ j) (hj : j_q = j + 1) (h1 : j_q ≤ N) (w : Wf c) (p : kF K j = 15) (v : kV K j = 22) (dw : cDw c = 0) (m : cMd c = 0) (g : Gd K N P j_q (sM (a0 c) (1, [], []))) : Gs K N P j c := Gs_1 h0 hj h1 w (Or.inr (Or.inr (Or.inr (Or.inr (Or.inr (Or.inr (Or.inr (Or.inr (Or.inr (Or.inr (Or.inr (Or.inr (Or.inr (Or.inr (Or.inr (Or.inr (Or.inr (Or.inr (Or.inr (Or.inr (Or.inr (Or.inr (Or.inl (⟨p, v, dw, m, rfl⟩)))))))))))))))))))))))) g
theorem Gs_enc {j j_q : Int} {c : Cx} {g h : Int} {q q2 : Cp} (h0 : 0 ≤ j) (hj : j_q = j + 1) (h1 : j_q ≤ N) (w : Wf c) (p : kF K j = 15) (v : kV K j = 23) (dw : cDw c = 0) (m : cMd c = 1) (hq : q ∈ cCp c) (k1 : qK q = 8) (k2 : qO q = h) (k3 : qU q / 8 % 2 = 1) (hq2 : q2 ∈ cCp c) (k4 : qK q2 = 6) (k5 : qO q2 = g) (a : cA c = (3, h, 1)) (b : cB c = (3, g, 1)) (gd : Gd K N P j_q (sM (a0 c) (1, (g, h) :: cPe c, cWs c))) : Gs K N P j c := Gs_1 h0 hj h1 w (Or.inr (Or.inr (Or.inr (Or.inr (Or.inr (Or.inr (Or.inr (Or.inr (Or.inr (Or.inr (Or.inr (Or.inr (Or.inr (Or.inr (Or.inr (Or.inr (Or.inr (Or.inr (Or.inr (Or.inr (Or.inr (Or.inr (Or.inr (Or.inl (⟨p, v, dw, m, g, h, q, q2, hq, k1, k2, k3, hq2, k4, k5, a, b, rfl⟩))))))))))))))))))))))))) gd
theorem Gs_ens {j j_q : Int} {c : Cx} (h0 : 0 ≤ j) (hj : j_q = j + 1) (h1 : j_q ≤ N) (w : Wf c) (p : kF K j = 15) (v : kV K j = 24) (dw : cDw c = 0) (m : cMd c = 1) (g : Gd K N P j_q (a0 c)) : Gs K N P j c := Gs_1 h0 hj h1 w (Or.inr (Or.inr (Or.inr (Or.inr (Or.inr (Or.inr (Or.inr (Or.inr (Or.inr (Or.inr (Or.inr (Or.inr (Or.inr (Or.inr (Or.inr (Or.inr (Or.inr (Or.inr (Or.inr (Or.inr (Or.inr (Or.inr (Or.inr (Or.inr (Or.inl (⟨p, v, dw, m, rfl⟩)))))))))))))))))))))))))) g
theorem Gs_awt {j j_q : Int} {c : Cx} (h0 : 0 ≤ j) (hj : j_q = j + 1) (h1 : j_q ≤ N) (w : Wf c) (p : kF K j = 15) (v : kV K j = 25) (dw : cDw c = 0) (m : cMd c = 1) (g : Gd K N P j_q (a0 c)) : Gs K N P j c := Gs_1 h0 hj h1 w (Or.inr (Or.inr (Or.inr (Or.inr (Or.inr (Or.inr (Or.inr (Or.inr (Or.inr (Or.inr (Or.inr (Or.inr (Or.inr (Or.inr (Or.inr (Or.inr (Or.inr (Or.inr (Or.inr (Or.inr (Or.inr (Or.inr (Or.inr (Or.inr (Or.inr (Or.inl (⟨p, v, dw, m, rfl⟩))))))))))))))))))))))))))) g
theorem Gs_dsc {j j_q : Int} {c : Cx} {g h x : Int} {l : List (Int × Int)} (h0 : 0 ≤ j) (hj : j_q = j + 1) (h1 : j_q ≤ N) (w : Wf c) (p : kF K j = 15) (v : kV K j = 26) (dw : cDw c = 0) (m : cMd c = 1) (a : cA c = (3, h, 1)) (b : cB c = (3, g, 1)) (d : cC c = (5, x, 0)) (x0 : 0 ≤ x) (q8 : ∃ q ∈ cCp c, qK q = 8 ∧ qO q = h ∧ qU q / 8 % 2 = 1) (l1 : ∀ e ∈ cPe c, e = (g, h) ∨ e ∈ l) (l2 : ∀ e ∈ l, e ∈ cPe c) (gd : Gd K N P j_q (sM (a0 c) (1, l, x :: cWs c))) : Gs K N P j c := Gs_1 h0 hj h1 w (Or.inr (Or.inr (Or.inr (Or.inr (Or.inr (Or.inr (Or.inr (Or.inr (Or.inr (Or.inr (Or.inr (Or.inr (Or.inr (Or.inr (Or.inr (Or.inr (Or.inr (Or.inr (Or.inr (Or.inr (Or.inr (Or.inr (Or.inr (Or.inr (Or.inr (Or.inr (Or.inl (⟨p, v, dw, m, g, h, x, l, a, b, d, x0, q8, l1, l2, rfl⟩)))))))))))))))))))))))))))) gd
theorem Gs_dss {j j_q : Int} {c : Cx} {x : Int} (h0 : 0 ≤ j) (hj : j_q = j + 1) (h1 : j_q ≤ N) (w : Wf c) (p : kF K j = 15) (v : kV K j = 27) (dw : cDw c = 0) (m : cMd c = 1) (b : cB c = (5, x, 0)) (x0 : 0 ≤ x) (g : Gd K N P j_q (sM (a0 c) (1, cPe c, x :: cWs c))) : Gs K N P j c := Gs_1 h0 hj h1 w (Or.inr (Or.inr (Or.inr (Or.inr (Or.inr (Or.inr (Or.inr (Or.inr (Or.inr (Or.inr (Or.inr (Or.inr (Or.inr (Or.inr (Or.inr (Or.inr (Or.inr (Or.inr (Or.inr (Or.inr (Or.inr (Or.inr (Or.inr (Or.inr (Or.inr (Or.inr (Or.inr (Or.inl (⟨p, v, dw, m, x, b, x0, rfl⟩))))))))))))))))))))))))))))) g
theorem Gs_aen {j : Int} {c : Cx} (h0 : 0 ≤ j) (h1 : j < N) (w : Wf c) (p : kF K j = 15) (v : kV K j = 28) (dw : cDw c = 0) (m : cMd c = 1) (pe : cPe c = []) (g0 : Gd K N P (j + 1) (sM (a0 c) (0, [], []))) (g : ∀ x ∈ cWs c, ∃ t, kP K t = kP K (j + 1) + x ∧ Gd K N P t (sM (a0 c) (0, [], []))) : Gs K N P j c := by
  have ex : ∀ l : List Int, (∀ x ∈ l, ∃ t, kP K t = kP K (j + 1) + x ∧ Gd K N P t (sM (a0 c) (0, [], []))) → ∃ S : Sc, (∀ s ∈ S, Gd K N P s.1 s.2) ∧ ∀ x ∈ l, ∃ t, kP K t = kP K (j + 1) + x ∧ (t, sM (a0 c) (0, [], [])) ∈ S := fun l => by
    induction l with
    | nil => exact fun _ => ⟨[], fun s hs => absurd hs List.not_mem_nil, fun x hx => absurd hx List.not_mem_nil⟩
    | cons y l ih =>
      intro hl
      obtain ⟨S, s1, s2⟩ := ih (fun x hx => hl x (List.mem_cons_of_mem _ hx))
      obtain ⟨t, t1, t2⟩ := hl y List.mem_cons_self
      refine ⟨(t, sM (a0 c) (0, [], [])) :: S, fun s hs => ?_, fun x hx => ?_⟩
      · rcases List.mem_cons.mp hs with e | hs
        · rw [e]
          exact t2
        · exact s1 s hs
      · rcases List.mem_cons.mp hx with e | hx
        · exact ⟨t, by rw [e]; exact t1, List.mem_cons_self⟩
        · obtain ⟨t_q, t1', t2'⟩ := s2 x hx
          exact ⟨t_q, t1', List.mem_cons_of_mem _ t2'⟩
  obtain ⟨S, s1, s2⟩ := ex (cWs c) g
  refine ⟨h0, h1, c, (j + 1, sM (a0 c) (0, [], [])) :: S, Wkr_r w, Or.inr (Or.inr (Or.inr (Or.inr (Or.inr (Or.inr (Or.inr (Or.inr (Or.inr (Or.inr (Or.inr (Or.inr (Or.inr (Or.inr (Or.inr (Or.inr (Or.inr (Or.inr (Or.inr (Or.inr (Or.inr (Or.inr (Or.inr (Or.inr (Or.inr (Or.inr (Or.inr (Or.inr (⟨p, v, dw, m, pe, List.mem_cons_self, fun x hx => by obtain ⟨t, t1, t2⟩ := s2 x hx; exact ⟨t, t1, List.mem_cons_of_mem _ t2⟩⟩)))))))))))))))))))))))))))), fun s hs => ?_⟩
  rcases List.mem_cons.mp hs with e | hs
  · rw [e]
    exact g0
  · exact s1 s hs
theorem Gs_j {j t : Int} {c : Cx} (h0 : 0 ≤ j) (h1 : j < N) (w : Wf c) (p : kF K j = 0) (m : cMd c = 0) (ht : kP K t = kP K (j + 1) + kV K j) (g : Gd K N P t (a0 c)) : Gs K N P j c := by
  refine ⟨h0, h1, c, [(t, a0 c)], Wkr_r w, Or.inr (Or.inr (Or.inr (Or.inr (Or.inr (Or.inr (Or.inr (Or.inl (⟨p, m, t, ht, rfl⟩)))))))), fun s hs => ?_⟩
  rw [List.mem_singleton.mp hs]
  exact g
theorem Gs_ret {j : Int} {c : Cx} (h0 : 0 ≤ j) (h1 : j < N) (w : Wf c) (p : kF K j = 15) (v : kV K j = 19) (k : cEk c = 1) (d : cDw c = cZ c + 3) (m : cMd c = 0) : Gs K N P j c := ⟨h0, h1, c, [], Wkr_r w, Or.inr (Or.inr (Or.inr (Or.inr (Or.inr (Or.inr (Or.inr (Or.inr (Or.inr (Or.inr (Or.inr (Or.inr (Or.inr (Or.inl (⟨p, v, k, d, m⟩)))))))))))))), fun s hs => absurd hs List.not_mem_nil⟩
theorem Gs_stp {j : Int} {c : Cx} (h0 : 0 ≤ j) (h1 : j < N) (w : Wf c) (p : kF K j = 15) (v : kV K j = 18 ∨ kV K j = 29) (m : cMd c = 0) : Gs K N P j c := ⟨h0, h1, c, [], Wkr_r w, Or.inr (Or.inr (Or.inr (Or.inr (Or.inr (Or.inr (Or.inr (Or.inr (Or.inr (Or.inr (Or.inr (Or.inr (Or.inr (Or.inr (Or.inl (⟨p, v, m⟩))))))))))))))), fun s hs => absurd hs List.not_mem_nil⟩
theorem Gs_sph {j : Int} {c : Cx} (h0 : 0 ≤ j) (h1 : j < N) (w : Wf c) (p : kF K j = 15) (v : kV K j = 18) (m : cMd c = 2) (k : cPe c = []) : Gs K N P j c := ⟨h0, h1, c, [], Wkr_r w, Or.inr (Or.inr (Or.inr (Or.inr (Or.inr (Or.inr (Or.inr (Or.inr (Or.inr (Or.inr (Or.inr (Or.inr (Or.inr (Or.inr (Or.inr (Or.inr (Or.inr (Or.inr (Or.inl (⟨p, v, m, k⟩))))))))))))))))))), fun s hs => absurd hs List.not_mem_nil⟩
theorem Gs_edp {j : Int} {c : Cx} (h0 : 0 ≤ j) (h1 : j < N) (w : Wf c) (p : kF K j = 15) (v : kV K j = 17) (k : cEk c = 2) (m : cMd c = 0) (a : cA c = (2, cPd c, 1)) : Gs K N P j c := ⟨h0, h1, c, [], Wkr_r w, Or.inr (Or.inr (Or.inr (Or.inr (Or.inr (Or.inr (Or.inr (Or.inr (Or.inr (Or.inr (Or.inr (Or.inr (Or.inr (Or.inr (Or.inr (Or.inr (Or.inr (Or.inr (Or.inr (Or.inl (⟨p, v, k, m, a⟩)))))))))))))))))))), fun s hs => absurd hs List.not_mem_nil⟩
end
theorem En_w {T : Nat → Nat → Int} {F : Int → Int} {nw : Int} {V : Nat → Prop} {U : Int → Int → Int → Int → Prop} {c : Cx} {f : Int} (h : En T F nw V U c f) : Wf c := by
  obtain ⟨a, b, d, e, _⟩ := En_r h
  exact Wf_m (by rw [a]; exact s0) (by rw [b]; exact s0) (by rw [d]; exact s0) (by omega)
/-- what comes with registers of which nothing is known -/
theorem Gd_r {K : Kd} {N : Int} {P : Int → Cx → Prop} {j : Int} {c : Cx} {a b d : Rt} (hm : cMd c ≠ 1) (g : Gd K N P j (sR c r0 r0 r0)) : Gd K N P j (sR c a b d) := Gd_w (e := sR c r0 r0 r0) ⟨rfl, Or.inl rfl, Or.inr rfl, Or.inr rfl, Or.inr rfl, rfl, s0, s0, s0, fun _ _ q => absurd q hm⟩ g
/-- an expression, where nothing is known of the registers -/
theorem gE_0 {T C : Nat → Nat → Int} {F S : Int → Int} {nw N : Int} {V : Nat → Prop} {U : Int → Int → Int → Int → Prop} {P : Int → Cx → Prop} {n : Nat} {e k k_q l0 l1 f f_q : Int} {c : Cx} (hE : En T F nw V U c f) (hn : n ≤ 30) (h : gE T C F S nw n e k k_q l0 l1) (hl : lE T n e f_q (cZ c)) (hf : f ≤ f_q) (hk : k_q ≤ N) (g : Gd (Kc C) N P k_q c) : Gs (Kc C) N P k c := by
  obtain ⟨a, b, d, m, dw, bf, f1⟩ := En_r hE
  refine gE_g hn h hl hk (Bf_m bf hf) (by omega) dw m (by rw [a]; exact s0) ?_
  rw [En_i hE] at g
  exact Gd_r (by omega) g
/-- V := E, behind E -/
theorem gT_g {T C : Nat → Nat → Int} {F S : Int → Int} {nw N : Int} {V : Nat → Prop} {U : Int → Int → Int → Int → Prop} {P : Int → Cx → Prop} {x k k_q l0 l1 f sb_q lo hi : Int} {c : Cx} (hE : En T F nw V U c f) (h : gT T C F S nw x k k_q l0 l1) (w : wR T V sb_q 20 0 x lo hi) (hl : lR T x f (cZ c)) (hx : 0 < x) (hk : k_q ≤ N) (g : Gd (Kc C) N P k_q c) : Gs (Kc C) N P k c := by
  obtain ⟨a, b, d, m, dw, bf, f1⟩ := En_r hE
  have nm : cMd c ≠ 1 := by omega
  rw [En_i hE] at g
  have wf := En_w hE
  rcases h with ⟨k3, y, h1, h2⟩ | ⟨k3, k6, h1⟩ | ⟨k3, k6, h1⟩
  · obtain ⟨i1, i2, i3, i4⟩ := ST_k h2
    refine gD_d hE (fun q hq => hq) bf dw m (by rw [a]; exact s0) h1 (Or.inl ⟨rfl, w⟩) (fun q => lE_sz (by omega) (Int.le_refl _) (hl hx q)) (by omega) (fun t dt st => Gs_d (Gs_stn i2 i1 hk (Wf_m st (by show Sup (cCp c) (cA c); rw [a]; exact s0) s0 nm) i3 i4 m dt (Gd_r nm g)))
  · obtain ⟨z, h2, y, h3, h4⟩ := h1
    have h4 : k_q = y := h4
    subst h4
    obtain ⟨i1, i2, i3, i4⟩ := ST_k h2
    obtain ⟨j1, j2, j3, j4⟩ := ST_k h3
    obtain ⟨_, _, ⟨k2, sy, kr⟩ | w3⟩ := w
    · have es : ((T 17 x.toNat).toNat : Int) = T 17 x.toNat := by
        have := sy.1
        omega
      obtain ⟨q, hq, q1, q2, q3⟩ := (hE.1 _ sy.2.2).2 (Or.inl k6)
      have z1 := (hE.2.2.2.2.2.2.2 _ sy.2.2 (by omega)).2.2 (Or.inr k6)
      rw [es] at q2
      have kp : Kpt (cCp c) (wd T F nw (T 17 x.toNat)) := ⟨q, hq, q2, Or.inl q1⟩
      have hd : Dtr (cCp c) (3, wd T F nw (T 17 x.toNat), 1) 1 := ⟨q, hq, Or.inr ⟨rfl, q1, q2, by show (1 : Int) + 1 - 1 ≤ _; omega⟩⟩
      exact Gs_psh (t := (3, wd T F nw (T 17 x.toNat), 1)) i2 i1 (by omega) wf (Or.inr (Or.inr (Or.inl ⟨i3, dw, Or.inl ⟨by rw [i4], by rw [i4]; exact kp⟩⟩))) (Gs_d (Gs_stn j2 j1 hk (Wf_m (fun _ => kp) (by show Sup (cCp c) (cA c); rw [a]; exact s0) (by show Sup (cCp c) (cB c); rw [b]; exact s0) nm) j3 j4 m hd (Gd_r nm g)))
    · omega
  · obtain ⟨i1, i2, i3, i4⟩ := ST_k h1
    obtain ⟨_, _, ⟨k2, sy, kr⟩ | w3⟩ := w
    · have es : ((T 17 x.toNat).toNat : Int) = T 17 x.toNat := by
        have := sy.1
        omega
      have k1 : T 7 (T 17 x.toNat).toNat = 1 := by
        rcases kr with kr | kr
        · rcases kr.2 with q | q
          · exact q
          · exact absurd q k6
        · omega
      obtain ⟨q, hq, q1, q2, q3⟩ := (hE.1 _ sy.2.2).1 (Or.inl k1)
      have z1 := (hE.2.2.2.2.2.2.2 _ sy.2.2 (by omega)).2.2 (Or.inl k1)
      rw [es] at q2 q3
      exact Gs_stl i2 i1 hk wf i3 dw m (Or.inl ⟨⟨q, hq, q1, by rw [i4]; exact q2, by rw [i4]; omega⟩, rfl⟩) (Gd_r (c := c) nm g)
    · omega
/-- C ! E -/
theorem gOut_g {T C : Nat → Nat → Int} {F S : Int → Int} {nw N : Int} {V : Nat → Prop} {U : Int → Int → Int → Int → Prop} {P : Int → Cx → Prop} {x k a k_q l0 l1 f sb_q lo hi : Int} {c : Cx} (hE : En T F nw V U c f) (h : gD T C F S nw 20 x k a l0 l1) (h2 : ST C a k_q 15 21) (w : wR T V sb_q 20 1 x lo hi) (hlo : 0 ≤ lo) (hl : lR T x f (cZ c)) (hx : 0 < x) (hk : k_q ≤ N) (u : uC T S U x 4) (g : Gd (Kc C) N P k_q c) : Gs (Kc C) N P k c := by
  obtain ⟨ra, rb, rd, m, dw, bf, f1⟩ := En_r hE
  have nm : cMd c ≠ 1 := by omega
  rw [En_i hE] at g
  obtain ⟨i1, i2, i3, i4⟩ := ST_k h2
  refine gD_c (V := V) (sb_q := sb_q) (lo := lo) (hi := x) (f := f) h (fun q => ?_) hlo (fun q => lE_sz (by omega) (Int.le_refl _) (hl hx q)) (by omega) bf f1 dw m (by rw [ra]; exact s0) (ChU_e hE w u) (fun t ct st _ => Gs_d (Gs_out i2 i1 hk (Wf_m st (by show Sup (cCp c) (cA c); rw [ra]; exact s0) s0 nm) i3 i4 dw m ct (Gd_r nm g)))
  obtain ⟨_, _, w3 | w3⟩ := w
  · omega
  · exact w3.2.2.2
/-- C ? V -/
theorem gIn_g {T C : Nat → Nat → Int} {F S : Int → Int} {nw N : Int} {V : Nat → Prop} {U : Int → Int → Int → Int → Prop} {P : Int → Cx → Prop} {x y k a b k_q l0 l1 l2 f sb_q lo hi lo_q hi_q : Int} {c : Cx} (hE : En T F nw V U c f) (h0 : gD T C F S nw 20 y k a l0 l1) (h : gD T C F S nw 20 x a b l1 l2) (h2 : ST C b k_q 15 20) (wy : wR T V sb_q 20 0 y lo_q hi_q) (w : wR T V sb_q 20 1 x lo hi) (hlo : 0 ≤ lo) (hly : lR T y f (cZ c)) (hy : 0 < y) (hl : lR T x f (cZ c)) (hx : 0 < x) (hk : k_q ≤ N) (u : uC T S U x 8) (g : Gd (Kc C) N P k_q c) : Gs (Kc C) N P k c := by
  obtain ⟨ra, rb, rd, m, dw, bf, f1⟩ := En_r hE
  have nm : cMd c ≠ 1 := by omega
  have e0 := En_i hE
  rw [e0] at g
  obtain ⟨i1, i2, i3, i4⟩ := ST_k h2
  have := gD_le h
  refine gD_d hE (fun q hq => hq) bf dw m (by rw [ra]; exact s0) h0 (Or.inl ⟨rfl, wy⟩) (fun q => lE_sz (by omega) (Int.le_refl _) (hly hy q)) (by omega) (fun t dt st => Gs_d ?_)
  have hu : ChU T F S nw c x 8 := ChU_e hE w u
  refine gD_c (c := sR c t (cA c) r0) (V := V) (sb_q := sb_q) (lo := lo) (hi := x) (f := f) h (fun q => ?_) hlo (fun q => lE_sz (by omega) (Int.le_refl _) (hl hx q)) (by omega) bf f1 dw m st hu (fun t_q ct st_q _ => Gs_d (Gs_in i2 i1 hk (Wf_m st_q st s0 nm) i3 i4 dw m ct dt (Gd_r nm g)))
  obtain ⟨_, _, w3 | w3⟩ := w
  · omega
  · exact w3.2.2.2
