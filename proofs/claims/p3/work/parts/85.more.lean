/-! declared names; the frame is entered and left -/
def fm (m : Int → Int) (a n v : Int) : Int → Int := fun y => if a ≤ y ∧ y < a + n then v else m y
theorem fm_i {m : Int → Int} {a n v y : Int} (h : a ≤ y ∧ y < a + n) : fm m a n v y = v := if_pos h
theorem fm_o {m : Int → Int} {a n v y : Int} (h : ¬ (a ≤ y ∧ y < a + n)) : fm m a n v y = m y := if_neg h
theorem MI_fil {K : Kd} {N : Int} {m ty : Int → Int} {g : Int → Fm} {r j o n v u kk : Int} {e : Cx} (h : MI K N m ty g) (hr : fOn (g r) = 1) (hu : fSu (g r) = 0) (hx : fSx (g r) = 0) (hd : cMd (fCx (g r)) = 0)
    (hn : 1 ≤ n) (ho : 1 ≤ o) (hf : Fre (fCx (g r)) o n) (hk : kk = 1 ∨ (kk = 2 ∧ v = -1))
    (o1 : Gd K N (fun _ _ => False) j e) (o2 : e.1 = (fCx (g r)).1) (o7 : e.2.2.2 = (fCx (g r)).2.2.2) (o8 : Sup (cCp e) (cA e) ∧ Sup (cCp e) (cB e) ∧ Sup (cCp e) (cC e)) (he : cCp e = (kk, o, n, u, r0) :: cCp (fCx (g r))) : MI K N (fm m (r + o) n v) (ut ty (r + o) n kk) (ug g r (mv (g r) j e)) := by
  obtain ⟨a1, a2, a3, a4, a5, a6⟩ := h.1 r hr
  obtain ⟨f1, f2, f3, f4⟩ := Fre_r hf a1 hn
  have L1 := a1.1
  have L4 := a1.2.2.2.1
  have n3 : ¬ kk = 3 := by omega
  have n4 : ¬ kk = 4 := by omega
  have n5 : ¬ kk = 5 := by omega
  have n6 : ¬ (kk = 6 ∨ kk = 7) := by omega
  have n8 : ¬ (kk = 4 ∨ kk = 8 ∨ kk = 9) := by omega
  have cw : ∀ k x t, Cw (fm m (r + o) n v) r (kk, o, n, u, r0) k x t → k = kk ∧ r + o ≤ x ∧ x < r + o + n := fun k x t c => by
    unfold Cw at c
    rcases c with c | c | c | c | c | c | c | c
    · obtain ⟨c1, c2, c3, c4⟩ := c
      exact ⟨c2.trans c1.symm, c3, c4⟩
    · obtain ⟨c1, c2, c3, c4, c5⟩ := c
      exact ⟨c2.trans c1.symm, c3, c4⟩
    · exact absurd c.1 n3
    · exact absurd c.1 n3
    · exact absurd c.1 n8
    · exact absurd c.1 n8
    · exact absurd c.1 n5
    · exact absurd c.1 n6
  refine MI_new (k := kk) h hr hu hx hd hn hf (fun x q => fm_o q) (fun q x x1 x2 => ?_) o1 o2 o7 o8 (fun c => ?_) (fun p k x t c => ?_)
  · rw [fm_i ⟨x1, x2⟩]
    omega
  · rw [he]
    refine Cok_c c (fun k x t q => ?_) hn ?_ ⟨fun q => absurd q n3, fun q => absurd q n4, fun q => absurd (Or.inr q) n8⟩ (fun q => absurd (Or.inr q) n6) (fun q => by rcases q with q | q; exact absurd (Or.inr (Or.inr q)) n8; exact absurd q.1 n3) (fun q => absurd q n5) n4 (fun q => ⟨f1, f2⟩) (fun q => show 16 ≤ r + o by omega)
    · obtain ⟨rfl, q1, q2⟩ := cw k x t q
      exact ⟨ut_i ⟨q1, q2⟩, by omega, by omega, Or.inl (by omega)⟩
    · unfold Own wN
      show kk = 5 ∨ (1 ≤ o ∧ o + (if kk = 1 ∨ kk = 2 then n else if kk = 5 then 0 else 1) ≤ _) ∨ (o + (if kk = 1 ∨ kk = 2 then n else if kk = 5 then 0 else 1) ≤ -3 ∧ _) ∨ _
      rw [if_pos (by omega)]
      exact Or.inr (Or.inl ⟨ho, by omega⟩)
  · rw [he] at c
    obtain ⟨q, hq, c⟩ := c
    rcases List.mem_cons.mp hq with e_q | hq
    · subst e_q
      obtain ⟨rfl, q1, q2⟩ := cw k x t c
      exact Or.inr ⟨by omega, by omega⟩
    · exact Or.inl ⟨t, sbt_r, (Cl_m p).mp ⟨q, hq, c⟩⟩
theorem Cok_0 {m ty : Int → Int} {W b lo hi z : Int} : Cok m ty W b lo hi z [] := ⟨fun k x u ⟨q, hq, _⟩ => absurd hq List.not_mem_nil, fun q hq => absurd hq List.not_mem_nil, fun q hq => absurd hq List.not_mem_nil⟩
theorem Sup_0 {l : List Cp} : Sup l r0 := fun q => absurd q (by decide)
/-- AJW: into the frame, out of it -/
theorem MI_ajw {K : Kd} {N : Int} {m ty : Int → Int} {g : Int → Fm} {r j w : Int} {l : List Cp} {R : Rt × Rt × Rt} (h : MI K N m ty g) (hr : fOn (g r) = 1) (hu : fSu (g r) = 0) (hx : fSx (g r) = 0) (hd : cMd (fCx (g r)) = 0)
    (hk : cEk (fCx (g r)) = 1) (hl : (l = cCp (fCx (g r)) ∧ R = (fCx (g r)).2.2.1) ∨ (l = [] ∧ R = (r0, r0, r0))) (hw : w = 0 ∨ w = cZ (fCx (g r)) + 3)
    (o1 : Gd K N (fun _ _ => False) j ((cEk (fCx (g r)), cPd (fCx (g r)), cZ (fCx (g r)), cD (fCx (g r)), w), l, R, (fCx (g r)).2.2.2)) : MI K N m ty (ug g r (mv (g r) j ((cEk (fCx (g r)), cPd (fCx (g r)), cZ (fCx (g r)), cD (fCx (g r)), w), l, R, (fCx (g r)).2.2.2))) := by
  obtain ⟨a1, a2, a3, a4, a5, a6⟩ := h.1 r hr
  have hf0 : fQ (g r) = cCp (fCx (g r)) := if_neg (by omega)
  rw [hf0] at a3
  have sA := a4.2.2.2.2.2.2.1
  have sB := a4.2.2.2.2.2.2.2.1
  have sCc := a4.2.2.2.2.2.2.2.2.1
  refine MI_leaf (w := w) h hr hu hx (fun x _ => ⟨rfl, fun _ => rfl⟩) o1 rfl (by rcases hw with q | q; exact Or.inl q; exact Or.inr ⟨hk, q⟩) ?_ (fun k x u c => ?_) (fun x _ t => t) (fun _ => rfl) ⟨Or.inl hd, fun q => absurd q (show ¬ cMd (fCx (g r)) = 1 by omega)⟩ ?_ (fun x hx2 => Or.inr (Or.inl ⟨hx2, rfl, fun a => absurd a (Att_0 hx (by omega))⟩))
  · rcases hl with ⟨rfl, _⟩ | ⟨rfl, _⟩
    · exact a3
    · exact Cok_0
  · rcases hl with ⟨rfl, _⟩ | ⟨rfl, _⟩
    · exact Or.inl ⟨u, sbt_r, c⟩
    · obtain ⟨q, hq, _⟩ := c
      exact absurd hq List.not_mem_nil
  · rcases hl with ⟨rfl, rfl⟩ | ⟨rfl, rfl⟩
    · exact ⟨sA, sB, sCc⟩
    · exact ⟨Sup_0, Sup_0, Sup_0⟩
