/-! ONE STEP: whatever its rule -/
section
variable {K : Kd} {N : Int} {ty : Int → Int} {g : Int → Fm} {A A_q : Nat → Nat → Int} {p r : Int}
theorem Rul_f {j : Int} {c : Cx} {S : Sc} (R : Rul K j c S) : kF K j ≠ 2 ∧ kF K j ≠ 6 ∧ 0 ≤ kF K j ∧ kF K j ≤ 15 := by
  rcases R with ⟨t, hp1, hS⟩ | ⟨hk, hS⟩ | ⟨k, _⟩ | ⟨k, _⟩ | ⟨k, _⟩ | ⟨k, _⟩ | ⟨k, _⟩ | ⟨k, _⟩ | ⟨k, _⟩ | ⟨k, _⟩ | ⟨k, _⟩ | ⟨k, _⟩ | ⟨k, _⟩ | ⟨k, _⟩ | ⟨k, _⟩ | ⟨k, _⟩ | ⟨k, _⟩ | ⟨k, _⟩ | ⟨k, _⟩ | ⟨k, _⟩ | ⟨k, _⟩ | ⟨k, _⟩ | ⟨k, _⟩ | ⟨k, _⟩ | ⟨k, _⟩ | ⟨k, _⟩ | ⟨k, _⟩ | ⟨k, _⟩ | ⟨k, _⟩
  · rcases hp1 with ⟨k, _⟩ | ⟨k, _⟩ | ⟨k, _⟩ | ⟨k, _⟩ <;> omega
  all_goals omega
theorem step_ac {S : Sc} (s : Sby K N) (kb : Kb K) (hp : 0 ≤ p) (hI : Ib A) (h : SF K N ty g A p r) (R : Rul K (fSt (g r)) (fCx (g r)) S) (hs : ∀ q ∈ S, Gd K N (fun _ _ => False) q.1 q.2) (f15 : kF K (fSt (g r)) ≠ 15) (ha : acR A A_q p (kF K (fSt (g r))) (kV K (fSt (g r)))) : Nxs K N ty g (ldM A p) A_q p := by
  rcases R with ⟨t, hp1, hS⟩ | ⟨hk, hS⟩ | ⟨k, _⟩ | ⟨k, _⟩ | ⟨k, _⟩ | ⟨k, _⟩ | ⟨k, t, ht, hS⟩ | ⟨k, md, t, ht, hS⟩ | ⟨k, dw, md, l, hn, hS⟩ | ⟨k, v, md, hn, hS⟩ | ⟨k, _⟩ | ⟨k, ek, md, ht⟩ | ⟨k, dw, md, t, c1, c2, ht, w1, ab, ca, k1, k2, k3, k4, k5, k6, hS⟩ | ⟨k, _⟩ | ⟨k, _⟩ | ⟨k, _⟩ | ⟨k, dw, md, w, b, c0, ks, kv, w1, w2, ca, fr, qa, qb, wk0, ab, ov, kk, hS⟩ | ⟨k, _⟩ | ⟨k, _⟩ | ⟨k, _⟩ | ⟨k, _⟩ | ⟨k, _⟩ | ⟨k, _⟩ | ⟨k, _⟩ | ⟨k, _⟩ | ⟨k, _⟩ | ⟨k, _⟩ | ⟨k, _⟩ | ⟨k, _⟩
  · exact ru_psh s h hp1 f15 (Gd_1 hs hS) ha
  · exact ru_any s h hk (Gd_1 hs hS) ha
  · exact absurd k f15
  · exact absurd k f15
  · exact absurd k f15
  · exact absurd k f15
  · exact ru_cj s kb h k ht (hs (fSt (g r) + 1, _) (by rw [hS]; exact List.mem_cons_self)) (hs (t, _) (by rw [hS]; exact List.mem_cons_of_mem _ List.mem_cons_self)) ha
  · exact ru_j s kb hp h k md ht (Gd_1 hs hS) ha
  · exact ru_stl s hp h k dw md hn (Gd_1 hs hS) ha
  · exact ru_stn s hp hI h k v md hn (Gd_1 hs hS) ha
  · exact absurd k f15
  · exact ru_ajw s h k ek md ht hs ha
  · exact ru_call s kb hp h k dw md ht w1 ab ca k1 k2 k3 k4 k5 k6 (hs (fSt (g r) + 1, c1) (by rw [hS]; exact List.mem_cons_self)) (hs (t, c2) (by rw [hS]; exact List.mem_cons_of_mem _ List.mem_cons_self)) ha
  · exact absurd k f15
  · exact absurd k f15
  · exact absurd k f15
  · exact ru_par s hp h k dw md kv w1 w2 ca qa qb wk0 ab ov kk (hs (b, c0) (by rw [hS]; exact List.mem_cons_self)) (hs (fSt (g r) + 1, _) (by rw [hS]; exact List.mem_cons_of_mem _ List.mem_cons_self)) (fun k hk => hs (k.2.1, k.2.2) (by rw [hS]; exact List.mem_cons_of_mem _ (List.mem_cons_of_mem _ (List.mem_map.mpr ⟨k, hk, rfl⟩)))) ha
  all_goals exact absurd k f15
/-- what OUT to a link leaves -/
def Nxl (K : Kd) (N : Int) (ty : Int → Int) (g : Int → Fm) (A A_q : Nat → Nat → Int) (p r : Int) : Prop := ∃ a g_q, A 60 p.toNat = a ∧ 0 ≤ a ∧ a ≤ 11 ∧ ty (-1 - a) / 4 % 2 = 1 ∧ SI K N ty g_q A_q p ∧ X2 g_q ∧ Lst ty (ldM A p) g (ldM A_q p) g_q ∧ Lka (ldM A_q p) g_q a r
theorem step_op {it im om : Int} {S : Sc} (s : Sby K N) (kb : Kb K) (kr : Kr K N) (hp : 0 ≤ p) (hI : Ib A) (h : SF K N ty g A p r) (j0 : 0 ≤ fSt (g r)) (j1 : fSt (g r) < N) (R : Rul K (fSt (g r)) (fCx (g r)) S) (hs : ∀ q ∈ S, Gd K N (fun _ _ => False) q.1 q.2) (f15 : kF K (fSt (g r)) = 15) (ha : opR A A_q it im om p (kV K (fSt (g r)))) : ((kV K (fSt (g r)) = 21 → ∃ a, A 60 p.toNat = a ∧ ¬ (0 ≤ a ∧ a ≤ 11)) ∧ Nxs K N ty g (ldM A p) A_q p) ∨ (kV K (fSt (g r)) = 21 ∧ Nxl K N ty g A A_q p r) := by
  have no : kV K (fSt (g r)) ≠ 21 → Nxs K N ty g (ldM A p) A_q p → ((kV K (fSt (g r)) = 21 → ∃ a, A 60 p.toNat = a ∧ ¬ (0 ≤ a ∧ a ≤ 11)) ∧ Nxs K N ty g (ldM A p) A_q p) ∨ (kV K (fSt (g r)) = 21 ∧ Nxl K N ty g A A_q p r) := fun n x => Or.inl ⟨fun q => absurd q n, x⟩
  rcases R with ⟨t, hp1, hS⟩ | ⟨hk, hS⟩ | ⟨k, v1, v2, md, t, ht, hS⟩ | ⟨k, v, hS⟩ | ⟨k, v, md, ht⟩ | ⟨k, v, ca, ht, hS⟩ | ⟨k, _⟩ | ⟨k, _⟩ | ⟨k, _⟩ | ⟨k, _⟩ | ⟨k, v, md, ht⟩ | ⟨k, _⟩ | ⟨k, _⟩ | ⟨k, v, ek, dw, md⟩ | ⟨k, v, md⟩ | ⟨k, v, md, ek⟩ | ⟨k, _⟩ | ⟨k, v, md, d, t, l, pe, hl, ca, cb, cb', hS⟩ | ⟨k, v, md, pe⟩ | ⟨k, v, ek, md, ca⟩ | ⟨k, v, dw, md, ca, cb, hS⟩ | ⟨k, v, dw, md, ca, hS⟩ | ⟨k, v, dw, md, hS⟩ | ⟨k, v, dw, md, gg, hh, q1, q2, hq1, k8, ko, ku, hq2, k6, ko2, ca, cb, hS⟩ | ⟨k, v, dw, md, hS⟩ | ⟨k, v, dw, md, hS⟩ | ⟨k, v, dw, md, gg, hh, xx, l, ca, cb, cc, x0, q8, y1, y2, hS⟩ | ⟨k, v, dw, md, xx, cb, x0, hS⟩ | ⟨k, v, dw, md, pe, y1, y2⟩
  · refine no (fun q => ?_) (ru_self s h hp1 f15 (Gd_1 hs hS) ha)
    rcases hp1 with ⟨k, _⟩ | ⟨k, _⟩ | ⟨k, _⟩ | ⟨k, kv, _⟩ <;> omega
  · omega
  · exact no (by omega) (ru_two s hI h v1 v2 md ht (Gd_1 hs hS) ha)
  · exact no (by omega) (ru_rev s h v (Gd_1 hs hS) ha)
  · exact no (by omega) (ru_chk s h v md ht hs ha)
  · exact no (by omega) (ru_ldp s kb h v ca ht (Gd_1 hs hS) ha)
  · omega
  · omega
  · omega
  · omega
  · exact no (by omega) (ru_fil s hp h v md ht hs ha)
  · omega
  · omega
  · exact no (by omega) (ru_ret s h v ek dw md ha)
  · exact no (by omega) (ru_stop h v md ha)
  · exact no (by omega) (ru_done h v md ha)
  · omega
  · exact no (by omega) (ru_stp s kb hp h v md pe hl ca cb cb' (Gd_1 hs hS) ha)
  · exact no (by omega) (ru_sph h v md ha)
  · exact no (by omega) (ru_end hp hI h v ek md ca ha)
  · exact no (by omega) (ru_in s hp h v dw md ca cb (Gd_1 hs hS) ha)
  · rcases ru_out s hp h v dw md ca (Gd_1 hs hS) ha with ⟨a, w1, w2, w3⟩ | w
    · exact Or.inl ⟨fun _ => ⟨a, w1, w2⟩, w3⟩
    · exact Or.inr ⟨v, w⟩
  · exact no (by omega) (ru_alt s hp h v dw md (Gd_1 hs hS) ha)
  · exact no (by omega) (ru_enc s hp h v dw md hq1 k8 ko ku hq2 k6 ko2 ca cb (Gd_1 hs hS) ha)
  · exact no (by omega) (ru_ens s hp h v dw md (Gd_1 hs hS) ha)
  · exact no (by omega) (ru_awt s hp h v dw md (Gd_1 hs hS) ha)
  · exact no (by omega) (ru_dsc s hp h v dw md ca cb cc q8 y1 y2 (Gd_1 hs hS) ha)
  · exact no (by omega) (ru_dss s hp h v dw md cb (Gd_1 hs hS) ha)
  · exact no (by omega) (ru_aen s kb kr hp h j0 j1 f15 v dw md pe y1 y2 hs ha)
end
