/-! THE CLASS'S SIDE: put's signs -/
def mo (sg k : Int) : Int := (if 1 ≤ k then tz (bt sg 0) else 0) + (if 2 ≤ k then tz (bt sg 8) else 0) + (if 3 ≤ k then tz (bt sg 16) else 0) + (if 4 ≤ k then tz (bt sg 24) else 0)
def nb (sg k : Int) : Int := (if 1 ≤ k then snb (bt sg 0) else 0) + (if 2 ≤ k then snb (bt sg 8) else 0) + (if 3 ≤ k then snb (bt sg 16) else 0) + (if 4 ≤ k then snb (bt sg 24) else 0)
theorem snb_g (z : Int) : (snb z = 0 ∧ (z = 0 ∨ z = 10 ∨ (32 ≤ z ∧ z ≤ 126))) ∨ (snb z = 1 ∧ z ≠ 0 ∧ z ≠ 10 ∧ ¬ (32 ≤ z ∧ z ≤ 126)) := by
  unfold snb
  by_cases h : z = 0 ∨ z = 10 ∨ (32 ≤ z ∧ z ≤ 126)
  · rw [if_pos h]
    exact Or.inl ⟨rfl, h⟩
  · rw [if_neg h]
    exact Or.inr ⟨rfl, fun w => h (Or.inl w), fun w => h (Or.inr (Or.inl w)), fun w => h (Or.inr (Or.inr w))⟩
theorem snb_c (z : Int) : 0 ≤ snb z ∧ snb z ≤ 1 := by
  rcases snb_g z with h | h
  · omega
  · omega
theorem mo_0 {sg : Int} : mo sg 0 = 0 := by
  unfold mo
  repeat' split
  all_goals omega
theorem nb_0 {sg : Int} : nb sg 0 = 0 := by
  unfold nb
  repeat' split
  all_goals omega
theorem mo_4 {sg : Int} : mo sg 4 = 0 + tz (bt sg 0) + tz (bt sg 8) + tz (bt sg 16) + tz (bt sg 24) := by
  unfold mo
  repeat' split
  all_goals omega
theorem nb_4 {sg : Int} : nb sg 4 = 0 + snb (bt sg 0) + snb (bt sg 8) + snb (bt sg 16) + snb (bt sg 24) := by
  unfold nb
  repeat' split
  all_goals omega
theorem mo_s {sg k : Int} (h0 : 0 ≤ k) (h4 : k < 4) : mo sg (k + 1) = mo sg k + tz (bt sg (8 * k)) ∧ mo sg (k + 1) ≤ mo sg 4 ∧ 0 ≤ mo sg k := by
  have b0 := tz_b (bt sg 0)
  have b1 := tz_b (bt sg 8)
  have b2 := tz_b (bt sg 16)
  have b3 := tz_b (bt sg 24)
  have e : k = 0 ∨ k = 1 ∨ k = 2 ∨ k = 3 := by omega
  rcases e with rfl | rfl | rfl | rfl
  · rw [show (8 : Int) * 0 = 0 by decide]
    unfold mo
    refine ⟨?_, ?_, ?_⟩
    all_goals (repeat' split)
    all_goals omega
  · rw [show (8 : Int) * 1 = 8 by decide]
    unfold mo
    refine ⟨?_, ?_, ?_⟩
    all_goals (repeat' split)
    all_goals omega
  · rw [show (8 : Int) * 2 = 16 by decide]
    unfold mo
    refine ⟨?_, ?_, ?_⟩
    all_goals (repeat' split)
    all_goals omega
  · rw [show (8 : Int) * 3 = 24 by decide]
    unfold mo
    refine ⟨?_, ?_, ?_⟩
    all_goals (repeat' split)
    all_goals omega
theorem nb_s {sg k : Int} (h0 : 0 ≤ k) (h4 : k < 4) : nb sg (k + 1) = nb sg k + snb (bt sg (8 * k)) ∧ nb sg (k + 1) ≤ nb sg 4 ∧ 0 ≤ nb sg k := by
  have b0 := snb_c (bt sg 0)
  have b1 := snb_c (bt sg 8)
  have b2 := snb_c (bt sg 16)
  have b3 := snb_c (bt sg 24)
  have e : k = 0 ∨ k = 1 ∨ k = 2 ∨ k = 3 := by omega
  rcases e with rfl | rfl | rfl | rfl
  · rw [show (8 : Int) * 0 = 0 by decide]
    unfold nb
    refine ⟨?_, ?_, ?_⟩
    all_goals (repeat' split)
    all_goals omega
  · rw [show (8 : Int) * 1 = 8 by decide]
    unfold nb
    refine ⟨?_, ?_, ?_⟩
    all_goals (repeat' split)
    all_goals omega
  · rw [show (8 : Int) * 2 = 16 by decide]
    unfold nb
    refine ⟨?_, ?_, ?_⟩
    all_goals (repeat' split)
    all_goals omega
  · rw [show (8 : Int) * 3 = 24 by decide]
    unfold nb
    refine ⟨?_, ?_, ?_⟩
    all_goals (repeat' split)
    all_goals omega
theorem bt_rg {x s : Int} : 0 ≤ bt x s ∧ bt x s ≤ 255 := and_le (by decide) (by decide)
theorem bsh (x : BitVec 32) (k : Nat) (hk : k ≤ 24) : (x >>> k) &&& 255#32 = (x.sshiftRight k) &&& 255#32 := by
  apply BitVec.eq_of_getLsbD_eq
  intro i hi
  rw [BitVec.getLsbD_and, BitVec.getLsbD_and, BitVec.getLsbD_ushiftRight, BitVec.getLsbD_sshiftRight]
  by_cases h : i < 8
  · have h1 : k + i < 32 := by omega
    have h2 : ¬ 32 ≤ i := by omega
    simp [h1, h2]
  · have c : ∀ i : Fin 32, 8 ≤ i.1 → (255#32).getLsbD i.1 = false := by decide
    rw [c ⟨i, hi⟩ (by show 8 ≤ i; omega), Bool.and_false, Bool.and_false]
theorem byt_e {x s : Int} (hs : s = 0 ∨ s = 8 ∨ s = 16 ∨ s = 24) : ((i32 x).toUInt32 >>> ((i32 s).toUInt32 &&& Int32.toUInt32 31)).toInt32 &&& i32 255 = i32 (bt x s) := by
  unfold bt
  rw [i32_of, i32_of]
  apply Int32.toBitVec_inj.mp
  rcases hs with rfl | rfl | rfl | rfl
  · exact bsh (i32 x).toBitVec 0 (by decide)
  · exact bsh (i32 x).toBitVec 8 (by decide)
  · exact bsh (i32 x).toBitVec 16 (by decide)
  · exact bsh (i32 x).toBitVec 24 (by decide)
theorem cx_byt {X : jX} {d : Nat} {e : jM} {pc pc_q : Nat} {l : jL} {st : List Value} {V : jH} {Q : jO → jH → Prop} {x s k : Int} (h1 : jGet' e pc = some (.iushr, 1)) (h2 : jGet' e (pc + 1) = some (.sipush 255, 3)) (h3 : jGet' e (pc + 4) = some (.iand, 1)) (h0 : 0 ≤ k) (h4 : k < 4) (hs : s = 8 * k) (hp : pc + 5 = pc_q) (kk : wj X d e (pc_q, l, .int (i32 (bt x (8 * k))) :: st, V) Q) : wj X d e (pc, l, .int (i32 s) :: .int (i32 x) :: st, V) Q := by
  have hk : s = 0 ∨ s = 8 ∨ s = 16 ∨ s = 24 := by omega
  rw [← hs, ← byt_e hk] at kk
  refine jx_ar (pc_q := pc + 1) (st_q := .int (((i32 x).toUInt32 >>> ((i32 s).toUInt32 &&& Int32.toUInt32 31)).toInt32) :: st) h1 rfl rfl rfl ?_
  refine jx_ar (pc_q := pc + 4) (st_q := .int (i32 255) :: .int (((i32 x).toUInt32 >>> ((i32 s).toUInt32 &&& Int32.toUInt32 31)).toInt32) :: st) h2 rfl rfl (by omega) ?_
  exact jx_ar (pc_q := pc_q) h3 rfl rfl (by omega) kk
