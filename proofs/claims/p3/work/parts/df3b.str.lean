/-! THE CLASS'S SIDE: a sign of a text -/
theorem jx_sc2 {X : jX} {d : Nat} {e : jM} {pc pc_q k0 a b c : Nat} {l : jL} {st : List Value} {V : jH} {x : List Char} {n j : Int} {Q : jO → jH → Prop} (h1 : jGet' e pc = some (.invokevirtual k0, 3)) (h2 : jFind jCl e.2.1 k0 = some (7, b, c)) (ha : jTx a = some x) (hs : jSum st ≤ 8 ∧ a < 31) (hn : (x.length : Int) = n) (h0 : 0 ≤ j) (hj : j < n) (hm : n ≤ 2147483647) (hp : pc + 3 = pc_q) (hx : ∀ c ∈ x, c.toNat < 128) (k : ∀ r : Int, 0 ≤ r ∧ r ≤ 127 → wj X d e (pc_q, l, .int (i32 r) :: st, V) Q) : wj X d e (pc, l, .int (i32 j) :: .ref a :: st, V) Q := by
  have hb : (x.getD (i32 j).toNatClampNeg 'A').toNat < 128 := by
    rw [List.getD_eq_getElem?_getD]
    cases w : x[(i32 j).toNatClampNeg]? with
    | none => decide
    | some q => exact hx q (List.mem_of_getElem? w)
  have hr : (Int32.ofNat (x.getD (i32 j).toNatClampNeg 'A').toNat).toInt = ((x.getD (i32 j).toNatClampNeg 'A').toNat : Int) := by
    rw [show Int32.ofNat (x.getD (i32 j).toNatClampNeg 'A').toNat = i32 ((x.getD (i32 j).toNatClampNeg 'A').toNat : Int) from (Int32.ofInt_eq_ofNat).symm]
    exact i32_to (by omega) (by omega)
  subst hp hn
  refine wj_step (fun call => ?_) (k (Int32.ofNat (x.getD (i32 j).toNatClampNeg 'A').toNat).toInt ⟨by rw [hr]; omega, by rw [hr]; omega⟩)
  have hi : jInvoke call e e.2.1 (.invokevirtual k0) 3 pc l (.int (i32 j) :: .ref a :: st) V = some (.inl (pc + 3, l, .int (i32 (Int32.ofNat (x.getD (i32 j).toNatClampNeg 'A').toNat).toInt) :: st, V)) := by
    simp only [jInvoke, h2, ha, if_pos (⟨hs.1, hs.2, i32_in h0 hj (by omega)⟩ : jSum st ≤ 8 ∧ a < 31 ∧ jIn (i32 j) x.length = true), i32_of]
  unfold jStep
  simp only [h1, jLoad, jArith, jBranch, jHeap, jRet, hi]
