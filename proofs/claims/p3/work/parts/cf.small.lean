/-! THE CLASS'S SIDE: small steps -/
theorem i8_rg (x : Int8) : -128 ≤ x.toInt ∧ x.toInt ≤ 127 := by
  have a := Int8.le_toInt x
  have b := Int8.toInt_lt x
  omega
theorem i8_in {x : Int} (h0 : -128 ≤ x) (h1 : x ≤ 127) : (i32 x).toInt8.toInt = x := by
  rw [Int32.toInt_toInt8, i32_to (by omega) (by omega)]
  exact Int.bmod_eq_of_le (by omega) (by omega)
theorem i8_32 (x : Int8) : x.toInt32 = i32 x.toInt := by
  have : x.toInt32.toInt = x.toInt := Int8.toInt_toInt32 x
  rw [← this, i32_of]
theorem cx_i2b {X : jX} {d : Nat} {e : jM} {pc pc_q : Nat} {l : jL} {st : List Value} {V : jH} {Q : jO → jH → Prop} {x : Int} (h1 : jGet' e pc = some (.i2b, 1)) (hp : pc + 1 = pc_q) (k : ∀ z : Int, (-128 ≤ z ∧ z ≤ 127) → (-128 ≤ x → x ≤ 127 → z = x) → wj X d e (pc_q, l, .int (i32 z) :: st, V) Q) : wj X d e (pc, l, .int (i32 x) :: st, V) Q :=
  jx_ar h1 rfl (by rw [← i8_32]; rfl) hp (k (i32 x).toInt8.toInt (i8_rg _) i8_in)
theorem cx_i2c {X : jX} {d : Nat} {e : jM} {pc pc_q : Nat} {l : jL} {st : List Value} {V : jH} {Q : jO → jH → Prop} {x : Int} (h1 : jGet' e pc = some (.i2c, 1)) (hp : pc + 1 = pc_q) (h0 : 0 ≤ x) (hx : x < 128) (k : wj X d e (pc_q, l, .int (i32 x) :: st, V) Q) : wj X d e (pc, l, .int (i32 x) :: st, V) Q :=
  jx_ar h1 rfl (by
    obtain ⟨n, rfl⟩ : ∃ n : Nat, x = (n : Int) := ⟨x.toNat, by omega⟩
    have q := (j_and (k := n) (by omega)).2.1
    have e2 : i32 (n : Int) = Int32.ofNat n := rfl
    rw [e2]
    show some (.int ((Int32.ofNat n).toUInt32 % 65536).toInt32 :: st) = _
    rw [q]) hp k
theorem and_le {x c : Int} (h0 : 0 ≤ c) (h1 : c ≤ 2147483647) : 0 ≤ (i32 x &&& i32 c).toInt ∧ (i32 x &&& i32 c).toInt ≤ c := by
  obtain ⟨n, rfl⟩ : ∃ n : Nat, c = (n : Int) := ⟨c.toNat, by omega⟩
  have e1 : (i32 (n : Int)).toBitVec.toNat = n := by
    show (BitVec.ofNat 32 n).toNat = n
    rw [BitVec.toNat_ofNat]
    omega
  have e2 : (i32 x &&& i32 (n : Int)).toBitVec.toNat ≤ n := by
    show ((i32 x).toBitVec &&& (i32 (n : Int)).toBitVec).toNat ≤ n
    rw [BitVec.toNat_and, e1]
    exact Nat.and_le_right
  have e3 : (i32 x &&& i32 (n : Int)).toInt = ((i32 x &&& i32 (n : Int)).toBitVec.toNat : Int) := by
    show (i32 x &&& i32 (n : Int)).toBitVec.toInt = _
    rw [BitVec.toInt_eq_toNat_cond, if_pos (by omega)]
  rw [e3]
  omega
theorem cx_bas2 {X : jX} {d : Nat} {e : jM} {pc pc_q : Nat} {l : jL} {st : List Value} {R : Nat → jC} {m : Nat} {tg ln : Int → Int} {F : Int → Int → Int} {Q : jO → jH → Prop} {a z y : Int} (h1 : jGet' e pc = some (.bastore, 1)) (hp : pc + 1 = pc_q) (ho : own m a) (hg : tg a = 20) (h0 : 0 ≤ z) (hz : z < ln a) (hl : ln a ≤ 1000000) (k : ∀ w : Int, (-128 ≤ w ∧ w ≤ 127) → (-128 ≤ y → y ≤ 127 → w = y) → wj X d e (pc_q, l, st, cV R m tg ln (uF F a z w)) Q) : wj X d e (pc, l, .int (i32 y) :: .int (i32 z) :: rv a :: st, cV R m tg ln F) Q := by
  have h6 := ho.1
  rw [rv_n (by omega)]
  refine jx_hp h1 rfl rfl rfl ?_ hp (k (i32 y).toInt8.toInt (i8_rg _) i8_in)
  have hx := cC_i (ln := ln) (F := F) (kd := 0) (show tg a = 20 + ((0 : Nat) : Int) by omega) (by omega)
  have hy : vp_nar .byte (i32 y) = i32 (i32 y).toInt8.toInt := by rw [vp_nar_byte, i8_32]
  simp only [jHeap, cV_at ho, hx]
  rw [if_pos (jIn_t (n := (ln a).toNat) h0 (by omega) (by omega)), i32_nat h0 (by omega), cC_iu (ln := ln) (F := F) (kd := 0) (y := (i32 y).toInt8.toInt) (show tg a = 20 + ((0 : Nat) : Int) by omega) (by omega) h0 hy, cV_put ho]
theorem cC_n2 {tg ln : Int → Int} {F F_q : Int → Int → Int} {b : Int} (e : ∀ i, F_q b i = F b i) : cCe tg ln F_q b = cCe tg ln F b := by
  unfold cCe oF
  simp only [e]
theorem cV_put2 {R : Nat → jC} {m : Nat} {tg ln : Int → Int} {F F_q : Int → Int → Int} {a : Int} (h : own m a) (e : ∀ b i, b ≠ a → F_q b i = F b i) : jPut (cV R m tg ln F) a.toNat (cCe tg ln F_q a) = cV R m tg ln F_q := by
  obtain ⟨h1, h2, h3⟩ := h
  unfold jPut cV
  refine List.ext_getElem? (fun i => ?_)
  rw [List.getElem?_set, List.length_map, List.length_range, List.getElem?_map, List.getElem?_map]
  by_cases q : a.toNat - 64 = i
  · rw [if_pos q, if_pos (by omega), ← q, List.getElem?_range (by omega)]
    dsimp only [Option.map_some]
    rw [if_neg (by omega), show ((64 + (a.toNat - 64) : Nat) : Int) = a by omega]
  · rw [if_neg q]
    by_cases w : i < m
    · rw [List.getElem?_range w]
      dsimp only [Option.map_some]
      by_cases r : 2 ≤ i ∧ i < 89
      · rw [if_pos r, if_pos r]
      · rw [if_neg r, if_neg r, cC_n2 (e _ · (by omega))]
    · rw [List.getElem?_eq_none (by rw [List.length_range]; omega)]
      rfl
/-- a row is copied within itself -/
def cpF (F : Int → Int → Int) (a x y z : Int) : Int → Int → Int := fun b i => if b = a ∧ y ≤ i ∧ i < y + z then F a (x + (i - y)) else F b i
theorem cx_cpy {X : jX} {d : Nat} {e : jM} {pc pc_q k0 t na : Nat} {l : jL} {st : List Value} {R : Nat → jC} {u : Int} {m : Nat} {tg ln : Int → Int} {F : Int → Int → Int} {Q : jO → jH → Prop} {a x y z : Int} (h1 : jGet' e pc = some (.invokestatic k0, 3)) (h2 : jFind jCl e.2.1 k0 = some (9, t, na)) (hC : HC u m tg ln F) (ho : own m a) (hg : tg a = 21) (hs : F a (-1) = 0) (x0 : 0 ≤ x) (y0 : 0 ≤ y) (z0 : 0 ≤ z) (hx : x + z ≤ ln a) (hy : y + z ≤ ln a) (hl : ln a ≤ 1000000) (h6 : jSum st ≤ 8) (hp : pc + 3 = pc_q) (k : ∀ F_q : Int → Int → Int, HC u m tg ln F_q → ((∀ i, i < 0 → F_q a i = F a i) ∧ ∀ b i, b ≠ a → F_q b i = F b i) → wj X d e (pc_q, l, st, cV R m tg ln F_q) Q) : wj X d e (pc, l, .int (i32 z) :: .int (i32 y) :: rv a :: .int (i32 x) :: rv a :: st, cV R m tg ln F) Q := by
  have h64 := ho.1
  have n1 : ∀ i, i < 0 → cpF F a x y z a i = F a i := fun i hi => if_neg (fun w => by omega)
  have n2 : ∀ b i, b ≠ a → cpF F a x y z b i = F b i := fun b i hb => if_neg (fun w => hb w.1)
  have hC2 : HC u m tg ln (cpF F a x y z) := HC_pr hC (by omega) n2 (n1 _ (by decide)) (fun hi j j0 => by
    unfold cpF
    by_cases w : a = a ∧ y ≤ j ∧ j < y + z
    · rw [if_pos w]
      exact HC_e hC ho hi (by omega)
    · rw [if_neg w]
      exact HC_e hC ho hi j0) (fun w => by omega)
  have hk := k _ hC2 ⟨n1, n2⟩
  subst hp
  rw [rv_n (by omega)]
  refine wj_step (fun call => ?_) hk
  have hcc := cC_i (ln := ln) (F := F) (kd := 1) (show tg a = 20 + ((1 : Nat) : Int) by omega) (by omega)
  have hc2 := cC_i (ln := ln) (F := cpF F a x y z) (kd := 1) (show tg a = 20 + ((1 : Nat) : Int) by omega) (by omega)
  have nn : ∀ v : Int, 0 ≤ v → v ≤ 1000000 → ¬ i32 v < 0 := fun v v0 v1 => by
    rw [i32_0, i32_lt (by omega) (by omega) (by omega) (by omega)]
    omega
  have hb : jSum st ≤ 8 ∧ ¬ i32 z < 0 ∧ ¬ i32 x < 0 ∧ ¬ i32 y < 0 ∧ (i32 x).toNatClampNeg + (i32 z).toNatClampNeg ≤ (ln a).toNat ∧ (i32 y).toNatClampNeg + (i32 z).toNatClampNeg ≤ (ln a).toNat := by
    rw [i32_nat x0 (by omega), i32_nat y0 (by omega), i32_nat z0 (by omega)]
    exact ⟨h6, nn z z0 (by omega), nn x x0 (by omega), nn y y0 (by omega), by omega, by omega⟩
  have hv : jPut (cV R m tg ln F) a.toNat (.inl (1, (ln a).toNat, .inl (va_cpy (fun j => i32 (F a (j : Int))) (fun j => i32 (F a (j : Int))) x.toNat y.toNat z.toNat))) = cV R m tg ln (cpF F a x y z) := by
    have e1 : (va_cpy (fun j : Nat => i32 (F a (j : Int))) (fun j : Nat => i32 (F a (j : Int))) x.toNat y.toNat z.toNat) = (fun j : Nat => i32 (cpF F a x y z a (j : Int))) := by
      funext j
      unfold va_cpy cpF
      by_cases w : y.toNat ≤ j ∧ j < y.toNat + z.toNat
      · rw [if_pos w, if_pos ⟨rfl, by omega, by omega⟩]
        show i32 (F a ((x.toNat + (j - y.toNat) : Nat) : Int)) = i32 (F a (x + ((j : Int) - y)))
        rw [show ((x.toNat + (j - y.toNat) : Nat) : Int) = x + ((j : Int) - y) by omega]
      · rw [if_neg w, if_neg (fun v => w ⟨by omega, by omega⟩)]
    rw [e1, ← hc2]
    exact cV_put2 ho n2
  have hi : jInvoke call e e.2.1 (.invokestatic k0) 3 pc l (.int (i32 z) :: .int (i32 y) :: .ref a.toNat :: .int (i32 x) :: .ref a.toNat :: st) (cV R m tg ln F) = some (.inl (pc + 3, l, st, cV R m tg ln (cpF F a x y z))) := by
    simp only [jInvoke, h2, cV_at ho, hcc, if_pos hb]
    rw [i32_nat x0 (by omega), i32_nat y0 (by omega), i32_nat z0 (by omega), hv]
  unfold jStep
  simp only [h1, jLoad, jArith, jBranch, jHeap, jRet, hi]
theorem Fq_w {x0 : Int} {L : List (Int × Int)} {m : Nat} {tg tg_q : Int → Int} {F F1 F2 : Int → Int → Int} {a t : Int} (h : Fq x0 L m tg F F1) (hE : (∀ i, i < 0 → F2 a i = F1 a i) ∧ ∀ b i, b ≠ a → F2 b i = F1 b i) (hg : tg_q a = t) (he : own m a → tg_q a = tg a) (hl : inL L t 0 = true) (hb : L.all (fun p => !(p.1 == t) || p.2 == -5) = true) : Fq x0 L m tg F F2 := fun x q ho hx hn => by
  rw [← h x q ho hx hn]
  by_cases e : x = a
  · subst e
    by_cases j : q < 0
    · exact hE.1 q j
    · rw [← he ho, hg, inL_a hl (by omega) hb] at hn
      cases hn
  · exact hE.2 x q e
/-- of no machine more than k outputs -/
def SB (m : Nat) (tg : Int → Int) (F : Int → Int → Int) (k : Int) : Prop := ∀ x, own m x → tg x = 6 → F x 6 ≤ k
theorem SB_m {m : Nat} {tg : Int → Int} {F : Int → Int → Int} {k k_q : Int} (h : SB m tg F k) (hk : k ≤ k_q) : SB m tg F k_q := fun x o t => Int.le_trans (h x o t) hk
theorem SB_u {m : Nat} {tg : Int → Int} {F : Int → Int → Int} {k a j z t : Int} (h : SB m tg F k) (hg : tg a = t) (hn : ¬ (t = 6 ∧ j = 6)) : SB m tg (uF F a j z) k := fun x o e => by
  rw [show uF F a j z x 6 = F x 6 from if_neg (fun w => hn ⟨by rw [← hg, ← w.1, e], w.2.symm⟩)]
  exact h x o e
theorem SB_p {m : Nat} {tg : Int → Int} {F : Int → Int → Int} {k a j z : Int} (h : SB m tg F k) (hz : z ≤ k + 1) : SB m tg (uF F a j z) (k + 1) := fun x o e => by
  unfold uF
  split
  · exact hz
  · exact Int.le_trans (h x o e) (by omega)
theorem SB_q {m : Nat} {tg : Int → Int} {F F_q : Int → Int → Int} {k : Int} {L : List (Int × Int)} (h : SB m tg F k) (g : Fq 0 L m tg F F_q) (hl : inL L 6 6 = false) : SB m tg F_q k := fun x o e => by
  rw [g x 6 o (own_z o) (by rw [e]; exact hl)]
  exact h x o e
