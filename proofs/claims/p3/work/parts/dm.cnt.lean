/-! THE CLASS'S SIDE: processors below p -/
def crk (F : Int → Int → Int) (a p : Int) : Int := (if 1 ≤ p then tz (F a 0) else 0) + (if 2 ≤ p then tz (F a 1) else 0) + (if 3 ≤ p then tz (F a 2) else 0) + (if 4 ≤ p then tz (F a 3) else 0) + (if 5 ≤ p then tz (F a 4) else 0) + (if 6 ≤ p then tz (F a 5) else 0)
section
variable {F : Int → Int → Int} {a p : Int}
theorem crk_0 : crk F a 0 = 0 := by
  unfold crk
  repeat' split
  all_goals omega
theorem crk_6 : crk F a 6 = crt F a := by
  unfold crk crt
  repeat' split
  all_goals omega
theorem crk_s (h0 : 0 ≤ p) (h6 : p < 6) : crk F a (p + 1) = crk F a p + tz (F a p) := by
  have e : p = 0 ∨ p = 1 ∨ p = 2 ∨ p = 3 ∨ p = 4 ∨ p = 5 := by omega
  unfold crk
  rcases e with rfl | rfl | rfl | rfl | rfl | rfl
  · rw [if_pos (show (1 : Int) ≤ 0 + 1 by decide), if_neg (show ¬ (2 : Int) ≤ 0 + 1 by decide), if_neg (show ¬ (3 : Int) ≤ 0 + 1 by decide), if_neg (show ¬ (4 : Int) ≤ 0 + 1 by decide), if_neg (show ¬ (5 : Int) ≤ 0 + 1 by decide), if_neg (show ¬ (6 : Int) ≤ 0 + 1 by decide), if_neg (show ¬ (1 : Int) ≤ 0 by decide), if_neg (show ¬ (2 : Int) ≤ 0 by decide), if_neg (show ¬ (3 : Int) ≤ 0 by decide), if_neg (show ¬ (4 : Int) ≤ 0 by decide), if_neg (show ¬ (5 : Int) ≤ 0 by decide), if_neg (show ¬ (6 : Int) ≤ 0 by decide)]
    omega
  · rw [if_pos (show (1 : Int) ≤ 1 + 1 by decide), if_pos (show (2 : Int) ≤ 1 + 1 by decide), if_neg (show ¬ (3 : Int) ≤ 1 + 1 by decide), if_neg (show ¬ (4 : Int) ≤ 1 + 1 by decide), if_neg (show ¬ (5 : Int) ≤ 1 + 1 by decide), if_neg (show ¬ (6 : Int) ≤ 1 + 1 by decide), if_pos (show (1 : Int) ≤ 1 by decide), if_neg (show ¬ (2 : Int) ≤ 1 by decide), if_neg (show ¬ (3 : Int) ≤ 1 by decide), if_neg (show ¬ (4 : Int) ≤ 1 by decide), if_neg (show ¬ (5 : Int) ≤ 1 by decide), if_neg (show ¬ (6 : Int) ≤ 1 by decide)]
    omega
  · rw [if_pos (show (1 : Int) ≤ 2 + 1 by decide), if_pos (show (2 : Int) ≤ 2 + 1 by decide), if_pos (show (3 : Int) ≤ 2 + 1 by decide), if_neg (show ¬ (4 : Int) ≤ 2 + 1 by decide), if_neg (show ¬ (5 : Int) ≤ 2 + 1 by decide), if_neg (show ¬ (6 : Int) ≤ 2 + 1 by decide), if_pos (show (1 : Int) ≤ 2 by decide), if_pos (show (2 : Int) ≤ 2 by decide), if_neg (show ¬ (3 : Int) ≤ 2 by decide), if_neg (show ¬ (4 : Int) ≤ 2 by decide), if_neg (show ¬ (5 : Int) ≤ 2 by decide), if_neg (show ¬ (6 : Int) ≤ 2 by decide)]
    omega
  · rw [if_pos (show (1 : Int) ≤ 3 + 1 by decide), if_pos (show (2 : Int) ≤ 3 + 1 by decide), if_pos (show (3 : Int) ≤ 3 + 1 by decide), if_pos (show (4 : Int) ≤ 3 + 1 by decide), if_neg (show ¬ (5 : Int) ≤ 3 + 1 by decide), if_neg (show ¬ (6 : Int) ≤ 3 + 1 by decide), if_pos (show (1 : Int) ≤ 3 by decide), if_pos (show (2 : Int) ≤ 3 by decide), if_pos (show (3 : Int) ≤ 3 by decide), if_neg (show ¬ (4 : Int) ≤ 3 by decide), if_neg (show ¬ (5 : Int) ≤ 3 by decide), if_neg (show ¬ (6 : Int) ≤ 3 by decide)]
    omega
  · rw [if_pos (show (1 : Int) ≤ 4 + 1 by decide), if_pos (show (2 : Int) ≤ 4 + 1 by decide), if_pos (show (3 : Int) ≤ 4 + 1 by decide), if_pos (show (4 : Int) ≤ 4 + 1 by decide), if_pos (show (5 : Int) ≤ 4 + 1 by decide), if_neg (show ¬ (6 : Int) ≤ 4 + 1 by decide), if_pos (show (1 : Int) ≤ 4 by decide), if_pos (show (2 : Int) ≤ 4 by decide), if_pos (show (3 : Int) ≤ 4 by decide), if_pos (show (4 : Int) ≤ 4 by decide), if_neg (show ¬ (5 : Int) ≤ 4 by decide), if_neg (show ¬ (6 : Int) ≤ 4 by decide)]
    omega
  · rw [if_pos (show (1 : Int) ≤ 5 + 1 by decide), if_pos (show (2 : Int) ≤ 5 + 1 by decide), if_pos (show (3 : Int) ≤ 5 + 1 by decide), if_pos (show (4 : Int) ≤ 5 + 1 by decide), if_pos (show (5 : Int) ≤ 5 + 1 by decide), if_pos (show (6 : Int) ≤ 5 + 1 by decide), if_pos (show (1 : Int) ≤ 5 by decide), if_pos (show (2 : Int) ≤ 5 by decide), if_pos (show (3 : Int) ≤ 5 by decide), if_pos (show (4 : Int) ≤ 5 by decide), if_pos (show (5 : Int) ≤ 5 by decide), if_neg (show ¬ (6 : Int) ≤ 5 by decide)]
    omega
theorem crk_l (h0 : 0 ≤ p) (h6 : p ≤ 6) : crk F a p ≤ crt F a := by
  have b0 := tz_b (F a 0)
  have b1 := tz_b (F a 1)
  have b2 := tz_b (F a 2)
  have b3 := tz_b (F a 3)
  have b4 := tz_b (F a 4)
  have b5 := tz_b (F a 5)
  unfold crk crt
  repeat' split
  all_goals omega
end
