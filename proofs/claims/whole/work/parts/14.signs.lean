/-! SIGNS: -1, 0, 1 as ints. -/
def kI (x : Int) : Int32 := Int32.ofInt x
theorem kI_neg {x : Int} (h : x = 1 ∨ x = -1) : -(kI x) = kI (-x) := by rcases h with rfl | rfl <;> decide
theorem kI_0 : kI 0 = nI 0 := by decide
theorem kI_1 : kI 1 = nI 1 := by decide
theorem pm_neg {x : Int} (h : x = 1 ∨ x = -1) : -x = 1 ∨ -x = -1 := by omega
/-- the reference's way with two fractions: what one turn of it answers, or leaves to the next one -/
theorem ma_zero0 {a b c d : Nat} (h : a / b = c / d) (he : a % b = 0) (hf : c % d = 0) : ma_cmp (a * d) (c * b) = 0 := by
  have := ma_cmp_turn h
  rw [he, hf, ma_cmp_eq (by rw [Nat.mul_zero, Nat.mul_zero])] at this
  omega
theorem ma_zero1 {a b c d : Nat} (hb : 0 < b) (h : a / b = c / d) (he : a % b = 0) (hf : c % d ≠ 0) : ma_cmp (a * d) (c * b) = -1 := by
  have := ma_cmp_turn h
  rw [he, ma_cmp_gt (by rw [Nat.mul_zero]; exact Nat.mul_pos hb (Nat.pos_of_ne_zero hf))] at this
  omega
theorem ma_zero2 {a b c d : Nat} (hd : 0 < d) (h : a / b = c / d) (he : a % b ≠ 0) (hf : c % d = 0) : ma_cmp (a * d) (c * b) = 1 := by
  have := ma_cmp_turn h
  rw [hf, ma_cmp_lt (by rw [Nat.mul_zero]; exact Nat.mul_pos hd (Nat.pos_of_ne_zero he))] at this
  omega
theorem ma_sub_mod {a b : Nat} : a - a / b * b = a % b := by
  have := Nat.div_add_mod a b
  rw [Nat.mul_comm] at this
  omega
