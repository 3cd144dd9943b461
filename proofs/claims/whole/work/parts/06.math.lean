/-! NUMBERS: Euclid's steps, fractions put in order by their whole parts and the rests turned over. -/
def ma_cmp (x y : Nat) : Int := if x < y then -1 else if x = y then 0 else 1
def ma_eu : Nat → Nat → Nat → Nat
  | 0, a, _ => a
  | n + 1, a, b => if b = 0 then a else ma_eu n b (a % b)
/-- n steps of Euclid are enough from a, b -/
def ma_ok (n a b : Nat) : Prop := ∃ k : Nat, (b < 2 ^ k ∧ 2 * k ≤ n) ∨ (b < a ∧ a < 2 ^ (k + 1) ∧ 2 * k + 1 ≤ n)
theorem ma_ok_0 {a b : Nat} (h : ma_ok 0 a b) : b = 0 := by
  obtain ⟨k, h | h⟩ := h
  · have hk : k = 0 := by omega
    subst hk
    have := h.1
    simp at this
    exact this
  · omega
theorem ma_ok_step {n a b : Nat} (hb : b ≠ 0) (h : ma_ok (n + 1) a b) : ma_ok n b (a % b) := by
  obtain ⟨k, h | h⟩ := h
  · cases k with
    | zero =>
      have := h.1
      simp at this
      exact absurd this hb
    | succ k => exact ⟨k, Or.inr ⟨Nat.mod_lt _ (Nat.pos_of_ne_zero hb), h.1, by omega⟩⟩
  · refine ⟨k, Or.inl ⟨?_, by omega⟩⟩
    have h1 := Nat.mod_lt a (Nat.pos_of_ne_zero hb)
    have h2 := Nat.div_add_mod a b
    have h3 : 1 ≤ a / b := Nat.div_pos (Nat.le_of_lt h.1) (Nat.pos_of_ne_zero hb)
    have h4 : b * 1 ≤ b * (a / b) := Nat.mul_le_mul_left b h3
    have h5 : a < 2 ^ k * 2 := by rw [← Nat.pow_succ]; exact h.2.1
    omega
theorem ma_ok_of {n a b k : Nat} (h : b < 2 ^ k) (hn : 2 * k ≤ n) : ma_ok n a b := ⟨k, Or.inl ⟨h, hn⟩⟩
theorem ma_eu_gcd : ∀ (n a b : Nat), ma_ok n a b → ma_eu n a b = Nat.gcd a b := by
  intro n
  induction n with
  | zero =>
    intro a b h
    rw [ma_ok_0 h]
    simp [ma_eu]
  | succ n ih =>
    intro a b h
    by_cases hb : b = 0
    · subst hb
      simp [ma_eu]
    · rw [ma_eu, if_neg hb, ih _ _ (ma_ok_step hb h), Nat.gcd_comm b (a % b), ← Nat.gcd_rec, Nat.gcd_comm]
def ma_oo : Nat → Nat → Nat → Nat → Nat → Int → Int
  | 0, _, b, _, d, g => if b = 0 then (if d = 0 then 0 else g) else -g
  | n + 1, a, b, c, d, g => if b = 0 ∨ d = 0 then (if b = 0 then (if d = 0 then 0 else g) else -g) else if a / b = c / d then ma_oo n b (a % b) d (c % d) (-g) else if a / b < c / d then -g else g
theorem ma_cmp_lt {x y : Nat} (h : x < y) : ma_cmp x y = -1 := by simp [ma_cmp, h]
theorem ma_cmp_gt {x y : Nat} (h : y < x) : ma_cmp x y = 1 := by
  simp [ma_cmp, Nat.not_lt.mpr (Nat.le_of_lt h), Nat.ne_of_gt h]
theorem ma_cmp_eq {x y : Nat} (h : x = y) : ma_cmp x y = 0 := by simp [ma_cmp, h]
theorem ma_whole_lt {a b c d : Nat} (hb : 0 < b) (hd : 0 < d) (h : a / b < c / d) : a * d < c * b := by
  have h1 : a < (a / b + 1) * b := by
    have h2 := Nat.div_add_mod a b
    have h3 := Nat.mod_lt a hb
    rw [Nat.add_mul, Nat.mul_comm, Nat.one_mul]
    omega
  have h2 : (a / b + 1) * d ≤ c := by
    have h3 : (a / b + 1) * d ≤ c / d * d := Nat.mul_le_mul_right d h
    exact Nat.le_trans h3 (Nat.div_mul_le_self c d)
  calc a * d < (a / b + 1) * b * d := Nat.mul_lt_mul_of_pos_right h1 hd
    _ = (a / b + 1) * d * b := by rw [Nat.mul_assoc, Nat.mul_comm b d, ← Nat.mul_assoc]
    _ ≤ c * b := Nat.mul_le_mul_right b h2
theorem ma_cmp_turn {a b c d : Nat} (h : a / b = c / d) : ma_cmp (b * (c % d)) (d * (a % b)) = - ma_cmp (a * d) (c * b) := by
  have h1 : a * d = b * d * (a / b) + d * (a % b) := by
    have := Nat.div_add_mod a b
    calc a * d = (b * (a / b) + a % b) * d := by rw [this]
      _ = b * d * (a / b) + d * (a % b) := by rw [Nat.add_mul, Nat.mul_right_comm, Nat.mul_comm (a % b) d]
  have h2 : c * b = b * d * (a / b) + b * (c % d) := by
    have := Nat.div_add_mod c d
    calc c * b = (d * (c / d) + c % d) * b := by rw [this]
      _ = b * d * (a / b) + b * (c % d) := by rw [Nat.add_mul, Nat.mul_comm d, Nat.mul_assoc, Nat.mul_comm d b, Nat.mul_comm (c / d), Nat.mul_comm (c % d) b, h]
  rw [h1, h2]
  generalize b * (c % d) = x
  generalize d * (a % b) = y
  generalize b * d * (a / b) = z
  rcases Nat.lt_trichotomy x y with g | g | g
  · rw [ma_cmp_lt g, ma_cmp_gt (by omega)]
  · rw [ma_cmp_eq g, ma_cmp_eq (by omega)]; rfl
  · rw [ma_cmp_gt g, ma_cmp_lt (by omega)]; rfl
theorem ma_oo_cmp : ∀ (n a b c d : Nat) (g : Int), ma_ok n a b → (b = 0 → 0 < a) → (d = 0 → 0 < c) → ma_oo n a b c d g = g * ma_cmp (a * d) (c * b) := by
  have fin : ∀ (a b c d : Nat) (g : Int), (b = 0 → 0 < a) → (d = 0 → 0 < c) → b = 0 ∨ d = 0 → (if b = 0 then (if d = 0 then 0 else g) else -g) = g * ma_cmp (a * d) (c * b) := by
    intro a b c d g ha hc h
    by_cases hb : b = 0
    · subst hb
      by_cases hd : d = 0
      · subst hd
        simp [ma_cmp]
      · rw [if_pos rfl, if_neg hd, ma_cmp_gt (by rw [Nat.mul_zero]; exact Nat.mul_pos (ha rfl) (Nat.pos_of_ne_zero hd)), Int.mul_one]
    · have hd : d = 0 := by rcases h with h | h; exact absurd h hb; exact h
      subst hd
      rw [if_neg hb, ma_cmp_lt (by rw [Nat.mul_zero]; exact Nat.mul_pos (hc rfl) (Nat.pos_of_ne_zero hb))]
      omega
  intro n
  induction n with
  | zero =>
    intro a b c d g h ha hc
    rw [ma_oo]
    exact fin a b c d g ha hc (Or.inl (ma_ok_0 h))
  | succ n ih =>
    intro a b c d g h ha hc
    rw [ma_oo]
    by_cases h0 : b = 0 ∨ d = 0
    · rw [if_pos h0]
      exact fin a b c d g ha hc h0
    · rw [if_neg h0]
      have hb : b ≠ 0 := fun q => h0 (Or.inl q)
      have hd : d ≠ 0 := fun q => h0 (Or.inr q)
      by_cases h1 : a / b = c / d
      · rw [if_pos h1, ih b (a % b) d (c % d) (-g) (ma_ok_step hb h) (fun _ => Nat.pos_of_ne_zero hb) (fun _ => Nat.pos_of_ne_zero hd), ma_cmp_turn h1, Int.neg_mul_neg]
      · rw [if_neg h1]
        by_cases h2 : a / b < c / d
        · rw [if_pos h2, ma_cmp_lt (ma_whole_lt (Nat.pos_of_ne_zero hb) (Nat.pos_of_ne_zero hd) h2)]
          omega
        · rw [if_neg h2, ma_cmp_gt (ma_whole_lt (Nat.pos_of_ne_zero hd) (Nat.pos_of_ne_zero hb) (by omega))]
          omega
