/-! ONE PLACE CHANGED, in numbers. -/
def up (f : Nat → Nat) (k v : Nat) : Nat → Nat := fun j => if j = k then v else f j
theorem up_eq {f : Nat → Nat} {k v : Nat} : upd (fun j => nI (f j)) k (nI v) = fun j => nI (up f k v j) := by
  funext j
  unfold upd up
  by_cases h : j = k <;> simp [h]
theorem up_eqL {f : Nat → Nat} {k v : Nat} : vp_updL (fun j => lN (f j)) k (lN v) = fun j => lN (up f k v j) := by
  funext j
  unfold vp_updL up
  by_cases h : j = k <;> simp [h]
theorem up_s {f : Nat → Nat} {k v : Nat} : up f k v k = v := by simp [up]
theorem up_n {f : Nat → Nat} {k v j : Nat} (h : j ≠ k) : up f k v j = f j := by simp [up, h]
theorem in_Nat {a lo hi : Nat} : ((lo : Int) ≤ (a : Int) ∧ (a : Int) ≤ (hi : Int)) = (lo ≤ a ∧ a ≤ hi) := propext (by omega)
theorem c_M_isInN (l : Launch) {dC : Nat → ClassId} {dI : Nat → Nat → Nat} {cI cL cT : ClassId} {sa : Nat → Nat} (a lo hi : Nat) (h1 : a < 2 ^ 31) (h2 : lo < 2 ^ 31) (h3 : hi < 2 ^ 31) : Met l y_M_isIn (Cond.code y_M_isIn b_M_isIn 3 (some .boolean) :: gw) ({ frames := 0, cells := 0, slots := 0, locals := 0 } : Room) (pr dC dI cI cL cT sa [.int (nI a), .int (nI lo), .int (nI hi)] []) (vp_Si (fun r => r = bI (lo ≤ a ∧ a ≤ hi))) 0 0 (fun _ => False) := by
  have h := c_M_isIn l (dC := dC) (dI := dI) (cI := cI) (cL := cL) (cT := cT) (sa := sa) (nI a) (nI lo) (nI hi) lo hi (nI_toInt h2) (nI_toInt h3)
  rw [nI_toInt h1, in_Nat] at h
  exact h
/-- a trip's parts in lowest terms carry as many -/
theorem oC_red {cars r A B d : Nat} (hd : 0 < d) (hA : d ∣ A) (hB : d ∣ B) : oC cars r (A / d) (B / d) = oC cars r A B := by
  obtain ⟨a, rfl⟩ := hA
  obtain ⟨b, rfl⟩ := hB
  rw [Nat.mul_div_cancel_left a hd, Nat.mul_div_cancel_left b hd]
  unfold oC
  by_cases h : a = 0
  · subst h; simp
  · rw [if_neg h, if_neg (fun q => by rcases Nat.mul_eq_zero.mp q with q | q <;> omega), Nat.mul_left_comm, Nat.mul_div_mul_left _ _ hd]
theorem ma_cmp_red {A B C D x y : Nat} (hx : 0 < x) (hy : 0 < y) (h1 : x ∣ A) (h2 : x ∣ B) (h3 : y ∣ C) (h4 : y ∣ D) : ma_cmp (A / x * (D / y)) (C / y * (B / x)) = ma_cmp (A * D) (C * B) := by
  obtain ⟨a, rfl⟩ := h1
  obtain ⟨b, rfl⟩ := h2
  obtain ⟨c, rfl⟩ := h3
  obtain ⟨d, rfl⟩ := h4
  rw [Nat.mul_div_cancel_left _ hx, Nat.mul_div_cancel_left _ hx, Nat.mul_div_cancel_left _ hy, Nat.mul_div_cancel_left _ hy]
  have e1 : x * a * (y * d) = x * y * (a * d) := by simp only [Nat.mul_comm, Nat.mul_left_comm, Nat.mul_assoc]
  have e2 : y * c * (x * b) = x * y * (c * b) := by simp only [Nat.mul_comm, Nat.mul_left_comm, Nat.mul_assoc]
  rw [e1, e2]
  have hp : 0 < x * y := Nat.mul_pos hx hy
  rcases Nat.lt_trichotomy (a * d) (c * b) with q | q | q
  · rw [ma_cmp_lt q, ma_cmp_lt (Nat.mul_lt_mul_of_pos_left q hp)]
  · rw [ma_cmp_eq q, ma_cmp_eq (by rw [q])]
  · rw [ma_cmp_gt q, ma_cmp_gt (Nat.mul_lt_mul_of_pos_left q hp)]
theorem okFl_N {F n : Nat} (h1 : 1 ≤ n) (h2 : n ≤ F) (h3 : F ≤ 12) : okFl F (nI n) := by
  unfold okFl
  rw [nI_toInt (by omega)]
  omega
theorem okTy_N {n k : Nat} (h : k < n) (h3 : n ≤ 6) : okTy n (nI k) := by
  unfold okTy
  rw [nI_toInt (by omega)]
  omega
