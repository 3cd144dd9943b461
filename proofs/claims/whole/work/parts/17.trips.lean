/-! TRIPS as numbers: of what Odds holds and of a car. -/
def oA (e0 wy so ho rm sd dr pe : Nat) : Nat := if e0 = 0 then 2 * ho + sd * (dr * (so + wy) + 2 * rm * pe * wy) else 0
def oC (cars rm A B : Nat) : Nat := if A = 0 then 0 else 300 * cars * rm * B / A
section NXE
variable {p : Program} {l : Launch} {e : Env} {R : Room} {s : State} {m : MethodId} {args : Array Value} {below : List Frame} {meth : Method} {c : Code} {H : Heap} {locs : List Loc} {cells slots : Nat} {Q : State → Prop}
variable {cc : ByteArray} {pc : Nat} {ls : Array Slot} {rest : List Value}
theorem kI_pos {x : Int} (h : x = -1 ∨ x = 0 ∨ x = 1) : (0 : Int32) < kI x ↔ 0 < x := by rcases h with rfl | rfl | rfl <;> decide
theorem kI_negl {x : Int} (h : x = -1 ∨ x = 0 ∨ x = 1) : kI x < (0 : Int32) ↔ x < 0 := by rcases h with rfl | rfl | rfl <;> decide
theorem ma_cmp_3 (x y : Nat) : ma_cmp x y = -1 ∨ ma_cmp x y = 0 ∨ ma_cmp x y = 1 := by
  unfold ma_cmp
  by_cases h : x < y
  · simp [h]
  · by_cases h2 : x = y
    · simp [h2]
    · simp [h, h2]
theorem ma_cmp_pos {x y : Nat} : 0 < ma_cmp x y ↔ y < x := by
  unfold ma_cmp
  by_cases h : x < y
  · simp [h]; omega
  · by_cases h2 : x = y
    · simp [h2]
    · simp [h, h2]; omega
theorem ma_cmp_neg {x y : Nat} : ma_cmp x y < 0 ↔ x < y := by
  unfold ma_cmp
  by_cases h : x < y
  · simp [h]
  · by_cases h2 : x = y
    · simp [h2]
    · simp [h, h2]
end NXE
