/-! ZONES: what both sides need where a zone and a type are there. -/
def wyf (U P : Nat) : Nat := if U = 0 then 1 else U ^ P
theorem wyf_n {U P : Nat} (h : U ≠ 0) : U ^ P = wyf U P := by rw [wyf, if_neg h]
theorem wyf_0 {U P : Nat} (h : U = 0) : 1 = wyf U P := by rw [wyf, if_pos h]
theorem wyf_pos {U P : Nat} : 0 < wyf U P := by
  unfold wyf
  by_cases h : U = 0
  · rw [if_pos h]; decide
  · rw [if_neg h]; exact Nat.pow_pos (Nat.pos_of_ne_zero h)
theorem wyf_le {U P : Nat} (hU : U ≤ 200) (hP : P ≤ 5) : wyf U P ≤ 320000000000 := by
  unfold wyf
  by_cases h : U = 0
  · rw [if_pos h]; decide
  · rw [if_neg h]; exact pw_le hU hP
theorem pow_0 {U P : Nat} (hP : 1 ≤ P) (h : U ^ P = 0) : U = 0 := Classical.byContradiction fun z => absurd h (Nat.ne_of_gt (Nat.pow_pos (Nat.pos_of_ne_zero z)))
theorem pow_n {U P : Nat} (hP : 1 ≤ P) (h : U ^ P ≠ 0) : U ≠ 0 := fun z => h (by rw [z]; exact Nat.zero_pow hP)
theorem zone_N {nt F t0 fr to : Nat} (ht : t0 < nt) (hn6 : nt ≤ 6) (h1 : 1 ≤ fr) (h2 : fr ≤ to) (h3 : to ≤ F) (hF12 : F ≤ 12) : okTy nt (nI t0) ∧ okFl F (nI fr) ∧ okFl F (nI to) ∧ (nI fr).toInt ≤ (nI to).toInt := by
  refine ⟨okTy_N ht hn6, okFl_N h1 (by omega) hF12, okFl_N (by omega) h3 hF12, ?_⟩
  rw [nI_toInt (by omega), nI_toInt (by omega)]
  omega
section NXF
variable {p : Program} {l : Launch} {e : Env} {R : Room} {s : State} {m : MethodId} {args : Array Value} {below : List Frame} {meth : Method} {c : Code} {H : Heap} {locs : List Loc} {cells slots : Nat} {Q : State → Prop}
variable {pc : Nat} {ls : Array Slot} {rest : List Value}
theorem nx_leq {a b : Nat} (h : a = b) (k : W p l e R s m args below meth c H locs cells slots Q (F0 m pc ls (.long (lN b) :: rest))) : W p l e R s m args below meth c H locs cells slots Q (F0 m pc ls (.long (lN a) :: rest)) := by rw [h]; exact k
theorem nx_ieq {a b : Nat} (h : a = b) (k : W p l e R s m args below meth c H locs cells slots Q (F0 m pc ls (.int (nI b) :: rest))) : W p l e R s m args below meth c H locs cells slots Q (F0 m pc ls (.int (nI a) :: rest)) := by rw [h]; exact k
theorem nx_Ieq {a b : Int32} (h : a = b) (k : W p l e R s m args below meth c H locs cells slots Q (F0 m pc ls (.int b :: rest))) : W p l e R s m args below meth c H locs cells slots Q (F0 m pc ls (.int a :: rest)) := by rw [h]; exact k
theorem nx_Leq {a b : Int64} (h : a = b) (k : W p l e R s m args below meth c H locs cells slots Q (F0 m pc ls (.long b :: rest))) : W p l e R s m args below meth c H locs cells slots Q (F0 m pc ls (.long a :: rest)) := by rw [h]; exact k
end NXF
theorem mul3_le {a b x y z : Nat} (h1 : a ≤ x) (h2 : b ≤ y) (h3 : x * y = z) : a * b ≤ z := h3 ▸ Nat.mul_le_mul h1 h2
theorem car_lt {cars r B : Nat} (h1 : cars ≤ 6) (h2 : r ≤ 5) (h3 : B ≤ 32000000000000) : 300 * cars * r * B < 2 ^ 63 := by
  have q1 : 300 * cars * r ≤ 9000 := mul3_le (x := 1800) (y := 5) (by omega) h2 rfl
  have q2 : 300 * cars * r * B ≤ 288000000000000000 := mul3_le q1 h3 rfl
  omega
theorem sp_none {pp : Nat → Nat} {P fr n : Nat} (h : sm pp fr n = 0) : sp pp (sm pp fr n) P fr n = 0 := by
  rw [h]
  have : ∀ k, sp pp 0 P fr k = 0 := by
    intro k
    induction k with
    | zero => rfl
    | succ k ih =>
      show sp pp 0 P fr k + (0 ^ P - (0 - pp (fr + k)) ^ P) = 0
      rw [ih, Nat.zero_sub, Nat.sub_self]
  exact this n
theorem hp_none {pp hh : Nat → Nat} {P fr n : Nat} (h : sm pp fr n = 0) : hp pp hh P fr n = 0 := by
  have : ∀ k, k ≤ n → hp pp hh P fr k = 0 := by
    intro k
    induction k with
    | zero => intro _; rfl
    | succ k ih =>
      intro hk
      have h1 : sm pp fr (k + 1) ≤ sm pp fr n := sm_mono hk
      have h2 : sm pp fr k ≤ sm pp fr n := sm_mono (by omega)
      show hp pp hh P fr k + hh (fr + k) * (sm pp fr (k + 1) ^ P - sm pp fr k ^ P) = 0
      rw [ih (by omega), show sm pp fr (k + 1) = 0 by omega, show sm pp fr k = 0 by omega, Nat.sub_self, Nat.mul_zero]
  exact this n (Nat.le_refl n)
