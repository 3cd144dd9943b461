/-! METHODS THAT WRITE: their start and their end, over the cells of their world. -/
section WRA
variable {dC : Nat → ClassId} {dI : Nat → Nat → Nat} {cI cL cT : ClassId} {sa : Nat → Nat}
def wr (dC : Nat → ClassId) (dI : Nat → Nat → Nat) (cI cL cT : ClassId) (sa : Nat → Nat) (av : List Value) (ws : va_W) (sz : Nat) : Array Value → State → Prop :=
  va_Pc av (fun U => U.heap.size = sz ∧ CT dC dI cI cL cT sa U ∧ va_P (dC, dI) vwCl ws U.heap ∧ va_D (fun _ => True) ws)
theorem wr_blind {av : List Value} {ws : va_W} {sz : Nat} : FrameBlind (wr dC dI cI cL cT sa av ws sz) := fun a U g mk h => ⟨h.1, h.2.1, h.2.2.1.call, h.2.2.2⟩
theorem wr_at {s : State} {H : Heap} {av : List Value} {ws : va_W} {A : Nat → Prop} (hC : CT dC dI cI cL cT sa s) (hP : va_P (dC, dI) vwCl ws H) (hD : va_D A ws) : ∀ U : State, U.heap = H → s.WarmedH U.vm → wr dC dI cI cL cT sa av ws H.size av.toArray U :=
  fun U hU hW => ⟨rfl, by rw [hU], hC.warm hW, by rw [hU]; exact hP, hD.weaken (fun _ _ _ _ => trivial)⟩
def wB (dC : Nat → ClassId) (dI : Nat → Nat → Nat) (ws ws' : va_W) (sz : Nat) (_ : Unit) (t : State) : Prop := va_P (dC, dI) vwCl ws' t.heap ∧ va_D (va_A ws sz) ws'
end WRA
/-- a zone's trip, above and below: n floors from fr on, a car of room P -/
def tA (pp hh : Nat → Nat) (fr n P sd dr pe : Nat) : Nat := if sm pp fr n = 0 then 0 else 2 * hp pp hh P fr n + sd * (dr * (sp pp (sm pp fr n) P fr n + sm pp fr n ^ P) + 2 * P * pe * sm pp fr n ^ P)
def tB (pp : Nat → Nat) (fr n P sd : Nat) : Nat := sd * (if sm pp fr n = 0 then 1 else sm pp fr n ^ P)
theorem tA_eq {pp hh : Nat → Nat} {fr n P sd dr pe : Nat} (h : sm pp fr n ≠ 0) : 2 * hp pp hh P fr n + (sp pp (sm pp fr n) P fr n + sm pp fr n ^ P) * dr * sd + 2 * P * pe * sd * sm pp fr n ^ P = tA pp hh fr n P sd dr pe := by
  rw [tA, if_neg h]
  simp only [Nat.mul_add, Nat.add_mul, Nat.mul_comm, Nat.mul_left_comm, Nat.mul_assoc, Nat.add_assoc]
theorem tB_eq {pp : Nat → Nat} {fr n P sd : Nat} (h : sm pp fr n ≠ 0) : sd * sm pp fr n ^ P = tB pp fr n P sd := by rw [tB, if_neg h]
theorem pw_le {U P : Nat} (hU : U ≤ 200) (hP : P ≤ 5) : U ^ P ≤ 320000000000 := by
  calc U ^ P ≤ 200 ^ P := Nat.pow_le_pow_left hU P
    _ ≤ 200 ^ 5 := Nat.pow_le_pow_right (by decide) hP
theorem sp_le {f : Nat → Nat} {U P a : Nat} (hU : U ≤ 200) (hP : P ≤ 5) : ∀ n : Nat, sp f U P a n ≤ n * 320000000000 := by
  intro n
  induction n with
  | zero => exact Nat.le_refl _
  | succ n ih =>
    have h1 := pw_le hU hP
    show sp f U P a n + (U ^ P - (U - f (a + n)) ^ P) ≤ _
    omega
theorem hp_le {f h : Nat → Nat} {P a n : Nat} (hP : P ≤ 5) (hU : sm f a n ≤ 200) (hh : ∀ k, k < n → h (a + k) ≤ 1200) : ∀ k : Nat, k ≤ n → hp f h P a k ≤ k * 384000000000000 := by
  intro k
  induction k with
  | zero => intro _; exact Nat.le_refl _
  | succ k ih =>
    intro hk
    have h1 : sm f a (k + 1) ^ P ≤ 320000000000 := pw_le (Nat.le_trans (sm_mono hk) hU) hP
    have h2 := ih (by omega)
    have h3 : h (a + k) * (sm f a (k + 1) ^ P - sm f a k ^ P) ≤ 1200 * 320000000000 := Nat.mul_le_mul (hh k (by omega)) (by omega)
    show hp f h P a k + h (a + k) * (sm f a (k + 1) ^ P - sm f a k ^ P) ≤ _
    omega
theorem tA_lt {pp hh : Nat → Nat} {fr n P sd dr pe : Nat} (hn : n ≤ 12) (hU : sm pp fr n ≤ 200) (hh2 : ∀ k, k < n → hh (fr + k) ≤ 1200) (hP : P ≤ 5) (hsd : sd ≤ 100) (hdr : dr ≤ 30) (hpe : pe ≤ 10) : tA pp hh fr n P sd dr pe < 2 ^ 63 := by
  unfold tA
  by_cases h : sm pp fr n = 0
  · rw [if_pos h]; decide
  · rw [if_neg h]
    have h1 := pw_le hU hP
    have h2 := sp_le (f := pp) (a := fr) hU hP n
    have h3 := hp_le hP hU hh2 n (Nat.le_refl n)
    have h4 : n * 320000000000 ≤ 12 * 320000000000 := Nat.mul_le_mul_right _ hn
    have h5 : n * 384000000000000 ≤ 12 * 384000000000000 := Nat.mul_le_mul_right _ hn
    have h6 : dr * (sp pp (sm pp fr n) P fr n + sm pp fr n ^ P) ≤ 30 * (13 * 320000000000) := Nat.mul_le_mul hdr (by omega)
    have h7 : 2 * P * pe ≤ 10 * 10 := Nat.mul_le_mul (by omega) hpe
    have h8 : 2 * P * pe * sm pp fr n ^ P ≤ 100 * 320000000000 := Nat.mul_le_mul h7 h1
    have h9 : sd * (dr * (sp pp (sm pp fr n) P fr n + sm pp fr n ^ P) + 2 * P * pe * sm pp fr n ^ P) ≤ 100 * (30 * (13 * 320000000000) + 100 * 320000000000) := Nat.mul_le_mul hsd (by omega)
    omega
theorem tB_lt {pp : Nat → Nat} {fr n P sd : Nat} (hU : sm pp fr n ≤ 200) (hP : P ≤ 5) (hsd : sd ≤ 100) : tB pp fr n P sd ≤ 32000000000000 := by
  unfold tB
  have h1 := pw_le hU hP
  have h2 : (if sm pp fr n = 0 then 1 else sm pp fr n ^ P) ≤ 320000000000 := by
    by_cases h : sm pp fr n = 0
    · rw [if_pos h]; decide
    · rw [if_neg h]; exact h1
  exact Nat.mul_le_mul hsd h2
theorem tB_pos {pp : Nat → Nat} {fr n P sd : Nat} (hsd : 0 < sd) : 0 < tB pp fr n P sd := by
  unfold tB
  refine Nat.mul_pos hsd ?_
  by_cases h : sm pp fr n = 0
  · rw [if_pos h]; decide
  · rw [if_neg h]; exact Nat.pow_pos (Nat.pos_of_ne_zero h)
