/-! THE WORDS FOR THE STATE: sums over the floors of a zone; the reference's fields. -/
/-- f a + f (a + 1) + .. : n of them -/
def sm (f : Nat → Nat) (a : Nat) : Nat → Nat
  | 0 => 0
  | n + 1 => sm f a n + f (a + n)
/-- over the n floors from a on: the ways in which somebody gets off there, U persons, P places -/
def sp (f : Nat → Nat) (U P a : Nat) : Nat → Nat
  | 0 => 0
  | n + 1 => sp f U P a n + (U ^ P - (U - f (a + n)) ^ P)
/-- over the n floors from a on: their heights, each times the ways in which it is the highest -/
def hp (f h : Nat → Nat) (P a : Nat) : Nat → Nat
  | 0 => 0
  | n + 1 => hp f h P a n + h (a + n) * (sm f a (n + 1) ^ P - sm f a n ^ P)
abbrev mF (q : Nat → Nat) (th : Int32) (F n : Nat) (ab be : Int64) : List Value := [.int th, .ref (q 1), .ref (q 2), .int (nI F), .ref (q 4), .ref (q 5), .ref (q 6), .ref (q 7), .ref (q 8), .int (nI n), .long ab, .long be, .ref (q 12), .ref (q 13), .ref (q 14), .ref (q 15), .ref (q 16)]
theorem sm_mono {f : Nat → Nat} {a n k : Nat} (h : n ≤ k) : sm f a n ≤ sm f a k := by
  induction k with
  | zero => rw [Nat.le_zero.mp h]; exact Nat.le_refl _
  | succ k ih =>
    rcases Nat.lt_or_ge n (k + 1) with q | q
    · exact Nat.le_trans (ih (by omega)) (Nat.le_add_right _ _)
    · rw [show n = k + 1 by omega]; exact Nat.le_refl _
theorem sm_split {f : Nat → Nat} {a n : Nat} : ∀ k : Nat, sm f a (n + k) = sm f a n + sm f (a + n) k := by
  intro k
  induction k with
  | zero => rfl
  | succ k ih =>
    show sm f a (n + k) + f (a + (n + k)) = sm f a n + (sm f (a + n) k + f (a + n + k))
    rw [ih, Nat.add_assoc a n k]
    omega
theorem sm_le {f : Nat → Nat} {a n k : Nat} (h : k < n) : f (a + k) ≤ sm f a n := by
  have h1 : sm f a (k + 1) ≤ sm f a n := sm_mono h
  have h2 : sm f a (k + 1) = sm f a k + f (a + k) := rfl
  omega
/-- a boolean's int -/
noncomputable def bI (c : Prop) : Int32 := haveI := Classical.propDecidable c; if c then nI 1 else nI 0
theorem bI_t {c : Prop} (h : c) : bI c = nI 1 := by simp [bI, h]
theorem bI_f {c : Prop} (h : ¬ c) : bI c = nI 0 := by simp [bI, h]
/-- there is such a floor, such a type -/
def okFl (F : Nat) (v : Int32) : Prop := 1 ≤ v.toInt ∧ v.toInt ≤ (F : Int)
def okTy (n : Nat) (v : Int32) : Prop := 0 ≤ v.toInt ∧ v.toInt < (n : Int)
section NXD
variable {p : Program} {l : Launch} {e : Env} {R : Room} {s : State} {m : MethodId} {args : Array Value} {below : List Frame} {meth : Method} {c : Code} {H : Heap} {locs : List Loc} {cells slots : Nat} {Q : State → Prop}
variable {cc : ByteArray} {pc : Nat} {ls : Array Slot} {rest : List Value}
theorem nx_b_ne (hexec : p.tables.exec = Jvm.exec) (hb : c.code = cc) {b : Prop} {off : Int} {tgt : Nat} (hdg : decode cc pc = .ok (.ifCond .ne off, 3)) (ht : (pc : Int) + off = (tgt : Int)) (kt : b → W p l e R s m args below meth c H locs cells slots Q (F0 m tgt ls rest)) (kf : ¬ b → W p l e R s m args below meth c H locs cells slots Q (F0 m (pc + 3) ls rest)) : W p l e R s m args below meth c H locs cells slots Q (F0 m pc ls (.int (bI b) :: rest)) :=
  lv_if_ne hexec hb hdg ht (fun q => kt (Classical.byContradiction fun h => q (by rw [bI_f h]; decide))) (fun q => kf (fun h => by rw [bI_t h] at q; exact absurd q (by decide)))
theorem nx_b_eq (hexec : p.tables.exec = Jvm.exec) (hb : c.code = cc) {b : Prop} {off : Int} {tgt : Nat} (hdg : decode cc pc = .ok (.ifCond .eq off, 3)) (ht : (pc : Int) + off = (tgt : Int)) (kt : ¬ b → W p l e R s m args below meth c H locs cells slots Q (F0 m tgt ls rest)) (kf : b → W p l e R s m args below meth c H locs cells slots Q (F0 m (pc + 3) ls rest)) : W p l e R s m args below meth c H locs cells slots Q (F0 m pc ls (.int (bI b) :: rest)) :=
  lv_if_eq hexec hb hdg ht (fun q => kt (fun h => by rw [bI_t h] at q; exact absurd q (by decide))) (fun q => kf (Classical.byContradiction fun h => q (by rw [bI_f h]; decide)))
end NXD
