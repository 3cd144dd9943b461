/-! WHAT IS MADE: arrays of the three kinds, all of one class a kind. -/
abbrev z0 : Nat → Nat := fun _ => 0
section MKA
variable {p : Program} {l : Launch} {e : Env} {R : Room} {s : State} {m : MethodId} {args : Array Value} {below : List Frame} {meth : Method} {c : Code} {H H0 : Heap} {locs : List Loc} {cells slots : Nat} {Q : State → Prop}
variable {cc : ByteArray} {pc : Nat} {ls : Array Slot} {rest : List Value} {D : va_G} {cl : List vw_C} {ws : va_W} {A : Nat → Prop} {cI cL cT : ClassId}
theorem nx_newI (hexec : p.tables.exec = Jvm.exec) (hb : c.code = cc) (harr : (Cond.arrayClass .int).before args s = true) (hK : va_K D cl (vwTy cI cL cT) s) (hP : va_P D cl ws H) (hD : va_D A ws) (hS : va_S A H0 H locs) (hA : ∀ q, H0.size ≤ q → A q) {N : Nat} (hN : N ≤ 1000) (hcells : cells + 1 ≤ R.cells) (hslots : slots + N ≤ R.slots) (hdg : decode cc pc = .ok (.newarray .int, 2))
    (kk : ∀ (q : Nat) (H1 : Heap), va_P D cl (ws ++ [(q, .inl (cI, N, .inl (fun j => nI (z0 j))))]) H1 → va_D A (ws ++ [(q, .inl (cI, N, .inl (fun j => nI (z0 j))))]) → va_S A H0 H1 locs → W p l e R s m args below meth c H1 locs (cells + 1) (slots + N) Q (F0 m (pc + 2) ls (.ref q :: rest))) : W p l e R s m args below meth c H locs cells slots Q (F0 m pc ls (.int (nI N) :: rest)) := by
  refine va_newa (atype := .int) (ty := .int) hexec hb harr rfl hK hP hD hS hA (a0 := (N, .inl (fun j => nI (z0 j)))) (fun cA => rfl) (nI_pos (by omega)) (nI_clamp (by omega)) (by show N * 4 ≤ _; omega) hcells hslots hdg (fun q cA H1 hK1 hP1 hD1 hS1 => ?_)
  have h1 : va_RA s cI .int := (hK.2 0 _ rfl).2
  have h2 : va_RA s cA .int := (hK1.2 3 _ rfl).2
  have e9 : cA = cI := Option.some.inj (h2.symm.trans h1)
  subst e9
  exact kk q H1 hP1 hD1 hS1
theorem nx_newL (hexec : p.tables.exec = Jvm.exec) (hb : c.code = cc) (harr : (Cond.arrayClass .long).before args s = true) (hK : va_K D cl (vwTy cI cL cT) s) (hP : va_P D cl ws H) (hD : va_D A ws) (hS : va_S A H0 H locs) (hA : ∀ q, H0.size ≤ q → A q) {N : Nat} (hN : N ≤ 1000) (hcells : cells + 1 ≤ R.cells) (hslots : slots + N ≤ R.slots) (hdg : decode cc pc = .ok (.newarray .long, 2))
    (kk : ∀ (q : Nat) (H1 : Heap), va_P D cl (ws ++ [(q, .inl (cL, N, .inr (.inl (fun j => lN (z0 j)))))]) H1 → va_D A (ws ++ [(q, .inl (cL, N, .inr (.inl (fun j => lN (z0 j)))))]) → va_S A H0 H1 locs → W p l e R s m args below meth c H1 locs (cells + 1) (slots + N) Q (F0 m (pc + 2) ls (.ref q :: rest))) : W p l e R s m args below meth c H locs cells slots Q (F0 m pc ls (.int (nI N) :: rest)) := by
  refine va_newa (atype := .long) (ty := .long) hexec hb harr rfl hK hP hD hS hA (a0 := (N, .inr (.inl (fun j => lN (z0 j))))) (fun cA => rfl) (nI_pos (by omega)) (nI_clamp (by omega)) (by show N * 8 ≤ _; omega) hcells hslots hdg (fun q cA H1 hK1 hP1 hD1 hS1 => ?_)
  have h1 : va_RA s cL .long := (hK.2 1 _ rfl).2
  have h2 : va_RA s cA .long := (hK1.2 3 _ rfl).2
  have e9 : cA = cL := Option.some.inj (h2.symm.trans h1)
  subst e9
  exact kk q H1 hP1 hD1 hS1
theorem nx_newQ (hexec : p.tables.exec = Jvm.exec) (hb : c.code = cc) {own : String} {index : Nat} (hown : s.vm.findClass own = some m.cls) (hclink : (Cond.classLink own index "RoundTrips$CarType").before args s = true) (hover : va_AO "RoundTrips$CarType" s) (hK : va_K D cl (vwTy cI cL cT) s) (hP : va_P D cl ws H) (hD : va_D A ws) (hS : va_S A H0 H locs) (hA : ∀ q, H0.size ≤ q → A q) {ca : Nat → Nat} (hcells : cells + 1 ≤ R.cells) (hslots : slots + 6 ≤ R.slots) (hdg : decode cc pc = .ok (.anewarray index, 3))
    (kk : ∀ (q : Nat) (H1 : Heap), va_P D cl (ws ++ [(q, .inl (cT, 6, .inr (.inr (.inr (.inr (tq ca 0))))))]) H1 → va_D A (ws ++ [(q, .inl (cT, 6, .inr (.inr (.inr (.inr (tq ca 0))))))]) → va_S A H0 H1 locs → W p l e R s m args below meth c H1 locs (cells + 1) (slots + 6) Q (F0 m (pc + 3) ls (.ref q :: rest))) : W p l e R s m args below meth c H locs cells slots Q (F0 m pc ls (.int (nI 6) :: rest)) := by
  refine va_newq hexec hb hown hclink hover hK hP hD hS hA (N' := 6) (by decide) (by decide) (by decide) hcells hslots hdg (fun q cA H1 hK1 hP1 hD1 hS1 => ?_)
  obtain ⟨-, -, -, -, -, h1⟩ := (hK.2 2 _ rfl).2
  obtain ⟨-, -, -, -, -, h2⟩ := (hK1.2 3 _ rfl).2
  have e9 : cA = cT := Option.some.inj (h2.symm.trans h1)
  subst e9
  have e8 : (fun _ => none) = tq ca 0 := by funext j; simp [tq]
  rw [e8] at hP1 hD1
  exact kk q H1 hP1 hD1 hS1
end MKA
theorem tq_up {ca : Nat → Nat} {n v : Nat} (hn : n < 6) : va_up (tq ca n) (nI n).toNatClampNeg (some v) = tq (up ca n v) (n + 1) := by
  rw [nI_clamp (by omega)]
  funext j
  unfold va_up tq up
  by_cases h : j = n
  · subst h; simp
  · simp only [if_neg h]
    by_cases q : j < n
    · rw [if_pos q, if_pos (by omega)]
    · rw [if_neg q, if_neg (by omega)]
