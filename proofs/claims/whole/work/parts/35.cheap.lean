/-! THE CHEAPEST GROUP: least cents, then fewest cars, then the lowest type. -/
def ltc (ce : Nat → Nat) (n t n' t' : Nat) : Prop := n * ce t < n' * ce t' ∨ (n * ce t = n' * ce t' ∧ (n < n' ∨ (n = n' ∧ t < t')))
def isB (ce : Nat → Nat) (S : Nat → Nat → Prop) : Option (Nat × Nat) → Prop
  | none => ∀ n t, ¬ S n t
  | some (n, t) => S n t ∧ ∀ n' t', S n' t' → (n' = n ∧ t' = t) ∨ ltc ce n t n' t'
theorem isB_one {ce : Nat → Nat} {S : Nat → Nat → Prop} {b b' : Option (Nat × Nat)} (h : isB ce S b) (h' : isB ce S b') : b = b' := by
  cases b with
  | none =>
    cases b' with
    | none => rfl
    | some x => exact absurd h'.1 (h x.1 x.2)
  | some x =>
    cases b' with
    | none => exact absurd h.1 (h' x.1 x.2)
    | some y =>
      obtain ⟨n, t⟩ := x
      obtain ⟨n', t'⟩ := y
      rcases h.2 n' t' h'.1 with ⟨rfl, rfl⟩ | q
      · rfl
      · rcases h'.2 n t h.1 with ⟨rfl, rfl⟩ | q'
        · rfl
        · exfalso
          unfold ltc at q q'
          omega
theorem isB_congr {ce : Nat → Nat} {S S' : Nat → Nat → Prop} (hS : ∀ n t, S n t ↔ S' n t) {b : Option (Nat × Nat)} (h : isB ce S b) : isB ce S' b := by
  cases b with
  | none => exact fun n t q => h n t ((hS n t).mpr q)
  | some x => exact ⟨(hS _ _).mp h.1, fun n t q => h.2 n t ((hS n t).mpr q)⟩
def bV : Option (Nat × Nat) → Int32
  | none => -1
  | some (n, t) => nI (10 * t + n)
def bC (ce : Nat → Nat) : Option (Nat × Nat) → Nat
  | none => 0
  | some (n, t) => n * ce t
def bN : Option (Nat × Nat) → Nat
  | none => 0
  | some (n, _) => n
/-- the groups that carry enough, types below i -/
def SC (f : Nat → Nat → Nat) (ps i : Nat) (n t : Nat) : Prop := 1 ≤ n ∧ n ≤ 6 ∧ t < i ∧ ps ≤ f t n
/-- .. those that the reference has looked at -/
def SR (f : Nat → Nat → Nat) (ps nt N i : Nat) (n t : Nat) : Prop := (n < N ∨ (n = N ∧ t < i)) ∧ 1 ≤ n ∧ t < nt ∧ ps ≤ f t n
def isFew (f : Nat → Nat) (ps : Nat) (r : Int32) : Prop := (r = -1 ∧ ∀ c, 1 ≤ c → c ≤ 6 → f c < ps) ∨ ∃ c, r = nI c ∧ 1 ≤ c ∧ c ≤ 6 ∧ ps ≤ f c ∧ ∀ c', 1 ≤ c' → c' < c → f c' < ps
theorem cl_0 {ce : Nat → Nat} {f : Nat → Nat → Nat} {ps : Nat} : isB ce (SC f ps 0) none := fun n t q => by unfold SC at q; omega
theorem cl_none {ce : Nat → Nat} {f : Nat → Nat → Nat} {ps i : Nat} {b : Option (Nat × Nat)} (h : isB ce (SC f ps i) b) (hn : ∀ c, 1 ≤ c → c ≤ 6 → f i c < ps) : isB ce (SC f ps (i + 1)) b := by
  refine isB_congr (fun n t => ⟨fun q => ⟨q.1, q.2.1, by have := q.2.2.1; omega, q.2.2.2⟩, fun q => ⟨q.1, q.2.1, ?_, q.2.2.2⟩⟩) h
  obtain ⟨q1, q2, q3, q4⟩ := q
  by_cases e : t = i
  · subst e
    exact absurd (hn n q1 q2) (by omega)
  · omega
theorem ltc_trans {ce : Nat → Nat} {a b c d x y : Nat} (h1 : ltc ce a b c d) (h2 : ltc ce c d x y) : ltc ce a b x y := by
  unfold ltc at *
  omega
theorem few_le {f : Nat → Nat} {ps c n : Nat} (hf : ∀ c', 1 ≤ c' → c' < c → f c' < ps) (h1 : 1 ≤ n) (h : ps ≤ f n) : c ≤ n :=
  Classical.byContradiction fun z => absurd (hf n h1 (by omega)) (by omega)
theorem mul_mono {a b x : Nat} (h : a < b) (hx : 1 ≤ x) : a * x < b * x := Nat.mul_lt_mul_of_pos_right h hx
theorem cl_take {ce : Nat → Nat} {f : Nat → Nat → Nat} {ps i c : Nat} {b : Option (Nat × Nat)} (h : isB ce (SC f ps i) b) (hce : 1 ≤ ce i) (h1 : 1 ≤ c) (h6 : c ≤ 6) (hc : ps ≤ f i c) (hf : ∀ c', 1 ≤ c' → c' < c → f i c' < ps)
    (hb : b = none ∨ c * ce i < bC ce b ∨ (c * ce i = bC ce b ∧ c < bN b)) : isB ce (SC f ps (i + 1)) (some (c, i)) := by
  refine ⟨⟨h1, h6, by omega, hc⟩, fun n t q => ?_⟩
  obtain ⟨q1, q2, q3, q4⟩ := q
  by_cases e : t = i
  · subst e
    have hle := few_le hf q1 q4
    by_cases e2 : n = c
    · exact Or.inl ⟨e2, rfl⟩
    · exact Or.inr (Or.inl (mul_mono (by omega) hce))
  · have hs : SC f ps i n t := ⟨q1, q2, by omega, q4⟩
    cases b with
    | none => exact absurd hs (h n t)
    | some x =>
      obtain ⟨n0, t0⟩ := x
      have hl : ltc ce c i n0 t0 := by
        rcases hb with hb | hb | hb
        · exact absurd hb (by simp)
        · exact Or.inl hb
        · exact Or.inr ⟨hb.1, Or.inl hb.2⟩
      rcases h.2 n t hs with ⟨rfl, rfl⟩ | z
      · exact Or.inr hl
      · exact Or.inr (ltc_trans hl z)
theorem cl_keep {ce : Nat → Nat} {f : Nat → Nat → Nat} {ps i c n0 t0 : Nat} (h : isB ce (SC f ps i) (some (n0, t0))) (hce : 1 ≤ ce i) (hf : ∀ c', 1 ≤ c' → c' < c → f i c' < ps)
    (h1 : n0 * ce t0 ≤ c * ce i) (h2 : c * ce i = n0 * ce t0 → n0 ≤ c) : isB ce (SC f ps (i + 1)) (some (n0, t0)) := by
  obtain ⟨⟨s1, s2, s3, s4⟩, h⟩ := h
  refine ⟨⟨s1, s2, by omega, s4⟩, fun n t q => ?_⟩
  obtain ⟨q1, q2, q3, q4⟩ := q
  by_cases e : t = i
  · subst e
    have hle := few_le hf q1 q4
    refine Or.inr ?_
    unfold ltc
    by_cases e2 : n = c
    · subst e2
      by_cases e3 : n * ce t = n0 * ce t0
      · have := h2 e3
        omega
      · omega
    · have := mul_mono (a := c) (b := n) (by omega) hce
      omega
  · exact h n t ⟨q1, q2, by omega, q4⟩
theorem rf_0 {ce : Nat → Nat} {f : Nat → Nat → Nat} {ps nt : Nat} : isB ce (SR f ps nt 1 0) none := fun n t q => by unfold SR at q; omega
theorem rf_row {ce : Nat → Nat} {f : Nat → Nat → Nat} {ps nt N : Nat} {b : Option (Nat × Nat)} (h : isB ce (SR f ps nt N nt) b) : isB ce (SR f ps nt (N + 1) 0) b :=
  isB_congr (fun n t => ⟨fun q => ⟨by have := q.1; omega, q.2⟩, fun q => ⟨by have := q.1; have := q.2.2.1; omega, q.2⟩⟩) h
theorem rf_end {ce : Nat → Nat} {f : Nat → Nat → Nat} {ps nt : Nat} {b : Option (Nat × Nat)} (h : isB ce (SR f ps nt 7 0) b) : isB ce (SC f ps nt) b :=
  isB_congr (fun n t => ⟨fun q => ⟨q.2.1, by have := q.1; omega, q.2.2⟩, fun q => ⟨by have := q.2.1; omega, q.1, q.2.2⟩⟩) h
theorem rf_skip {ce : Nat → Nat} {f : Nat → Nat → Nat} {ps nt N i : Nat} {b : Option (Nat × Nat)} (h : isB ce (SR f ps nt N i) b) (hn : f i N < ps) : isB ce (SR f ps nt N (i + 1)) b := by
  refine isB_congr (fun n t => ⟨fun q => ⟨by have := q.1; omega, q.2⟩, fun q => ⟨?_, q.2⟩⟩) h
  obtain ⟨q1, q2, q3, q4⟩ := q
  by_cases e : n = N ∧ t = i
  · rw [e.1, e.2] at q4
    omega
  · omega
theorem rf_take {ce : Nat → Nat} {f : Nat → Nat → Nat} {ps nt N i : Nat} {b : Option (Nat × Nat)} (h : isB ce (SR f ps nt N i) b) (hi : i < nt) (h1 : 1 ≤ N) (hc : ps ≤ f i N) (hb : b = none ∨ N * ce i < bC ce b) : isB ce (SR f ps nt N (i + 1)) (some (N, i)) := by
  refine ⟨⟨Or.inr ⟨rfl, by omega⟩, h1, hi, hc⟩, fun n t q => ?_⟩
  obtain ⟨q1, q2, q3, q4⟩ := q
  by_cases e : n = N ∧ t = i
  · exact Or.inl e
  · have hs : SR f ps nt N i n t := ⟨by omega, q2, q3, q4⟩
    cases b with
    | none => exact absurd hs (h n t)
    | some x =>
      obtain ⟨n0, t0⟩ := x
      have hl : ltc ce N i n0 t0 := by
        rcases hb with hb | hb
        · exact absurd hb (by simp)
        · exact Or.inl hb
      rcases h.2 n t hs with ⟨rfl, rfl⟩ | z
      · exact Or.inr hl
      · exact Or.inr (ltc_trans hl z)
theorem rf_keep {ce : Nat → Nat} {f : Nat → Nat → Nat} {ps nt N i n0 t0 : Nat} (h : isB ce (SR f ps nt N i) (some (n0, t0))) (h1 : n0 * ce t0 ≤ N * ce i) : isB ce (SR f ps nt N (i + 1)) (some (n0, t0)) := by
  obtain ⟨⟨s1, s2⟩, h⟩ := h
  refine ⟨⟨by omega, s2⟩, fun n t q => ?_⟩
  obtain ⟨q1, q2⟩ := q
  by_cases e : n = N ∧ t = i
  · rw [e.1, e.2]
    refine Or.inr ?_
    unfold ltc
    omega
  · exact h n t ⟨by omega, q2⟩
def fC (pp hh rm sd dr pe : Nat → Nat) (F t n : Nat) : Nat := oC n (rm t) (tA pp hh 1 F (rm t) (sd t) (dr t) (pe t)) (tB pp 1 F (rm t) (sd t))
theorem oC_lt {cars r A B : Nat} (h : 300 * cars * r * B < 2 ^ 63) : oC cars r A B < 2 ^ 63 := by
  unfold oC
  by_cases q : A = 0
  · rw [if_pos q]; decide
  · rw [if_neg q]; exact Nat.lt_of_le_of_lt (Nat.div_le_self _ _) h
theorem bC_le {ce : Nat → Nat} {S : Nat → Nat → Prop} {b : Option (Nat × Nat)} {nt : Nat} (hb : isB ce S b) (hS : ∀ n t, S n t → n ≤ 6 ∧ t < nt) (hce : ∀ t, t < nt → ce t ≤ 100000) : bC ce b ≤ 600000 ∧ bN b ≤ 6 := by
  cases b with
  | none => exact ⟨Nat.zero_le _, Nat.zero_le _⟩
  | some x =>
    obtain ⟨h1, h2⟩ := hS _ _ hb.1
    exact ⟨Nat.mul_le_mul h1 (hce _ h2), h1⟩
theorem bV_none {b : Option (Nat × Nat)} {nt : Nat} {ce : Nat → Nat} {S : Nat → Nat → Prop} (hb : isB ce S b) (hS : ∀ n t, S n t → n ≤ 6 ∧ t < nt) (h6 : nt ≤ 6) : bV b = -1 ↔ b = none := by
  cases b with
  | none => exact ⟨fun _ => rfl, fun _ => rfl⟩
  | some x =>
    obtain ⟨h1, h2⟩ := hS _ _ hb.1
    refine ⟨fun q => ?_, fun q => by cases q⟩
    have h : (nI (10 * x.2 + x.1)).toInt = (-1 : Int32).toInt := congrArg Int32.toInt q
    rw [nI_toInt (by omega)] at h
    exact absurd h (by show ¬ (_ = (-1 : Int)); omega)
/-! CELLS THAT A METHOD ONLY READS, beside its world. -/
section WXA
variable {dC : Nat → ClassId} {dI : Nat → Nat → Nat} {cI cL cT : ClassId} {sa : Nat → Nat}
def wx (dC : Nat → ClassId) (dI : Nat → Nat → Nat) (cI cL cT : ClassId) (sa : Nat → Nat) (av : List Value) (ws rx : va_W) (sz : Nat) : Array Value → State → Prop :=
  va_Pc av (fun U => U.heap.size = sz ∧ CT dC dI cI cL cT sa U ∧ va_P (dC, dI) vwCl ws U.heap ∧ va_D (fun _ => True) ws ∧ va_P (dC, dI) vwCl rx U.heap ∧ ∀ (k : Nat) (q : Nat × va_E), rx[k]? = some q → ¬ va_A ws sz q.1)
theorem wx_blind {av : List Value} {ws rx : va_W} {sz : Nat} : FrameBlind (wx dC dI cI cL cT sa av ws rx sz) := fun a U g mk h => ⟨h.1, h.2.1, h.2.2.1.call, h.2.2.2⟩
theorem wx_at {s : State} {H : Heap} {av : List Value} {ws rx : va_W} {A : Nat → Prop} (hC : CT dC dI cI cL cT sa s) (hP : va_P (dC, dI) vwCl ws H) (hD : va_D A ws) (hR : va_P (dC, dI) vwCl rx H) (hno : ∀ (k : Nat) (q : Nat × va_E), rx[k]? = some q → ¬ va_A ws H.size q.1) : ∀ U : State, U.heap = H → s.WarmedH U.vm → wx dC dI cI cL cT sa av ws rx H.size av.toArray U :=
  fun U hU hW => ⟨rfl, by rw [hU], hC.warm hW, by rw [hU]; exact hP, hD.weaken (fun _ _ _ _ => trivial), by rw [hU]; exact hR, hno⟩
end WXA
theorem ro_kept {D : va_G} {cl : List vw_C} {rx : va_W} {A : Nat → Prop} {H0 H : Heap} {locs : List Loc} (hS : va_S A H0 H locs) (hR : va_P D cl rx H0) (hno : ∀ (k : Nat) (q : Nat × va_E), rx[k]? = some q → ¬ A q.1) : va_P D cl rx H :=
  fun k q h => (hR k q h).kept (hS.2.1 q.1 (hR k q h).lt (hno k q h))
abbrev carE (rm sd dr pe ce : Nat → Nat) (k : Nat) : va_E := .inr (1, [.int (nI (rm k)), .int (nI (sd k)), .int (nI (dr k)), .int (nI (pe k)), .int (nI (ce k))])
def carsL (ca rm sd dr pe ce : Nat → Nat) (nt : Nat) : va_W := (List.range nt).map fun k => (ca k, carE rm sd dr pe ce k)
theorem carsL_at {ca rm sd dr pe ce : Nat → Nat} {nt k : Nat} (h : k < nt) : (carsL ca rm sd dr pe ce nt)[k]? = some (ca k, carE rm sd dr pe ce k) := by
  unfold carsL
  rw [List.getElem?_map, List.getElem?_range h]
  rfl
theorem va_P1 {D : va_G} {cl : List vw_C} {rx : va_W} {H : Heap} {k : Nat} {q : Nat × va_E} (hP : va_P D cl rx H) (h : rx[k]? = some q) : va_P D cl [q] H := fun j x hj => by
  cases j with
  | zero => cases hj; exact hP k q h
  | succ j => simp at hj
theorem no1 {B : Nat → Prop} {q : Nat × va_E} (h : ¬ B q.1) : ∀ (k : Nat) (x : Nat × va_E), [q][k]? = some x → ¬ B x.1 := fun j x hj => by
  cases j with
  | zero => cases hj; exact h
  | succ j => simp at hj
