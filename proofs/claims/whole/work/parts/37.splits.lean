/-! SPLITS: zones by their ends; of all splits the one whose longest trip is shortest, of equal ones the lowest. -/
def frm (e : Nat → Nat) (z : Nat) : Nat := if z = 0 then 1 else e (z - 1) + 1
def zi (e : Nat → Nat) (z : Nat) : Nat := frm e z * 13 + e z
def vp (n : Nat) (e : Nat → Nat) : Prop := ∀ z, z < n → frm e z ≤ e z
def vs (F k : Nat) (e : Nat → Nat) : Prop := vp k e ∧ e (k - 1) = F
def agr (n : Nat) (a b : Nat → Nat) : Prop := ∀ t, t < n → a t = b t
/-- b is below a within the first n places -/
def lexP (n : Nat) (a b : Nat → Nat) : Prop := ∃ j, j < n ∧ agr j a b ∧ b j < a j
theorem frm_1 {e : Nat → Nat} {z : Nat} : 1 ≤ frm e z := by unfold frm; by_cases h : z = 0 <;> simp [h]
theorem frm_0 {e : Nat → Nat} : frm e 0 = 1 := rfl
theorem frm_s {e : Nat → Nat} {z : Nat} : frm e (z + 1) = e z + 1 := by simp [frm]
theorem agr.symm {n : Nat} {a b : Nat → Nat} (h : agr n a b) : agr n b a := fun t ht => (h t ht).symm
theorem agr.trans {n : Nat} {a b c : Nat → Nat} (h : agr n a b) (h2 : agr n b c) : agr n a c := fun t ht => (h t ht).trans (h2 t ht)
theorem agr.mono {n k : Nat} {a b : Nat → Nat} (h : agr n a b) (hk : k ≤ n) : agr k a b := fun t ht => h t (by omega)
theorem agr.rf {n : Nat} {a : Nat → Nat} : agr n a a := fun _ _ => rfl
theorem agr_frm {n z : Nat} {a b : Nat → Nat} (h : agr n a b) (hz : z ≤ n) : frm a z = frm b z := by
  unfold frm
  by_cases q : z = 0
  · simp [q]
  · rw [if_neg q, if_neg q, h (z - 1) (by omega)]
theorem agr_zi {n z : Nat} {a b : Nat → Nat} (h : agr n a b) (hz : z < n) : zi a z = zi b z := by
  unfold zi
  rw [agr_frm h (by omega), h z hz]
theorem agr_vp {n : Nat} {a b : Nat → Nat} (h : agr n a b) (hv : vp n a) : vp n b := fun z hz => by
  rw [← agr_frm h (by omega), ← h z hz]
  exact hv z hz
theorem agr_vs {F k : Nat} {a b : Nat → Nat} (h : agr k a b) (hk : 1 ≤ k) (hv : vs F k a) : vs F k b := ⟨agr_vp h hv.1, by rw [← h (k - 1) (by omega)]; exact hv.2⟩
theorem agr.lexL {n : Nat} {a b c : Nat → Nat} (h : agr n a b) (hl : lexP n a c) : lexP n b c := by
  obtain ⟨j, h1, h2, h3⟩ := hl
  exact ⟨j, h1, (h.mono (by omega)).symm.trans h2, by rw [← h j h1]; exact h3⟩
theorem agr.lexR {n : Nat} {a b c : Nat → Nat} (h : agr n a b) (hl : lexP n c a) : lexP n c b := by
  obtain ⟨j, h1, h2, h3⟩ := hl
  exact ⟨j, h1, h2.trans (h.mono (by omega)), by rw [← h j h1]; exact h3⟩
theorem agr_up {n x : Nat} {a : Nat → Nat} : agr n a (up a n x) := fun t ht => (up_n (by omega)).symm
theorem agr_cp {n : Nat} {a b : Nat → Nat} : agr n a (cp a b n) := fun t ht => by unfold cp; rw [if_pos ht]
theorem lex_asym {n : Nat} {a b : Nat → Nat} (h1 : lexP n a b) (h2 : lexP n b a) : False := by
  obtain ⟨j, j1, j2, j3⟩ := h1
  obtain ⟨i, i1, i2, i3⟩ := h2
  rcases Nat.lt_trichotomy i j with q | q | q
  · have := j2 i q; omega
  · subst q; omega
  · have := i2 j q; omega
/-- the ends grow: z of them lie above -/
theorem vs_le {F k : Nat} {e : Nat → Nat} (h : vs F k e) : ∀ d z, z + d + 1 = k → e z + d ≤ F := by
  intro d
  induction d with
  | zero => intro z hz; rw [show z = k - 1 by omega, h.2]; exact Nat.le_refl _
  | succ d ih =>
    intro z hz
    have h1 := ih (z + 1) (by omega)
    have h2 := h.1 (z + 1) (by omega)
    rw [frm_s] at h2
    omega
theorem vs_F {F k z : Nat} {e : Nat → Nat} (h : vs F k e) (hz : z < k) : e z ≤ F := by
  have := vs_le h (k - 1 - z) z (by omega)
  omega
def zok (F j : Nat) : Prop := 1 ≤ j / 13 ∧ j / 13 ≤ j % 13 ∧ j % 13 ≤ F
theorem zok_of {F a b : Nat} (h1 : 1 ≤ a) (h2 : a ≤ b) (h3 : b ≤ F) (h4 : F ≤ 12) : zok F (a * 13 + b) := by
  unfold zok
  omega
theorem zok_vs {F k z : Nat} {e : Nat → Nat} (h : vs F k e) (hz : z < k) (h4 : F ≤ 12) : zok F (zi e z) := zok_of frm_1 (h.1 z hz) (vs_F h hz) h4
theorem zok_lt {F j : Nat} (h : zok F j) (h4 : F ≤ 12) : 0 < j ∧ j < 169 := by
  unfold zok at h
  omega
section SPL
variable {TA TB : Nat → Nat}
/-- no longer -/
def ze (TA TB : Nat → Nat) (x y : Nat) : Prop := TA x * TB y ≤ TA y * TB x
theorem ze_total (x y : Nat) : ze TA TB x y ∨ ze TA TB y x := Nat.le_total _ _
theorem ze_refl (x : Nat) : ze TA TB x x := Nat.le_refl _
theorem ze_trans (hB : ∀ j, 0 < TB j) {x y z : Nat} (h1 : ze TA TB x y) (h2 : ze TA TB y z) : ze TA TB x z := by
  unfold ze at *
  refine Nat.le_of_mul_le_mul_left (c := TB y) ?_ (hB y)
  have a1 : TB y * (TA x * TB z) = (TA x * TB y) * TB z := by simp only [Nat.mul_comm, Nat.mul_left_comm]
  have a2 : (TA y * TB x) * TB z = (TA y * TB z) * TB x := by simp only [Nat.mul_comm, Nat.mul_left_comm]
  have a3 : (TA z * TB y) * TB x = TB y * (TA z * TB x) := by simp only [Nat.mul_comm, Nat.mul_left_comm]
  rw [a1, ← a3]
  exact Nat.le_trans (Nat.mul_le_mul_right _ h1) (by rw [a2]; exact Nat.mul_le_mul_right _ h2)
/-- m is a longest of the first n zones -/
def isL (TA TB : Nat → Nat) (n : Nat) (e : Nat → Nat) (m : Nat) : Prop := (∃ z, z < n ∧ m = zi e z) ∧ ∀ z, z < n → ze TA TB (zi e z) m
theorem isL_ext {n m : Nat} {a b : Nat → Nat} (h : agr n a b) (hm : isL TA TB n a m) : isL TA TB n b m := by
  obtain ⟨⟨z, hz, e⟩, h2⟩ := hm
  exact ⟨⟨z, hz, by rw [e, agr_zi h hz]⟩, fun y hy => by rw [← agr_zi h hy]; exact h2 y hy⟩
theorem isL_two {n m m' : Nat} {e : Nat → Nat} (h : isL TA TB n e m) (h' : isL TA TB n e m') : ze TA TB m m' := by
  obtain ⟨⟨z, hz, rfl⟩, -⟩ := h
  exact h'.2 z hz
/-- one zone more -/
theorem isL_same (hB : ∀ j, 0 < TB j) {n m : Nat} {e : Nat → Nat} (h : isL TA TB n e m) (hq : ze TA TB (zi e n) m) : isL TA TB (n + 1) e m := by
  obtain ⟨⟨z, hz, e1⟩, h2⟩ := h
  refine ⟨⟨z, by omega, e1⟩, fun y hy => ?_⟩
  by_cases q : y = n
  · rw [q]; exact hq
  · exact h2 y (by omega)
theorem isL_new (hB : ∀ j, 0 < TB j) {n m : Nat} {e : Nat → Nat} (h : isL TA TB n e m) (hq : ze TA TB m (zi e n)) : isL TA TB (n + 1) e (zi e n) := by
  refine ⟨⟨n, by omega, rfl⟩, fun y hy => ?_⟩
  by_cases q : y = n
  · rw [q]; exact ze_refl _
  · exact ze_trans hB (h.2 y (by omega)) hq
theorem isL_1 {e : Nat → Nat} : isL TA TB 1 e (zi e 0) := ⟨⟨0, by omega, rfl⟩, fun y hy => by rw [show y = 0 by omega]; exact ze_refl _⟩
def isBst (TA TB : Nat → Nat) (k : Nat) (P : (Nat → Nat) → Prop) (be : Nat → Nat) (bl : Nat) : Prop :=
  P be ∧ isL TA TB k be bl ∧ ∀ e, P e → ∀ m, isL TA TB k e m → ze TA TB bl m ∧ (ze TA TB m bl → agr k be e ∨ lexP k e be)
def Bs (TA TB : Nat → Nat) (k : Nat) (P : (Nat → Nat) → Prop) (o : Option Nat) (be : Nat → Nat) : Prop :=
  match o with
  | none => ∀ e, ¬ P e
  | some bl => isBst TA TB k P be bl
theorem Bs_congr {k : Nat} {P P' : (Nat → Nat) → Prop} {o : Option Nat} {be : Nat → Nat} (h : Bs TA TB k P o be) (hP : ∀ e, P e ↔ P' e) : Bs TA TB k P' o be := by
  cases o with
  | none => exact fun e q => h e ((hP e).mpr q)
  | some bl => exact ⟨(hP _).mp h.1, h.2.1, fun e q => h.2.2 e ((hP e).mpr q)⟩
theorem bst_one (k : Nat) {P : (Nat → Nat) → Prop} {be be' : Nat → Nat} {bl bl' : Nat} (h : isBst TA TB k P be bl) (h' : isBst TA TB k P be' bl') : agr k be be' := by
  obtain ⟨a1, a2⟩ := h.2.2 be' h'.1 bl' h'.2.1
  obtain ⟨b1, b2⟩ := h'.2.2 be h.1 bl h.2.1
  rcases a2 b1 with q | q
  · exact q
  · rcases b2 a1 with q' | q'
    · exact q'.symm
    · exact (lex_asym q q').elim
theorem bs_take (hB : ∀ j, 0 < TB j) {k m : Nat} {P P' : (Nat → Nat) → Prop} {o : Option Nat} {be en be' : Nat → Nat} (h : Bs TA TB k P o be) (hm : isL TA TB k en m) (hP' : ∀ e, P' e ↔ P e ∨ agr k en e) (hag : agr k en be')
    (hlt : o = none ∨ ∃ x, o = some x ∧ ¬ ze TA TB x m) : Bs TA TB k P' (some m) be' := by
  refine ⟨(hP' be').mpr (Or.inr hag), isL_ext hag hm, fun e he m' hm' => ?_⟩
  rcases (hP' e).mp he with q | q
  · rcases hlt with rfl | ⟨x, rfl, hx⟩
    · exact (h e q).elim
    · obtain ⟨c1, -⟩ := h.2.2 e q m' hm'
      have hmx : ze TA TB m x := (ze_total x m).resolve_left hx
      exact ⟨ze_trans hB hmx c1, fun z => (hx (ze_trans hB c1 z)).elim⟩
  · exact ⟨isL_two hm (isL_ext q.symm hm'), fun _ => Or.inl (hag.symm.trans q)⟩
theorem bs_keep (hB : ∀ j, 0 < TB j) {k m bl : Nat} {P P' : (Nat → Nat) → Prop} {be en : Nat → Nat} (h : isBst TA TB k P be bl) (hm : isL TA TB k en m) (hP' : ∀ e, P' e ↔ P e ∨ agr k en e) (hle : ze TA TB bl m) (hbef : ∀ e, P e → lexP k en e) : isBst TA TB k P' be bl := by
  refine ⟨(hP' be).mpr (Or.inl h.1), h.2.1, fun e he m' hm' => ?_⟩
  rcases (hP' e).mp he with q | q
  · exact h.2.2 e q m' hm'
  · exact ⟨ze_trans hB hle (isL_two hm (isL_ext q.symm hm')), fun _ => Or.inr (q.lexL (hbef be h.1))⟩
/-- the longest of the zones below, or none yet -/
def isLo (TA TB : Nat → Nat) (i : Nat) (e : Nat → Nat) (o : Option Nat) : Prop :=
  match o with
  | none => i = 0
  | some m => isL TA TB i e m
theorem isLo_ext {i : Nat} {a b : Nat → Nat} {o : Option Nat} (h : agr i a b) (ho : isLo TA TB i a o) : isLo TA TB i b o := by
  cases o with
  | none => exact ho
  | some m => exact isL_ext h ho
end SPL
def oV : Option Nat → Nat
  | none => 0
  | some m => m
def oR : Option Nat → Int32
  | none => -1
  | some m => nI m
/-- the splits below a beginning; with it those that begin so -/
def PA (F k i : Nat) (en e : Nat → Nat) : Prop := vs F k e ∧ lexP i en e
def PB (F k i : Nat) (en e : Nat → Nat) : Prop := vs F k e ∧ (lexP i en e ∨ agr i en e)
theorem lex_up {i x : Nat} {a e : Nat → Nat} : lexP (i + 1) (up a i x) e ↔ lexP i a e ∨ (agr i a e ∧ e i < x) := by
  constructor
  · rintro ⟨j, h1, h2, h3⟩
    by_cases q : j = i
    · subst q
      rw [up_s] at h3
      exact Or.inr ⟨(agr_up (n := j)).trans h2, h3⟩
    · have ha : agr i a (up a i x) := agr_up
      exact Or.inl ⟨j, by omega, (ha.mono (by omega)).trans h2, by rw [ha j (by omega)]; exact h3⟩
  · rintro (⟨j, h1, h2, h3⟩ | ⟨h1, h2⟩)
    · have ha : agr i a (up a i x) := agr_up
      exact ⟨j, by omega, (ha.mono (by omega)).symm.trans h2, by rw [← ha j (by omega)]; exact h3⟩
    · exact ⟨i, by omega, (agr_up (n := i)).symm.trans h1, by rw [up_s]; exact h2⟩
theorem agr_s {i : Nat} {a e : Nat → Nat} : agr (i + 1) a e ↔ agr i a e ∧ a i = e i := by
  constructor
  · exact fun h => ⟨h.mono (by omega), h i (by omega)⟩
  · intro h t ht
    by_cases q : t = i
    · rw [q]; exact h.2
    · exact h.1 t (by omega)
theorem agr_ups {i x : Nat} {a e : Nat → Nat} : agr (i + 1) (up a i x) e ↔ agr i a e ∧ e i = x := by
  rw [agr_s, up_s]
  constructor
  · exact fun h => ⟨(agr_up (n := i)).trans h.1, h.2.symm⟩
  · exact fun h => ⟨(agr_up (n := i)).symm.trans h.1, h.2.symm⟩
/-- the loop over a zone's ends: its begin, its step, its end -/
theorem PA_begin {F k i d fr : Nat} {en e : Nat → Nat} (hi : i + d + 1 = k) (hfr : fr = frm en i) : PA F k i en e ↔ PA F k (i + 1) (up en i fr) e := by
  unfold PA
  rw [lex_up]
  constructor
  · exact fun h => ⟨h.1, Or.inl h.2⟩
  · rintro ⟨h1, h2 | ⟨h2, h3⟩⟩
    · exact ⟨h1, h2⟩
    · have := h1.1 i (by omega)
      rw [← agr_frm h2 (Nat.le_refl i)] at this
      omega
theorem PB_step {F k i x : Nat} {en e : Nat → Nat} : PB F k (i + 1) (up en i x) e ↔ PA F k (i + 1) (up en i (x + 1)) e := by
  unfold PA PB
  rw [lex_up, lex_up, agr_ups]
  constructor
  · rintro ⟨h1, (h2 | ⟨h2, h3⟩) | ⟨h2, h3⟩⟩
    · exact ⟨h1, Or.inl h2⟩
    · exact ⟨h1, Or.inr ⟨h2, by omega⟩⟩
    · exact ⟨h1, Or.inr ⟨h2, by omega⟩⟩
  · rintro ⟨h1, h2 | ⟨h2, h3⟩⟩
    · exact ⟨h1, Or.inl (Or.inl h2)⟩
    · by_cases q : e i = x
      · exact ⟨h1, Or.inr ⟨h2, q⟩⟩
      · exact ⟨h1, Or.inl (Or.inr ⟨h2, by omega⟩)⟩
theorem PA_end {F k i d : Nat} {en e : Nat → Nat} (hi : i + d + 1 = k) : PA F k (i + 1) (up en i (F - d + 1)) e ↔ PB F k i en e := by
  unfold PA PB
  rw [lex_up]
  constructor
  · rintro ⟨h1, h2 | ⟨h2, h3⟩⟩
    · exact ⟨h1, Or.inl h2⟩
    · exact ⟨h1, Or.inr h2⟩
  · rintro ⟨h1, h2 | h2⟩
    · exact ⟨h1, Or.inl h2⟩
    · have := vs_le h1 d i hi
      exact ⟨h1, Or.inr ⟨h2, by omega⟩⟩
theorem PA_ext {F k i : Nat} {a b e : Nat → Nat} (h : agr i a b) : PA F k i a e ↔ PA F k i b e := ⟨fun q => ⟨q.1, h.lexL q.2⟩, fun q => ⟨q.1, h.symm.lexL q.2⟩⟩
theorem PB_ext {F k i : Nat} {a b e : Nat → Nat} (h : agr i a b) : PB F k i a e ↔ PB F k i b e :=
  ⟨fun q => ⟨q.1, q.2.imp (h.lexL) (h.symm.trans)⟩, fun q => ⟨q.1, q.2.imp (h.symm.lexL) (h.trans)⟩⟩
theorem agr_upx {i x : Nat} {a b : Nat → Nat} (h : agr i a b) : agr (i + 1) (up a i x) (up b i x) := by
  rw [agr_ups]
  exact ⟨h.trans agr_up, up_s⟩
/-- the last zone: its end is the top -/
theorem leaf_P {F k i : Nat} {en e : Nat → Nat} (hi : i + 1 = k) (hv : vs F k (up en i F)) : PB F k i en e ↔ PA F k i en e ∨ agr k (up en i F) e := by
  subst hi
  unfold PA PB
  rw [agr_ups]
  constructor
  · rintro ⟨h1, h2 | h2⟩
    · exact Or.inl ⟨h1, h2⟩
    · exact Or.inr ⟨h2, h1.2⟩
  · rintro (h | h)
    · exact ⟨h.1, Or.inl h.2⟩
    · exact ⟨agr_vs (agr_ups.mpr h) (by omega) hv, Or.inr h.1⟩
theorem leaf_bef {F k i x : Nat} {en e : Nat → Nat} (hi : i + 1 = k) (h : PA F k i en e) : lexP k (up en i x) e := by
  subst hi
  exact lex_up.mpr (Or.inl h.2)
theorem vp_up {i x : Nat} {en : Nat → Nat} (h : vp i en) (hx : frm en i ≤ x) : vp (i + 1) (up en i x) := by
  have ha : agr i en (up en i x) := agr_up
  intro z hz
  by_cases q : z = i
  · subst q
    rw [← agr_frm ha (Nat.le_refl z), up_s]
    exact hx
  · exact (agr_vp ha h) z (by omega)
theorem PA_0 {F k : Nat} {en e : Nat → Nat} : ¬ PA F k 0 en e := fun h => by obtain ⟨-, j, h1, -⟩ := h; omega
theorem PB_0 {F k : Nat} {en e : Nat → Nat} : PB F k 0 en e ↔ vs F k e := ⟨fun h => h.1, fun h => ⟨h, Or.inr (fun t ht => by omega)⟩⟩
/-- there is a split -/
theorem vs_ex {F k : Nat} (h1 : 1 ≤ k) (h2 : k ≤ F) : vs F k (fun z => if z + 1 < k then z + 1 else F) := by
  refine ⟨fun z hz => ?_, by simp; omega⟩
  unfold frm
  by_cases q : z = 0
  · subst q; simp; split <;> omega
  · rw [if_neg q]
    simp only
    rw [if_pos (by omega)]
    split <;> omega
