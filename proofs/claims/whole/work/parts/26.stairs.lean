/-! THE STAIRS: one second, and how long it takes. -/
def mn (a w : Nat) : Nat := if a < w then a else w
theorem mn_lt {a w : Nat} (h : a < w) : a = mn a w := by rw [mn, if_pos h]
theorem mn_ge {a w : Nat} (h : w ≤ a) : w = mn a w := by rw [mn, if_neg (by omega)]
theorem mn_le {a w : Nat} : mn a w ≤ a := by unfold mn; by_cases h : a < w <;> simp [h]; omega
theorem mn_pos {a w : Nat} (h : 0 < a) (hw : 0 < w) : 0 < mn a w := by unfold mn; by_cases h : a < w <;> simp [h] <;> omega
theorem mn_0 {w : Nat} : mn 0 w = 0 := by unfold mn; by_cases h : 0 < w <;> simp [h]; omega
/-- floor f is served -/
def st1 (w : Nat) (a : Nat → Nat) (f : Nat) : Nat → Nat := up (up a f (a f - mn (a f) w)) (f - 1) (up a f (a f - mn (a f) w) (f - 1) + mn (a f) w)
/-- the floors 1 .. k are served -/
def stK (w : Nat) (a : Nat → Nat) : Nat → Nat → Nat
  | 0 => a
  | k + 1 => st1 w (stK w a k) (1 + k)
/-- n seconds -/
def it (w F : Nat) (a : Nat → Nat) : Nat → Nat → Nat
  | 0 => a
  | n + 1 => stK w (it w F a n) F
theorem stK_at (w : Nat) (a : Nat → Nat) : ∀ (k j : Nat), stK w a k j = if j = 0 then (if k = 0 then a 0 else a 0 + mn (a 1) w) else if j < k then a j - mn (a j) w + mn (a (j + 1)) w else if j = k then a j - mn (a j) w else a j := by
  intro k
  induction k with
  | zero =>
    intro j
    by_cases h : j = 0
    · subst h; simp [stK]
    · simp [stK, h]
  | succ k ih =>
    intro j
    have hk : stK w a k (1 + k) = a (1 + k) := by rw [ih]; simp; omega
    show st1 w (stK w a k) (1 + k) j = _
    unfold st1
    rw [hk, show 1 + k - 1 = k by omega]
    by_cases h0 : j = k
    · subst h0
      rw [up_s, up_n (by omega), ih]
      by_cases hj : j = 0
      · subst hj; simp
      · simp [hj]
        rw [Nat.add_comm 1 j]
    · rw [up_n h0]
      by_cases h1 : j = 1 + k
      · subst h1
        rw [up_s]
        simp [show ¬ (1 + k = 0) by omega, show ¬ (1 + k < k + 1) by omega, show 1 + k = k + 1 by omega]
      · rw [up_n h1, ih]
        by_cases hj : j = 0
        · subst hj
          simp [show k ≠ 0 by omega]
        · simp only [hj, if_false]
          by_cases h2 : j < k
          · rw [if_pos h2, if_pos (by omega)]
          · rw [if_neg h2, if_neg h0, if_neg (by omega), if_neg (by omega)]
/-- how many are at the floors from f up to F -/
theorem sm_step {w F : Nat} {a : Nat → Nat} : ∀ (d f : Nat), 1 ≤ f → f + d = F + 1 → 1 ≤ d → sm (stK w a F) f d + mn (a f) w = sm a f d := by
  intro d
  induction d with
  | zero => intro f _ _ h; omega
  | succ d ih =>
    intro f hf hd _
    by_cases h0 : d = 0
    · subst h0
      have e : f = F := by omega
      subst e
      show 0 + stK w a f (f + 0) + mn (a f) w = 0 + a (f + 0)
      rw [stK_at]
      have := mn_le (a := a f) (w := w)
      simp [show f ≠ 0 by omega]
      omega
    · have h1 := ih (f + 1) (by omega) (by omega) (by omega)
      have e1 : ∀ g : Nat → Nat, sm g f (d + 1) = g f + sm g (f + 1) d := fun g => by
        have := sm_split (f := g) (a := f) (n := 1) d
        rw [Nat.add_comm 1 d] at this
        rw [this]
        show 0 + g (f + 0) + _ = _
        simp
      rw [e1, e1]
      rw [stK_at, if_neg (by omega), if_pos (by omega)]
      have := mn_le (a := a f) (w := w)
      omega
/-- within T seconds all are out -/
def bd (F T : Nat) (a : Nat → Nat) : Prop := ∀ f : Nat, 1 ≤ f → f ≤ F → sm a f (F + 1 - f) = 0 ∨ f + sm a f (F + 1 - f) ≤ T
theorem sm_head {a : Nat → Nat} {f d : Nat} : sm a f (d + 1) = a f + sm a (f + 1) d := by
  have := sm_split (f := a) (a := f) (n := 1) d
  rw [Nat.add_comm 1 d] at this
  rw [this]
  show 0 + a (f + 0) + _ = _
  simp
theorem bd_step {w F T : Nat} {a : Nat → Nat} (hw : 1 ≤ w) (h : bd F (T + 1) a) : bd F T (stK w a F) := by
  intro f hf1 hfF
  have h1 := sm_step (w := w) (F := F) (a := a) (F + 1 - f) f hf1 (by omega) (by omega)
  by_cases h0 : a f = 0
  · rw [h0, mn_0] at h1
    have h2 : sm a f (F + 1 - f) = a f + sm a (f + 1) (F - f) := by
      rw [show F + 1 - f = (F - f) + 1 by omega]
      exact sm_head
    by_cases h3 : f = F
    · subst h3
      left
      have : f - f = 0 := by omega
      rw [this] at h2
      have h5 : sm a (f + 1) 0 = 0 := rfl
      omega
    · rcases h (f + 1) (by omega) (by omega) with q | q
      · left
        rw [show F + 1 - (f + 1) = F - f by omega] at q
        omega
      · right
        rw [show F + 1 - (f + 1) = F - f by omega] at q
        omega
  · have h2 := mn_pos (a := a f) (w := w) (by omega) (by omega)
    rcases h f hf1 hfF with q | q
    · left; omega
    · right; omega
theorem bd_0 {F : Nat} {a : Nat → Nat} (h : bd F 0 a) : sm a 1 F = 0 := by
  by_cases hF : F = 0
  · subst hF; rfl
  · rcases h 1 (by omega) (by omega) with q | q
    · rw [show F + 1 - 1 = F by omega] at q; exact q
    · omega
theorem bd_of {F : Nat} {a : Nat → Nat} (hF : F ≤ 12) (h : sm a 1 F ≤ 200) : bd F 212 a := by
  intro f hf1 hfF
  right
  have h1 := sm_split (f := a) (a := 1) (n := f - 1) (F + 1 - f)
  rw [show f - 1 + (F + 1 - f) = F by omega, show 1 + (f - 1) = f by omega] at h1
  omega
/-- all are out after n seconds, and not before -/
def isOut (w F : Nat) (a : Nat → Nat) (n : Nat) : Prop := sm (it w F a n) 1 F = 0 ∧ ∀ i, i < n → sm (it w F a i) 1 F ≠ 0
theorem it_bd {w F T : Nat} {a : Nat → Nat} (hw : 1 ≤ w) (h : bd F T a) : ∀ i, i ≤ T → bd F (T - i) (it w F a i) := by
  intro i
  induction i with
  | zero => intro _; exact h
  | succ i ih =>
    intro hi
    have := ih (by omega)
    rw [show T - i = (T - (i + 1)) + 1 by omega] at this
    exact bd_step hw this
theorem isOut_ex {w F : Nat} {a : Nat → Nat} (hw : 1 ≤ w) (hF : F ≤ 12) (h : sm a 1 F ≤ 200) : ∃ n, n ≤ 212 ∧ isOut w F a n := by
  obtain ⟨n, h1, h2⟩ := pk_least (fun n => sm (it w F a n) 1 F = 0) ⟨212, bd_0 (by have := it_bd hw (bd_of hF h) 212 (by omega); simpa using this)⟩
  refine ⟨n, ?_, h1, h2⟩
  rcases Nat.lt_or_ge 212 n with q | q
  · exact absurd (bd_0 (by have := it_bd hw (bd_of hF h) 212 (by omega); simpa using this)) (h2 212 q)
  · exact q
/-- the most that were at a floor -/
def mxK (w F : Nat) (a : Nat → Nat) (fl : Nat) : Nat → Nat
  | 0 => a fl
  | n + 1 => if mxK w F a fl n < it w F a (n + 1) fl then it w F a (n + 1) fl else mxK w F a fl n
/-- two rows that agree at the floors and outside -/
def ag (a b : Nat → Nat) : Prop := ∀ j, j ≤ 12 → a j = b j
theorem ag_st {w F : Nat} {a b : Nat → Nat} (hF : F ≤ 12) (h : ag a b) : ag (stK w a F) (stK w b F) := by
  intro j hj
  rw [stK_at, stK_at]
  by_cases h0 : j = 0
  · subst h0
    simp only [if_true]
    rw [h 0 (by omega), h 1 (by omega)]
  · simp only [h0, if_false]
    by_cases h1 : j < F
    · rw [if_pos h1, if_pos h1, h j hj, h (j + 1) (by omega)]
    · rw [if_neg h1, if_neg h1, h j hj]
theorem ag_it {w F : Nat} {a b : Nat → Nat} (hF : F ≤ 12) (h : ag a b) : ∀ n, ag (it w F a n) (it w F b n) := by
  intro n
  induction n with
  | zero => exact h
  | succ n ih => exact ag_st hF ih
theorem ag_sm {a b : Nat → Nat} (h : ag a b) : ∀ n f, f + n ≤ 13 → sm a f n = sm b f n := by
  intro n
  induction n with
  | zero => intro f _; rfl
  | succ n ih =>
    intro f hf
    show sm a f n + a (f + n) = sm b f n + b (f + n)
    rw [ih f (by omega), h (f + n) (by omega)]
theorem ag_out {w F n : Nat} {a b : Nat → Nat} (hF : F ≤ 12) (h : ag a b) (ho : isOut w F a n) : isOut w F b n := by
  refine ⟨?_, fun i hi => ?_⟩
  · rw [← ag_sm (ag_it hF h n) F 1 (by omega)]; exact ho.1
  · rw [← ag_sm (ag_it hF h i) F 1 (by omega)]; exact ho.2 i hi
theorem ag_mx {w F fl : Nat} {a b : Nat → Nat} (hF : F ≤ 12) (hfl : fl ≤ 12) (h : ag a b) : ∀ n, mxK w F a fl n = mxK w F b fl n := by
  intro n
  induction n with
  | zero => exact h fl hfl
  | succ n ih =>
    show (if mxK w F a fl n < it w F a (n + 1) fl then it w F a (n + 1) fl else mxK w F a fl n) = (if mxK w F b fl n < it w F b (n + 1) fl then it w F b (n + 1) fl else mxK w F b fl n)
    rw [ih, ag_it hF h (n + 1) fl hfl]
theorem sm_zero {a : Nat → Nat} {f n k : Nat} (h : sm a f n = 0) (hk : k < n) : a (f + k) = 0 := by
  have := sm_le (f := a) (a := f) hk
  omega
theorem st_zero {w F : Nat} {a : Nat → Nat} (h : sm a 1 F = 0) : ∀ j, 1 ≤ j → j ≤ F → stK w a F j = 0 := by
  intro j hj1 hjF
  have h1 : a j = 0 := by
    have := sm_zero (k := j - 1) h (by omega)
    rwa [show 1 + (j - 1) = j by omega] at this
  rw [stK_at, if_neg (by omega)]
  by_cases h2 : j < F
  · have h3 : a (j + 1) = 0 := by
      have := sm_zero (k := j) h (by omega)
      rwa [Nat.add_comm 1 j] at this
    rw [if_pos h2, h1, h3, mn_0]
  · rw [if_neg h2, if_pos (by omega), h1, mn_0]
theorem sm_of_zero {a : Nat → Nat} {F : Nat} (h : ∀ j, 1 ≤ j → j ≤ F → a j = 0) : ∀ n, n ≤ F → sm a 1 n = 0 := by
  intro n
  induction n with
  | zero => intro _; rfl
  | succ n ih =>
    intro hn
    show sm a 1 n + a (1 + n) = 0
    rw [ih (by omega), h (1 + n) (by omega) (by omega)]
theorem it_zero {w F n : Nat} {a : Nat → Nat} (h : sm (it w F a n) 1 F = 0) : ∀ k, sm (it w F a (n + k)) 1 F = 0 := by
  intro k
  induction k with
  | zero => exact h
  | succ k ih => exact sm_of_zero (st_zero ih) F (Nat.le_refl F)
/-- what begin lays: the first k places -/
def bgK (pp : Nat → Nat) (F : Nat) (a : Nat → Nat) : Nat → Nat → Nat
  | 0 => a
  | k + 1 => up (bgK pp F a k) k (if k ≤ F ∧ 0 < k then pp k else 0)
theorem bgK_at (pp : Nat → Nat) (F : Nat) (a : Nat → Nat) : ∀ k j, j < k → bgK pp F a k j = if j ≤ F ∧ 0 < j then pp j else 0 := by
  intro k
  induction k with
  | zero => intro j h; omega
  | succ k ih =>
    intro j h
    show up (bgK pp F a k) k _ j = _
    by_cases h1 : j = k
    · subst h1; rw [up_s]
    · rw [up_n h1, ih j (by omega)]
theorem stK_next (w : Nat) (a : Nat → Nat) (k : Nat) : stK w a k (1 + k) = a (1 + k) := by rw [stK_at]; simp; omega
theorem it_sm_le (w F : Nat) (a : Nat → Nat) : ∀ i, sm (it w F a i) 1 F ≤ sm a 1 F := by
  intro i
  induction i with
  | zero => exact Nat.le_refl _
  | succ i ih =>
    by_cases hF : F = 0
    · subst hF; exact Nat.le_refl _
    · have := sm_step (w := w) (F := F) (a := it w F a i) F 1 (by omega) (by omega) (by omega)
      have e : sm (it w F a (i + 1)) 1 F = sm (stK w (it w F a i) F) 1 F := rfl
      omega
theorem it_le {w F : Nat} {a : Nat → Nat} {i j : Nat} (h1 : 1 ≤ j) (h2 : j ≤ F) : it w F a i j ≤ sm a 1 F := by
  have h3 := sm_le (f := it w F a i) (a := 1) (n := F) (k := j - 1) (by omega)
  rw [show 1 + (j - 1) = j by omega] at h3
  exact Nat.le_trans h3 (it_sm_le w F a i)
theorem mx_le {w F fl : Nat} {a : Nat → Nat} (h1 : 1 ≤ fl) (h2 : fl ≤ F) : ∀ n, mxK w F a fl n ≤ sm a 1 F := by
  intro n
  induction n with
  | zero => exact it_le (w := w) (i := 0) h1 h2
  | succ n ih =>
    have := it_le (w := w) (a := a) (i := n + 1) h1 h2
    show (if mxK w F a fl n < it w F a (n + 1) fl then it w F a (n + 1) fl else mxK w F a fl n) ≤ _
    by_cases q : mxK w F a fl n < it w F a (n + 1) fl
    · rw [if_pos q]; exact this
    · rw [if_neg q]; exact ih
theorem bg_sm {pp aa : Nat → Nat} {F : Nat} (hF : F ≤ 12) : sm (bgK pp F aa 13) 1 F = sm pp 1 F := by
  have : ∀ n, n ≤ F → sm (bgK pp F aa 13) 1 n = sm pp 1 n := by
    intro n
    induction n with
    | zero => intro _; rfl
    | succ n ih =>
      intro hn
      show sm (bgK pp F aa 13) 1 n + bgK pp F aa 13 (1 + n) = sm pp 1 n + pp (1 + n)
      rw [ih (by omega), bgK_at pp F aa 13 (1 + n) (by omega), if_pos (by omega)]
  exact this F (Nat.le_refl F)
theorem isOut_lt {w F n i : Nat} {a : Nat → Nat} (ho : isOut w F a n) (hi : i ≤ n) (h : 0 < sm (it w F a i) 1 F) : i < n := by
  rcases Nat.lt_or_ge i n with q | q
  · exact q
  · have e : i = n := by omega
    rw [e, ho.1] at h
    omega
/-- the first n places of f, then g -/
def cp (f g : Nat → Nat) (n : Nat) : Nat → Nat := fun j => if j < n then f j else g j
theorem cp_eq {f g : Nat → Nat} {n : Nat} (hn : n < 2 ^ 31) : va_cpy (fun j => nI (f j)) (fun j => nI (g j)) (nI 0).toNatClampNeg (nI 0).toNatClampNeg (nI n).toNatClampNeg = fun j => nI (cp f g n j) := by
  rw [nI_clamp (show 0 < 2 ^ 31 by decide), nI_clamp hn]
  funext j
  unfold va_cpy cp
  by_cases h : j < n
  · simp [h]
  · simp [h]
theorem cp_ag {f g : Nat → Nat} : ag (cp f g 13) f := fun j hj => by unfold cp; rw [if_pos (by omega)]
theorem cp_sm {f g : Nat → Nat} {F : Nat} (hF : F ≤ 12) : sm (cp f g 13) 1 F = sm f 1 F := ag_sm cp_ag F 1 (by omega)
theorem mn_I {a w : Nat} (ha : a < 2 ^ 31) (hw : w < 2 ^ 31) : (if nI w < nI a then nI w else nI a) = nI (mn a w) := by
  unfold mn
  by_cases h : a < w
  · rw [if_pos h, if_neg (fun q => by have := (nI_ltI hw ha).mp q; omega)]
  · rw [if_neg h]
    by_cases h2 : w < a
    · rw [if_pos ((nI_ltI hw ha).mpr h2)]
    · rw [if_neg (fun q => h2 ((nI_ltI hw ha).mp q)), show a = w by omega]
theorem st_0 {w F : Nat} {a : Nat → Nat} : a 0 ≤ stK w a F 0 ∧ stK w a F 0 - a 0 ≤ sm a 1 F ∧ sm a 1 F - (stK w a F 0 - a 0) = sm (stK w a F) 1 F := by
  rw [stK_at]
  by_cases h : F = 0
  · subst h
    simp
    rfl
  · have h1 := sm_step (w := w) (F := F) (a := a) F 1 (by omega) (by omega) (by omega)
    simp [h]
    omega
