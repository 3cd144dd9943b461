/-! THE LAW'S STATE: the class's cells, the reference's, the cars; what holds of the numbers. -/
def LA (g q : Nat → Nat) (o0 : Nat) : List Nat := [g 0, g 1, g 2, g 3, g 4, g 5, g 6, g 7, g 8, g 9, g 10, g 11, g 12, o0, q 0, q 1, q 2, q 4, q 5, q 6, q 7, q 8, q 12, q 13, q 14, q 15, q 16]
def inv (F nt : Nat) (pp hh rm sd dr pe ce xa xb : Nat → Nat) : Prop :=
  F ≤ 12 ∧ nt ≤ 6 ∧ sm pp 1 F ≤ 200 ∧ (∀ j, j = 0 ∨ F < j → pp j = 0) ∧ (∀ j, j ≤ F → hh j ≤ 100 * j) ∧ (∀ t, t < nt → (1 ≤ rm t ∧ rm t ≤ 5) ∧ (1 ≤ sd t ∧ sd t ≤ 100) ∧ dr t ≤ 30 ∧ pe t ≤ 10 ∧ (1 ≤ ce t ∧ ce t ≤ 100000)) ∧ xa 0 = 0 ∧ xb 0 = 1
def crs (D : va_G) (sz : Nat) (L : List Nat) (ca rm sd dr pe ce : Nat → Nat) (nt : Nat) (H : Heap) : Prop :=
  va_P D vwCl (carsL ca rm sd dr pe ce nt) H ∧ (∀ k, k < nt → sz ≤ ca k ∧ ca k ∉ L) ∧ ∀ k k', k < nt → k' < nt → ca k = ca k' → k = k'
theorem carsL_get {ca rm sd dr pe ce : Nat → Nat} {nt k : Nat} {x : Nat × va_E} (h : (carsL ca rm sd dr pe ce nt)[k]? = some x) : k < nt ∧ x = (ca k, carE rm sd dr pe ce k) := by
  have hk : k < nt := by
    have := (List.getElem?_eq_some_iff.mp h).1
    unfold carsL at this
    rwa [List.length_map, List.length_range] at this
  rw [carsL_at hk] at h
  exact ⟨hk, (Option.some.inj h).symm⟩
theorem notA {wc : va_W} {sz a : Nat} (hlt : a < sz) (h : a ∉ wc.map Prod.fst) : ¬ va_A wc sz a := by
  rintro (⟨k, e, hk⟩ | hk)
  · exact h (List.mem_map.mpr ⟨(a, e), List.mem_of_getElem? hk, rfl⟩)
  · omega
section CRS
variable {D : va_G} {sz : Nat} {L : List Nat} {ca rm sd dr pe ce : Nat → Nat} {nt : Nat} {H H1 : Heap}
theorem crs_at (h : crs D sz L ca rm sd dr pe ce nt H) {k : Nat} (hk : k < nt) : va_at D vwCl (ca k, carE rm sd dr pe ce k) H := h.1 k _ (carsL_at hk)
theorem crs_call (h : crs D sz L ca rm sd dr pe ce nt H) {wc : va_W} (T : List Nat) (hw : ∀ x ∈ wc.map Prod.fst, x ∈ L ∨ ∃ t, t ∈ T ∧ t < nt ∧ x = ca t) (hk : ∀ q : Nat, q < H.size → ¬ va_A wc H.size q → H1[q]? = H[q]?) (hT : ∀ t, t ∈ T → va_at D vwCl (ca t, carE rm sd dr pe ce t) H1) : crs D sz L ca rm sd dr pe ce nt H1 := by
  refine ⟨fun k x hx => ?_, h.2⟩
  obtain ⟨hk1, rfl⟩ := carsL_get hx
  by_cases q : k ∈ T
  · exact hT k q
  · have ha := crs_at h hk1
    refine ha.kept (hk _ ha.lt (notA ha.lt (fun z => ?_)))
    rcases hw _ z with z | ⟨t, t1, t2, t3⟩
    · exact (h.2.1 k hk1).2 z
    · exact q (by rw [h.2.2 k t hk1 t2 t3]; exact t1)
theorem crs_keep (h : crs D sz L ca rm sd dr pe ce nt H) (hk : ∀ q : Nat, q < H.size → H1[q]? = H[q]?) : crs D sz L ca rm sd dr pe ce nt H1 :=
  ⟨h.1.kept (fun k x hx => hk x.1 ((h.1 k x hx).lt)), h.2⟩
theorem va_D1 {A : Nat → Prop} {ws : va_W} {a : Nat} {e : va_E} (hD : va_D A ws) (hA : A a) (hn : a ∉ ws.map Prod.fst) : va_D A (ws ++ [(a, e)]) := by
  refine va_D.app hD ⟨fun i j x y hx hy _ => ?_, fun k x hx => ?_⟩ (fun i j x y hx hy hxy => ?_)
  · have h1 : i < 1 := (List.getElem?_eq_some_iff.mp hx).1
    have h2 : j < 1 := (List.getElem?_eq_some_iff.mp hy).1
    omega
  · have h1 : k < 1 := (List.getElem?_eq_some_iff.mp hx).1
    rw [show k = 0 by omega] at hx
    cases hx
    exact hA
  · have h1 : j < 1 := (List.getElem?_eq_some_iff.mp hy).1
    rw [show j = 0 by omega] at hy
    cases hy
    exact hn (List.mem_map.mpr ⟨x, List.mem_of_getElem? hx, hxy⟩)
/-- a car that is made -/
theorem crs_push (h : crs D sz L ca rm sd dr pe ce nt H) {a c0 c1 c2 c3 c4 : Nat} (ha : va_at D vwCl (a, .inr (1, [.int (nI c0), .int (nI c1), .int (nI c2), .int (nI c3), .int (nI c4)])) H) (h1 : sz ≤ a) (h2 : a ∉ L) (h3 : ∀ k, k < nt → ca k ≠ a) :
    crs D sz L (up ca nt a) (up rm nt c0) (up sd nt c1) (up dr nt c2) (up pe nt c3) (up ce nt c4) (nt + 1) H := by
  refine ⟨fun k x hx => ?_, fun k hk => ?_, fun k k' hk hk' hx => ?_⟩
  · obtain ⟨hk, rfl⟩ := carsL_get hx
    by_cases q : k = nt
    · subst q
      unfold carE
      simp only [up_s]
      exact ha
    · unfold carE
      simp only [up_n q]
      exact crs_at h (by omega)
  · by_cases q : k = nt
    · subst q; rw [up_s]; exact ⟨h1, h2⟩
    · rw [up_n q]; exact h.2.1 k (by omega)
  · by_cases q : k = nt
    · by_cases q' : k' = nt
      · omega
      · subst q
        rw [up_s, up_n q'] at hx
        exact absurd hx.symm (h3 k' (by omega))
    · by_cases q' : k' = nt
      · subst q'
        rw [up_s, up_n q] at hx
        exact absurd hx (h3 k (by omega))
      · rw [up_n q, up_n q'] at hx
        exact h.2.2 k k' (by omega) (by omega) hx
end CRS
theorem gw_SW {own : String} {idx : Nat} {y : MethodName} {w : Cond} (h : w ∈ gw) (h1 : Cond.methodLink own idx y ∈ gw) (h2 : Cond.static y ∈ gw) (h3 : Cond.initialized y.cls ∈ gw) : GoodIn gw (va_wsS own idx y (w :: gw)) := by
  intro z hz
  rcases List.mem_append.mp hz with q | q
  · simp only [List.mem_cons, List.not_mem_nil, or_false] at q
    rcases q with rfl | rfl | rfl
    · exact gw_good _ h1
    · exact gw_good _ h2
    · exact gw_good _ h3
  · exact gw_code h z q
/-! numbers -/
theorem sm_ext {a b : Nat → Nat} {f n : Nat} (h : ∀ j, f ≤ j → j < f + n → a j = b j) : sm a f n = sm b f n := by
  induction n with
  | zero => rfl
  | succ n ih =>
    show sm a f n + a (f + n) = sm b f n + b (f + n)
    rw [ih (fun j h1 h2 => h j h1 (by omega)), h (f + n) (by omega) (by omega)]
theorem sm_new {pp : Nat → Nat} {F a : Nat} : sm pp 1 F + a = sm (up pp (F + 1) a) 1 (F + 1) := by
  show _ = sm (up pp (F + 1) a) 1 F + up pp (F + 1) a (1 + F)
  rw [Nat.add_comm 1 F, up_s, sm_ext (b := pp) (fun j _ h => up_n (by omega))]
theorem sm_set {pp : Nat → Nat} {F fl a : Nat} (h1 : 1 ≤ fl) (h2 : fl ≤ F) : sm pp 1 F - pp fl + a = sm (up pp fl a) 1 F := by
  obtain ⟨k, hk⟩ : ∃ k, fl = 1 + k := ⟨fl - 1, by omega⟩
  obtain ⟨d, hd⟩ : ∃ d, F = k + 1 + d := ⟨F - (k + 1), by omega⟩
  have e1 := sm_split (f := pp) (a := 1) (n := k + 1) d
  have e2 := sm_split (f := up pp fl a) (a := 1) (n := k + 1) d
  have e3 : sm pp 1 (k + 1) = sm pp 1 k + pp (1 + k) := rfl
  have e4 : sm (up pp fl a) 1 (k + 1) = sm (up pp fl a) 1 k + up pp fl a (1 + k) := rfl
  have e5 : sm (up pp fl a) 1 k = sm pp 1 k := sm_ext (fun j _ h => up_n (by omega))
  have e6 : sm (up pp fl a) (1 + (k + 1)) d = sm pp (1 + (k + 1)) d := sm_ext (fun j h _ => up_n (by omega))
  rw [hk, up_s] at e4
  rw [hd, hk]
  rw [hk] at e2 e5 e6
  omega
theorem hh_lim {hh : Nat → Nat} {F : Nat} (hF : F ≤ 12) (h : ∀ j, j ≤ F → hh j ≤ 100 * j) : ∀ k, k < F → hh (1 + k) ≤ 1200 := fun k hk => by
  have := h (1 + k) (by omega)
  omega
theorem ag_cb {pp aa ac : Nat → Nat} {F : Nat} (hF : F ≤ 12) (h : ∀ j, j = 0 ∨ F < j → pp j = 0) : ag (cp pp aa 13) (bgK pp F ac 13) := fun j hj => by
  rw [bgK_at pp F ac 13 j (by omega), cp_ag j hj]
  by_cases q : j ≤ F ∧ 0 < j
  · rw [if_pos q]
  · rw [if_neg q]; exact h j (by omega)
theorem ag.symm {a b : Nat → Nat} (h : ag a b) : ag b a := fun j hj => (h j hj).symm
theorem inv_floor {F nt a b : Nat} {pp hh rm sd dr pe ce xa xb : Nat → Nat} (h : inv F nt pp hh rm sd dr pe ce xa xb) (h12 : F < 12) (hb : b ≤ 100) (hok : sm pp 1 F + a ≤ 200) : inv (F + 1) nt (up pp (F + 1) a) (up hh (F + 1) (hh F + b)) rm sd dr pe ce xa xb := by
  obtain ⟨a1, a2, a3, a4, a5, a6⟩ := h
  refine ⟨by omega, a2, by rw [← sm_new]; exact hok, fun j hj => ?_, fun j hj => ?_, a6⟩
  · rw [up_n (by omega)]; exact a4 j (by omega)
  · by_cases q : j = F + 1
    · rw [q, up_s]; have := a5 F (Nat.le_refl F); omega
    · rw [up_n q]; exact a5 j (by omega)
theorem inv_persons {F nt fl a : Nat} {pp hh rm sd dr pe ce xa xb : Nat → Nat} (h : inv F nt pp hh rm sd dr pe ce xa xb) (h1 : 1 ≤ fl) (h2 : fl ≤ F) (hok : sm pp 1 F - pp fl + a ≤ 200) : inv F nt (up pp fl a) hh rm sd dr pe ce xa xb := by
  obtain ⟨a1, a2, a3, a4, a5, a6⟩ := h
  refine ⟨a1, a2, by rw [← sm_set h1 h2]; exact hok, fun j hj => ?_, a5, a6⟩
  rw [up_n (by omega)]; exact a4 j hj
theorem inv_type {F nt c0 c1 c2 c3 c4 : Nat} {pp hh rm sd dr pe ce xa xb : Nat → Nat} (h : inv F nt pp hh rm sd dr pe ce xa xb) (hn : nt < 6) (h0 : 1 ≤ c0 ∧ c0 ≤ 5) (h1 : 1 ≤ c1 ∧ c1 ≤ 100) (h2 : c2 ≤ 30) (h3 : c3 ≤ 10) (h4 : 1 ≤ c4 ∧ c4 ≤ 100000) : inv F (nt + 1) pp hh (up rm nt c0) (up sd nt c1) (up dr nt c2) (up pe nt c3) (up ce nt c4) xa xb := by
  obtain ⟨a1, a2, a3, a4, a5, a6, a7⟩ := h
  refine ⟨a1, by omega, a3, a4, a5, fun t ht => ?_, a7⟩
  by_cases q : t = nt
  · subst q
    simp only [up_s]
    exact ⟨h0, h1, h2, h3, h4⟩
  · simp only [up_n q]
    exact a6 t (by omega)
theorem inv_split {F nt : Nat} {pp hh rm sd dr pe ce xa xb xc xd : Nat → Nat} (h : inv F nt pp hh rm sd dr pe ce xa xb) (h0 : xc 0 = 0 ∧ xd 0 = 1) : inv F nt pp hh rm sd dr pe ce xc xd := by
  obtain ⟨a1, a2, a3, a4, a5, a6, -⟩ := h
  exact ⟨a1, a2, a3, a4, a5, a6, h0⟩
theorem pp_le {pp : Nat → Nat} {F fl : Nat} (h1 : 1 ≤ fl) (h2 : fl ≤ F) : pp fl ≤ sm pp 1 F := by
  have := sm_le (f := pp) (a := 1) (n := F) (k := fl - 1) (by omega)
  rwa [show 1 + (fl - 1) = fl by omega] at this
