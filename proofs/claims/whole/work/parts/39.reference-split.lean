theorem lex_s {n : Nat} {a b : Nat → Nat} : lexP (n + 1) a b ↔ lexP n a b ∨ (agr n a b ∧ b n < a n) := by
  constructor
  · rintro ⟨j, h1, h2, h3⟩
    by_cases q : j = n
    · subst q; exact Or.inr ⟨h2, h3⟩
    · exact Or.inl ⟨j, by omega, h2, h3⟩
  · rintro (⟨j, h1, h2, h3⟩ | ⟨h1, h2⟩)
    · exact ⟨j, by omega, h2, h3⟩
    · exact ⟨n, by omega, h1, h2⟩
theorem agr_0 {a b : Nat → Nat} : agr 0 a b ↔ True := ⟨fun _ => trivial, fun _ t ht => by omega⟩
theorem lex_0 {a b : Nat → Nat} : lexP 0 a b ↔ False := ⟨fun ⟨j, h, _⟩ => by omega, fun h => h.elim⟩
theorem agr_1 {a b : Nat → Nat} : agr 1 a b ↔ a 0 = b 0 := by
  rw [show (1 : Nat) = 0 + 1 from rfl, agr_s, agr_0]
  exact ⟨fun h => h.2, fun h => ⟨trivial, h⟩⟩
theorem lex_1 {a b : Nat → Nat} : lexP 1 a b ↔ (b 0 < a 0) := by
  rw [show (1 : Nat) = 0 + 1 from rfl, lex_s, lex_0, agr_0]
  exact ⟨fun h => h.elim (fun z => z.elim) (fun z => z.2), fun h => Or.inr ⟨trivial, h⟩⟩
theorem vs_1 {F : Nat} {e : Nat → Nat} : vs F 1 e ↔ 1 ≤ e 0 ∧ e 0 = F := by
  constructor
  · intro h
    have h0 : 1 ≤ e 0 := h.1 0 (by omega)
    have hl : e 0 = F := h.2
    omega
  · intro h
    refine ⟨fun z hz => ?_, show e 0 = F by omega⟩
    rcases (show z = 0 by omega) with rfl
    · show 1 ≤ e 0
      omega
theorem agr_2 {a b : Nat → Nat} : agr 2 a b ↔ a 0 = b 0 ∧ a 1 = b 1 := by
  rw [show (2 : Nat) = 1 + 1 from rfl, agr_s, agr_1]
  try omega
theorem lex_2 {a b : Nat → Nat} : lexP 2 a b ↔ (b 0 < a 0) ∨ (a 0 = b 0 ∧ b 1 < a 1) := by
  rw [show (2 : Nat) = 1 + 1 from rfl, lex_s, lex_1, agr_1]
  try omega
theorem vs_2 {F : Nat} {e : Nat → Nat} : vs F 2 e ↔ 1 ≤ e 0 ∧ e 0 < e 1 ∧ e 1 = F := by
  constructor
  · intro h
    have h0 : 1 ≤ e 0 := h.1 0 (by omega)
    have h1 : e 0 + 1 ≤ e 1 := h.1 1 (by omega)
    have hl : e 1 = F := h.2
    omega
  · intro h
    refine ⟨fun z hz => ?_, show e 1 = F by omega⟩
    rcases (show z = 0 ∨ z = 1 by omega) with rfl | rfl
    · show 1 ≤ e 0
      omega
    · show e 0 + 1 ≤ e 1
      omega
theorem agr_3 {a b : Nat → Nat} : agr 3 a b ↔ a 0 = b 0 ∧ a 1 = b 1 ∧ a 2 = b 2 := by
  rw [show (3 : Nat) = 2 + 1 from rfl, agr_s, agr_2]
  try omega
theorem lex_3 {a b : Nat → Nat} : lexP 3 a b ↔ (b 0 < a 0) ∨ (a 0 = b 0 ∧ b 1 < a 1) ∨ (a 0 = b 0 ∧ a 1 = b 1 ∧ b 2 < a 2) := by
  rw [show (3 : Nat) = 2 + 1 from rfl, lex_s, lex_2, agr_2]
  try omega
theorem vs_3 {F : Nat} {e : Nat → Nat} : vs F 3 e ↔ 1 ≤ e 0 ∧ e 0 < e 1 ∧ e 1 < e 2 ∧ e 2 = F := by
  constructor
  · intro h
    have h0 : 1 ≤ e 0 := h.1 0 (by omega)
    have h1 : e 0 + 1 ≤ e 1 := h.1 1 (by omega)
    have h2 : e 1 + 1 ≤ e 2 := h.1 2 (by omega)
    have hl : e 2 = F := h.2
    omega
  · intro h
    refine ⟨fun z hz => ?_, show e 2 = F by omega⟩
    rcases (show z = 0 ∨ z = 1 ∨ z = 2 by omega) with rfl | rfl | rfl
    · show 1 ≤ e 0
      omega
    · show e 0 + 1 ≤ e 1
      omega
    · show e 1 + 1 ≤ e 2
      omega
theorem agr_4 {a b : Nat → Nat} : agr 4 a b ↔ a 0 = b 0 ∧ a 1 = b 1 ∧ a 2 = b 2 ∧ a 3 = b 3 := by
  rw [show (4 : Nat) = 3 + 1 from rfl, agr_s, agr_3]
  try omega
theorem lex_4 {a b : Nat → Nat} : lexP 4 a b ↔ (b 0 < a 0) ∨ (a 0 = b 0 ∧ b 1 < a 1) ∨ (a 0 = b 0 ∧ a 1 = b 1 ∧ b 2 < a 2) ∨ (a 0 = b 0 ∧ a 1 = b 1 ∧ a 2 = b 2 ∧ b 3 < a 3) := by
  rw [show (4 : Nat) = 3 + 1 from rfl, lex_s, lex_3, agr_3]
  try omega
theorem vs_4 {F : Nat} {e : Nat → Nat} : vs F 4 e ↔ 1 ≤ e 0 ∧ e 0 < e 1 ∧ e 1 < e 2 ∧ e 2 < e 3 ∧ e 3 = F := by
  constructor
  · intro h
    have h0 : 1 ≤ e 0 := h.1 0 (by omega)
    have h1 : e 0 + 1 ≤ e 1 := h.1 1 (by omega)
    have h2 : e 1 + 1 ≤ e 2 := h.1 2 (by omega)
    have h3 : e 2 + 1 ≤ e 3 := h.1 3 (by omega)
    have hl : e 3 = F := h.2
    omega
  · intro h
    refine ⟨fun z hz => ?_, show e 3 = F by omega⟩
    rcases (show z = 0 ∨ z = 1 ∨ z = 2 ∨ z = 3 by omega) with rfl | rfl | rfl | rfl
    · show 1 ≤ e 0
      omega
    · show e 0 + 1 ≤ e 1
      omega
    · show e 1 + 1 ≤ e 2
      omega
    · show e 2 + 1 ≤ e 3
      omega
def rk (k : Nat) (e : Nat → Nat) : Nat := (if 0 < k then e 0 * 2197 else 0) + (if 1 < k then e 1 * 169 else 0) + (if 2 < k then e 2 * 13 else 0) + (if 3 < k then e 3 else 0)
theorem rk_le {F k : Nat} {e : Nat → Nat} (h : vs F k e) (h12 : F ≤ 12) : rk k e ≤ 28560 := by
  unfold rk
  have h0 : (if 0 < k then e 0 * 2197 else 0) ≤ 12 * 2197 := by
    by_cases q : 0 < k
    · rw [if_pos q]; have := vs_F h q; omega
    · rw [if_neg q]; omega
  have h1 : (if 1 < k then e 1 * 169 else 0) ≤ 12 * 169 := by
    by_cases q : 1 < k
    · rw [if_pos q]; have := vs_F h q; omega
    · rw [if_neg q]; omega
  have h2 : (if 2 < k then e 2 * 13 else 0) ≤ 12 * 13 := by
    by_cases q : 2 < k
    · rw [if_pos q]; have := vs_F h q; omega
    · rw [if_neg q]; omega
  have h3 : (if 3 < k then e 3 else 0) ≤ 12 := by
    by_cases q : 3 < k
    · rw [if_pos q]; have := vs_F h q; omega
    · rw [if_neg q]; omega
  omega
def nxP (F k : Nat) (en u : Nat → Nat) : Prop := vs F k u ∧ (∀ e, vs F k e → (lexP k u e ↔ lexP k en e ∨ agr k en e)) ∧ rk k en < rk k u
theorem rk_1 {e : Nat → Nat} : rk 1 e = e 0 * 2197 := by simp [rk]
theorem nxL_1 {F : Nat} {en : Nat → Nat} (hv : vs F 1 en)  : ∀ e, vs F 1 e → lexP 1 en e ∨ agr 1 en e := by
  rw [vs_1] at hv
  intro e he
  rw [vs_1] at he
  rw [lex_1, agr_1]
  omega
theorem rk_2 {e : Nat → Nat} : rk 2 e = e 0 * 2197 + e 1 * 169 := by simp [rk]
theorem nxE_2_0 {F : Nat} {en u : Nat → Nat} (h12 : F ≤ 12) (hv : vs F 2 en) (hz : en 0 ≠ F - (1 - 0))  (u0 : u 0 = en 0 + 1) (u1 : u 1 = en 1) : nxP F 2 en u := by
  rw [vs_2] at hv
  refine ⟨by rw [vs_2]; omega, fun e he => ?_, by rw [rk_2, rk_2]; omega⟩
  rw [vs_2] at he
  rw [lex_2, lex_2, agr_2]
  omega
theorem nxL_2 {F : Nat} {en : Nat → Nat} (hv : vs F 2 en) (y0 : en 0 = F - (1 - 0)) : ∀ e, vs F 2 e → lexP 2 en e ∨ agr 2 en e := by
  rw [vs_2] at hv
  intro e he
  rw [vs_2] at he
  rw [lex_2, agr_2]
  omega
theorem rk_3 {e : Nat → Nat} : rk 3 e = e 0 * 2197 + e 1 * 169 + e 2 * 13 := by simp [rk]
theorem nxE_3_0 {F : Nat} {en u : Nat → Nat} (h12 : F ≤ 12) (hv : vs F 3 en) (hz : en 0 ≠ F - (2 - 0)) (y1 : en 1 = F - (2 - 1)) (u0 : u 0 = en 0 + 1) (u1 : u 1 = u 0 + 1) (u2 : u 2 = en 2) : nxP F 3 en u := by
  rw [vs_3] at hv
  refine ⟨by rw [vs_3]; omega, fun e he => ?_, by rw [rk_3, rk_3]; omega⟩
  rw [vs_3] at he
  rw [lex_3, lex_3, agr_3]
  omega
theorem nxE_3_1 {F : Nat} {en u : Nat → Nat} (h12 : F ≤ 12) (hv : vs F 3 en) (hz : en 1 ≠ F - (2 - 1))  (u0 : u 0 = en 0) (u1 : u 1 = en 1 + 1) (u2 : u 2 = en 2) : nxP F 3 en u := by
  rw [vs_3] at hv
  refine ⟨by rw [vs_3]; omega, fun e he => ?_, by rw [rk_3, rk_3]; omega⟩
  rw [vs_3] at he
  rw [lex_3, lex_3, agr_3]
  omega
theorem nxL_3 {F : Nat} {en : Nat → Nat} (hv : vs F 3 en) (y0 : en 0 = F - (2 - 0)) (y1 : en 1 = F - (2 - 1)) : ∀ e, vs F 3 e → lexP 3 en e ∨ agr 3 en e := by
  rw [vs_3] at hv
  intro e he
  rw [vs_3] at he
  rw [lex_3, agr_3]
  omega
theorem rk_4 {e : Nat → Nat} : rk 4 e = e 0 * 2197 + e 1 * 169 + e 2 * 13 + e 3 := by simp [rk]
theorem nxE_4_0 {F : Nat} {en u : Nat → Nat} (h12 : F ≤ 12) (hv : vs F 4 en) (hz : en 0 ≠ F - (3 - 0)) (y1 : en 1 = F - (3 - 1)) (y2 : en 2 = F - (3 - 2)) (u0 : u 0 = en 0 + 1) (u1 : u 1 = u 0 + 1) (u2 : u 2 = u 1 + 1) (u3 : u 3 = en 3) : nxP F 4 en u := by
  rw [vs_4] at hv
  refine ⟨by rw [vs_4]; omega, fun e he => ?_, by rw [rk_4, rk_4]; omega⟩
  rw [vs_4] at he
  rw [lex_4, lex_4, agr_4]
  omega
theorem nxE_4_1 {F : Nat} {en u : Nat → Nat} (h12 : F ≤ 12) (hv : vs F 4 en) (hz : en 1 ≠ F - (3 - 1)) (y2 : en 2 = F - (3 - 2)) (u0 : u 0 = en 0) (u1 : u 1 = en 1 + 1) (u2 : u 2 = u 1 + 1) (u3 : u 3 = en 3) : nxP F 4 en u := by
  rw [vs_4] at hv
  refine ⟨by rw [vs_4]; omega, fun e he => ?_, by rw [rk_4, rk_4]; omega⟩
  rw [vs_4] at he
  rw [lex_4, lex_4, agr_4]
  omega
theorem nxE_4_2 {F : Nat} {en u : Nat → Nat} (h12 : F ≤ 12) (hv : vs F 4 en) (hz : en 2 ≠ F - (3 - 2))  (u0 : u 0 = en 0) (u1 : u 1 = en 1) (u2 : u 2 = en 2 + 1) (u3 : u 3 = en 3) : nxP F 4 en u := by
  rw [vs_4] at hv
  refine ⟨by rw [vs_4]; omega, fun e he => ?_, by rw [rk_4, rk_4]; omega⟩
  rw [vs_4] at he
  rw [lex_4, lex_4, agr_4]
  omega
theorem nxL_4 {F : Nat} {en : Nat → Nat} (hv : vs F 4 en) (y0 : en 0 = F - (3 - 0)) (y1 : en 1 = F - (3 - 1)) (y2 : en 2 = F - (3 - 2)) : ∀ e, vs F 4 e → lexP 4 en e ∨ agr 4 en e := by
  rw [vs_4] at hv
  intro e he
  rw [vs_4] at he
  rw [lex_4, agr_4]
  omega
set_option maxHeartbeats 4000000 in
set_option maxRecDepth 100000 in
theorem c_M_nextEnds_1 (l : Launch) {dC : Nat → ClassId} {dI : Nat → Nat → Nat} {cI cL cT : ClassId} {sa : Nat → Nat} (sz : Nat) (q : Nat → Nat) (F nt : Nat) (ab be : Int64) (en : Nat → Nat) (hF12 : F ≤ 12) (hkF : 1 ≤ F) (hv : vs F 1 en) : Met l y_M_nextEnds (Cond.code y_M_nextEnds b_M_nextEnds 4 (some .boolean) :: gw) ({ frames := 0, cells := 0, slots := 0, locals := 0 } : Room) (wr dC dI cI cL cT sa [.ref (q 0), .int (nI 1)] [(q 0, .inr (6, (mF q (nI 0) F nt ab be))), (q 14, .inl (cI, 4, .inl (fun j => nI (en j))))] sz) (va_Qi (fun r (u : Nat → Nat) => (r = nI 1 ∧ nxP F 1 en u) ∨ (r = nI 0 ∧ ∀ e, vs F 1 e → lexP 1 en e ∨ agr 1 en e)) (fun (u : Nat → Nat) => wB dC dI [(q 0, .inr (6, (mF q (nI 0) F nt ab be))), (q 14, .inl (cI, 4, .inl (fun j => nI (en j))))] [(q 0, .inr (6, (mF q (nI 0) F nt ab be))), (q 14, .inl (cI, 4, .inl (fun j => nI (u j))))] sz ()) (va_A [(q 0, .inr (6, (mF q (nI 0) F nt ab be))), (q 14, .inl (cI, 4, .inl (fun j => nI (en j))))] sz)) 0 0 (va_A [(q 0, .inr (6, (mF q (nI 0) F nt ab be))), (q 14, .inl (cI, 4, .inl (fun j => nI (en j))))] sz) := by
  refine Met.ofW (cc := b_M_nextEnds) (maxL := 4) (ret := (some .boolean)) (by decide) rfl ?_
  intro p e s m args below meth c s₁ B hml hv
  obtain ⟨rfl, hsz, hC, hP, hD0⟩ := hv
  have hx := B.exec
  have hb := B.bytes
  have hr := B.returns
  have hts : ∀ w ∈ gw, w.before ([.ref (q 0), .int (nI 1)] : List Value).toArray s = true := fun w hw => atoms_spec (ws := Cond.code y_M_nextEnds b_M_nextEnds 4 (some .boolean) :: gw) B.pre w (List.mem_cons_of_mem _ hw)
  have hown : s.vm.findClass R_M = some m.cls := findClass_of_methodNamed B.named
  have hlocks := B.notSynchronized
  have hK := hC.1
  have hfr : 0 ≤ (headSpec (Cond.code y_M_nextEnds b_M_nextEnds 4 (some .boolean) :: gw) ({ frames := 0, cells := 0, slots := 0, locals := 0 } : Room)).room.frames := Nat.le_refl _
  have hlo : 0 ≤ (headSpec (Cond.code y_M_nextEnds b_M_nextEnds 4 (some .boolean) :: gw) ({ frames := 0, cells := 0, slots := 0, locals := 0 } : Room)).room.locals := Nat.le_refl _
  have hce : 0 ≤ (headSpec (Cond.code y_M_nextEnds b_M_nextEnds 4 (some .boolean) :: gw) ({ frames := 0, cells := 0, slots := 0, locals := 0 } : Room)).room.cells := Nat.zero_le _
  have hsl : 0 ≤ (headSpec (Cond.code y_M_nextEnds b_M_nextEnds 4 (some .boolean) :: gw) ({ frames := 0, cells := 0, slots := 0, locals := 0 } : Room)).room.slots := Nat.zero_le _
  subst hsz
  have hD := hD0.self (sz := s.heap.size)
  unfold wB
  generalize hAe : va_A [(q 0, .inr (6, (mF q (nI 0) F nt ab be))), (q 14, .inl (cI, 4, .inl (fun j => nI (en j))))] s.heap.size = A at hD ⊢
  have hA : ∀ q : Nat, s.heap.size ≤ q → A q := fun q h => by rw [← hAe]; exact Or.inr h
  have hS : va_S A s.heap s.heap [] := va_S.rf
  have hl := lv_entry ([.ref (q 0), .int (nI 1)]) (n := 4) (Nat.le_of_ble_eq_true rfl)
  rw [lg_entry_eq]
  generalize (lg_sl ([.ref (q 0), .int (nI 1)]) ++ List.replicate (4 - (lg_sl ([.ref (q 0), .int (nI 1)])).length) Slot.unset).toArray = ls at hl ⊢
  have hl : lv_has ls 4 [(0, .ref (q 0)), (1, .int (nI 1))] := hl
  have hv2 := hv
  rw [vs_1] at hv2
  refine lv_iload_n hx hb d_M_nextEnds_0 rfl (lv_at hl 1 rfl) ?_
  refine lv_iconst (v := nI 2) hx hb d_M_nextEnds_1 (by decide) ?_
  refine lv_isub hx hb d_M_nextEnds_2 ?_
  refine nx_Ieq (b := -1) (by decide) ?_
  refine lv_istore_n (lv' := [(2, .int ((-1))), (0, .ref (q 0)), (1, .int (nI 1))]) hx hb d_M_nextEnds_3 rfl hl (by decide) rfl (fun ls hl => ?_)
  refine lv_iload_n hx hb d_M_nextEnds_4 rfl (lv_at hl 0 rfl) ?_
  refine lv_if_lt (tgt := 33) hx hb d_M_nextEnds_5 (by decide) (fun b0 => ?_) (fun b0 => ?_)
  · refine lv_iload_n hx hb d_M_nextEnds_33 rfl (lv_at hl 0 rfl) ?_
    refine lv_if_ge (tgt := 39) hx hb d_M_nextEnds_34 (by decide) (fun e1 => ?_) (fun e1 => ?_)
    · exact absurd e1 (by decide)
    · refine lv_iconst (v := nI 0) hx hb d_M_nextEnds_37 (by decide) ?_
      exact W.zret hx hb hr (v := nI 0) (by decide) (fun t ht hW => ⟨⟨_, en, rfl, Or.inr ⟨rfl, nxL_1 hv ⟩, by rw [ht]; exact hP, hD⟩, hS.F ht⟩) hS.2.2 d_M_nextEnds_38
  · exact absurd (by decide) b0
set_option maxHeartbeats 4000000 in
set_option maxRecDepth 100000 in
theorem c_M_nextEnds_2 (l : Launch) {dC : Nat → ClassId} {dI : Nat → Nat → Nat} {cI cL cT : ClassId} {sa : Nat → Nat} (sz : Nat) (q : Nat → Nat) (F nt : Nat) (ab be : Int64) (en : Nat → Nat) (hF12 : F ≤ 12) (hkF : 2 ≤ F) (hv : vs F 2 en) : Met l y_M_nextEnds (Cond.code y_M_nextEnds b_M_nextEnds 4 (some .boolean) :: gw) ({ frames := 0, cells := 0, slots := 0, locals := 0 } : Room) (wr dC dI cI cL cT sa [.ref (q 0), .int (nI 2)] [(q 0, .inr (6, (mF q (nI 0) F nt ab be))), (q 14, .inl (cI, 4, .inl (fun j => nI (en j))))] sz) (va_Qi (fun r (u : Nat → Nat) => (r = nI 1 ∧ nxP F 2 en u) ∨ (r = nI 0 ∧ ∀ e, vs F 2 e → lexP 2 en e ∨ agr 2 en e)) (fun (u : Nat → Nat) => wB dC dI [(q 0, .inr (6, (mF q (nI 0) F nt ab be))), (q 14, .inl (cI, 4, .inl (fun j => nI (en j))))] [(q 0, .inr (6, (mF q (nI 0) F nt ab be))), (q 14, .inl (cI, 4, .inl (fun j => nI (u j))))] sz ()) (va_A [(q 0, .inr (6, (mF q (nI 0) F nt ab be))), (q 14, .inl (cI, 4, .inl (fun j => nI (en j))))] sz)) 0 0 (va_A [(q 0, .inr (6, (mF q (nI 0) F nt ab be))), (q 14, .inl (cI, 4, .inl (fun j => nI (en j))))] sz) := by
  refine Met.ofW (cc := b_M_nextEnds) (maxL := 4) (ret := (some .boolean)) (by decide) rfl ?_
  intro p e s m args below meth c s₁ B hml hv
  obtain ⟨rfl, hsz, hC, hP, hD0⟩ := hv
  have hx := B.exec
  have hb := B.bytes
  have hr := B.returns
  have hts : ∀ w ∈ gw, w.before ([.ref (q 0), .int (nI 2)] : List Value).toArray s = true := fun w hw => atoms_spec (ws := Cond.code y_M_nextEnds b_M_nextEnds 4 (some .boolean) :: gw) B.pre w (List.mem_cons_of_mem _ hw)
  have hown : s.vm.findClass R_M = some m.cls := findClass_of_methodNamed B.named
  have hlocks := B.notSynchronized
  have hK := hC.1
  have hfr : 0 ≤ (headSpec (Cond.code y_M_nextEnds b_M_nextEnds 4 (some .boolean) :: gw) ({ frames := 0, cells := 0, slots := 0, locals := 0 } : Room)).room.frames := Nat.le_refl _
  have hlo : 0 ≤ (headSpec (Cond.code y_M_nextEnds b_M_nextEnds 4 (some .boolean) :: gw) ({ frames := 0, cells := 0, slots := 0, locals := 0 } : Room)).room.locals := Nat.le_refl _
  have hce : 0 ≤ (headSpec (Cond.code y_M_nextEnds b_M_nextEnds 4 (some .boolean) :: gw) ({ frames := 0, cells := 0, slots := 0, locals := 0 } : Room)).room.cells := Nat.zero_le _
  have hsl : 0 ≤ (headSpec (Cond.code y_M_nextEnds b_M_nextEnds 4 (some .boolean) :: gw) ({ frames := 0, cells := 0, slots := 0, locals := 0 } : Room)).room.slots := Nat.zero_le _
  subst hsz
  have hD := hD0.self (sz := s.heap.size)
  unfold wB
  generalize hAe : va_A [(q 0, .inr (6, (mF q (nI 0) F nt ab be))), (q 14, .inl (cI, 4, .inl (fun j => nI (en j))))] s.heap.size = A at hD ⊢
  have hA : ∀ q : Nat, s.heap.size ≤ q → A q := fun q h => by rw [← hAe]; exact Or.inr h
  have hS : va_S A s.heap s.heap [] := va_S.rf
  have hl := lv_entry ([.ref (q 0), .int (nI 2)]) (n := 4) (Nat.le_of_ble_eq_true rfl)
  rw [lg_entry_eq]
  generalize (lg_sl ([.ref (q 0), .int (nI 2)]) ++ List.replicate (4 - (lg_sl ([.ref (q 0), .int (nI 2)])).length) Slot.unset).toArray = ls at hl ⊢
  have hl : lv_has ls 4 [(0, .ref (q 0)), (1, .int (nI 2))] := hl
  have hv2 := hv
  rw [vs_2] at hv2
  refine lv_iload_n hx hb d_M_nextEnds_0 rfl (lv_at hl 1 rfl) ?_
  refine lv_iconst (v := nI 2) hx hb d_M_nextEnds_1 (by decide) ?_
  refine nx_isub hx hb d_M_nextEnds_2 (by decide) ?_
  refine nx_ieq (b := 0) rfl ?_
  refine lv_istore_n (lv' := [(2, .int (nI 0)), (0, .ref (q 0)), (1, .int (nI 2))]) hx hb d_M_nextEnds_3 rfl hl (by decide) rfl (fun ls hl => ?_)
  refine lv_iload_n hx hb d_M_nextEnds_4 rfl (lv_at hl 0 rfl) ?_
  refine lv_if_lt (tgt := 33) hx hb d_M_nextEnds_5 (by decide) (fun b1 => ?_) (fun b1 => ?_)
  · exact absurd b1 (by decide)
  · refine lv_aload_n hx hb d_M_nextEnds_8 rfl (lv_at hl 1 rfl) ?_
    refine va_get (D := (dC, dI)) (ci := 6) (v := .ref (q 14)) (C := R_M) (T := F_M) (N := 17) hx hb hts i_M hown hK hP 0 rfl rfl 14 (by decide) (hts _ k_491) (fun _ h9 => h9) rfl d_M_nextEnds_9 ?_
    refine lv_iload_n hx hb d_M_nextEnds_12 rfl (lv_at hl 0 rfl) ?_
    refine nx_iald hx hb hK hP 1 0 rfl rfl (k := 0) (v := nI (en 0)) (by omega) (by decide) rfl d_M_nextEnds_13 ?_
    refine lv_aload_n hx hb d_M_nextEnds_14 rfl (lv_at hl 1 rfl) ?_
    refine va_get (D := (dC, dI)) (ci := 6) (v := .int (nI F)) (C := R_M) (T := F_M) (N := 17) hx hb hts i_M hown hK hP 0 rfl rfl 3 (by decide) (hts _ k_480) (fun _ h9 => h9) rfl d_M_nextEnds_15 ?_
    refine lv_iload_n hx hb d_M_nextEnds_18 rfl (lv_at hl 2 rfl) ?_
    refine lv_iconst (v := nI 1) hx hb d_M_nextEnds_19 (by decide) ?_
    refine nx_isub hx hb d_M_nextEnds_20 (by omega) ?_
    refine lv_iload_n hx hb d_M_nextEnds_21 rfl (lv_at hl 0 rfl) ?_
    refine nx_isub hx hb d_M_nextEnds_22 (by omega) ?_
    refine nx_isub hx hb d_M_nextEnds_23 (by omega) ?_
    refine nx_icmp_ne (tgt := 33) hx hb d_M_nextEnds_24 (by decide) (by omega) (by omega) (fun h0 => ?_) (fun h0 => ?_)
    · refine lv_iload_n hx hb d_M_nextEnds_33 rfl (lv_at hl 0 rfl) ?_
      refine lv_if_ge (tgt := 39) hx hb d_M_nextEnds_34 (by decide) (fun e1 => ?_) (fun e1 => ?_)
      · refine lv_aload_n hx hb d_M_nextEnds_39 rfl (lv_at hl 1 rfl) ?_
        refine va_get (D := (dC, dI)) (ci := 6) (v := .ref (q 14)) (C := R_M) (T := F_M) (N := 17) hx hb hts i_M hown hK hP 0 rfl rfl 14 (by decide) (hts _ k_491) (fun _ h9 => h9) rfl d_M_nextEnds_40 ?_
        refine lv_iload_n hx hb d_M_nextEnds_43 rfl (lv_at hl 0 rfl) ?_
        refine lv_dup2_11 hx hb d_M_nextEnds_44 rfl rfl ?_
        refine nx_iald hx hb hK hP 1 0 rfl rfl (k := 0) (v := nI (en 0)) (by omega) (by decide) rfl d_M_nextEnds_45 ?_
        refine lv_iconst (v := nI 1) hx hb d_M_nextEnds_46 (by decide) ?_
        refine nx_iadd hx hb d_M_nextEnds_47 ?_
        refine nx_iast hx hb hK hP hD hS 1 0 rfl rfl (k := 0) (x := nI ((en 0) + 1)) (by omega) (by decide) d_M_nextEnds_48 (fun H locs hP hD hS => ?_)
        have hP : va_P (dC, dI) vwCl [(q 0, .inr (6, (mF q (nI 0) F nt ab be))), (q 14, .inl (cI, 4, .inl (upd (fun j => nI (en j)) (0) (nI ((en 0) + 1)))))] H := hP
        have hD : va_D A [(q 0, .inr (6, (mF q (nI 0) F nt ab be))), (q 14, .inl (cI, 4, .inl (upd (fun j => nI (en j)) (0) (nI ((en 0) + 1)))))] := hD
        rw [up_eq] at hP hD
        refine lv_iload_n hx hb d_M_nextEnds_49 rfl (lv_at hl 0 rfl) ?_
        refine lv_iconst (v := nI 1) hx hb d_M_nextEnds_50 (by decide) ?_
        refine nx_iadd hx hb d_M_nextEnds_51 ?_
        refine nx_ieq (b := 1) rfl ?_
        refine lv_istore_n (lv' := [(3, .int (nI 1)), (2, .int (nI 0)), (0, .ref (q 0)), (1, .int (nI 2))]) hx hb d_M_nextEnds_52 rfl hl (by decide) rfl (fun ls hl => ?_)
        refine lv_iload_n hx hb d_M_nextEnds_53 rfl (lv_at hl 0 rfl) ?_
        refine lv_iload_n hx hb d_M_nextEnds_54 rfl (lv_at hl 3 rfl) ?_
        refine lv_iconst (v := nI 1) hx hb d_M_nextEnds_55 (by decide) ?_
        refine nx_isub hx hb d_M_nextEnds_56 (by omega) ?_
        refine nx_icmp_ge (tgt := 82) hx hb d_M_nextEnds_57 (by decide) (by omega) (by omega) (fun g1 => ?_) (fun g1 => ?_)
        · refine lv_iconst (v := nI 1) hx hb d_M_nextEnds_82 (by decide) ?_
          exact W.zret hx hb hr (v := nI 1) (by decide) (fun t ht hW => ⟨⟨_, up en 0 ((en 0) + 1), rfl, Or.inl ⟨rfl, nxE_2_0 hF12 hv h0  rfl rfl⟩, by rw [ht]; exact hP, hD⟩, hS.F ht⟩) hS.2.2 d_M_nextEnds_83
        · exact absurd g1 (by omega)
      · exact absurd (by decide) e1
    · refine lv_iinc (v := (-1)) (lv' := [(2, .int ((-1))), (0, .ref (q 0)), (1, .int (nI 2))]) hx hb d_M_nextEnds_27 hl (k := 0) rfl (by decide) (by decide) rfl (fun ls hl => ?_)
      refine lv_goto (tgt := 4) hx hb d_M_nextEnds_30 (by decide) ?_
      refine lv_iload_n hx hb d_M_nextEnds_4 rfl (lv_at hl 0 rfl) ?_
      refine lv_if_lt (tgt := 33) hx hb d_M_nextEnds_5 (by decide) (fun b0 => ?_) (fun b0 => ?_)
      · refine lv_iload_n hx hb d_M_nextEnds_33 rfl (lv_at hl 0 rfl) ?_
        refine lv_if_ge (tgt := 39) hx hb d_M_nextEnds_34 (by decide) (fun e1 => ?_) (fun e1 => ?_)
        · exact absurd e1 (by decide)
        · refine lv_iconst (v := nI 0) hx hb d_M_nextEnds_37 (by decide) ?_
          exact W.zret hx hb hr (v := nI 0) (by decide) (fun t ht hW => ⟨⟨_, en, rfl, Or.inr ⟨rfl, nxL_2 hv h0⟩, by rw [ht]; exact hP, hD⟩, hS.F ht⟩) hS.2.2 d_M_nextEnds_38
      · exact absurd (by decide) b0
set_option maxHeartbeats 4000000 in
set_option maxRecDepth 100000 in
theorem c_M_nextEnds_3 (l : Launch) {dC : Nat → ClassId} {dI : Nat → Nat → Nat} {cI cL cT : ClassId} {sa : Nat → Nat} (sz : Nat) (q : Nat → Nat) (F nt : Nat) (ab be : Int64) (en : Nat → Nat) (hF12 : F ≤ 12) (hkF : 3 ≤ F) (hv : vs F 3 en) : Met l y_M_nextEnds (Cond.code y_M_nextEnds b_M_nextEnds 4 (some .boolean) :: gw) ({ frames := 0, cells := 0, slots := 0, locals := 0 } : Room) (wr dC dI cI cL cT sa [.ref (q 0), .int (nI 3)] [(q 0, .inr (6, (mF q (nI 0) F nt ab be))), (q 14, .inl (cI, 4, .inl (fun j => nI (en j))))] sz) (va_Qi (fun r (u : Nat → Nat) => (r = nI 1 ∧ nxP F 3 en u) ∨ (r = nI 0 ∧ ∀ e, vs F 3 e → lexP 3 en e ∨ agr 3 en e)) (fun (u : Nat → Nat) => wB dC dI [(q 0, .inr (6, (mF q (nI 0) F nt ab be))), (q 14, .inl (cI, 4, .inl (fun j => nI (en j))))] [(q 0, .inr (6, (mF q (nI 0) F nt ab be))), (q 14, .inl (cI, 4, .inl (fun j => nI (u j))))] sz ()) (va_A [(q 0, .inr (6, (mF q (nI 0) F nt ab be))), (q 14, .inl (cI, 4, .inl (fun j => nI (en j))))] sz)) 0 0 (va_A [(q 0, .inr (6, (mF q (nI 0) F nt ab be))), (q 14, .inl (cI, 4, .inl (fun j => nI (en j))))] sz) := by
  refine Met.ofW (cc := b_M_nextEnds) (maxL := 4) (ret := (some .boolean)) (by decide) rfl ?_
  intro p e s m args below meth c s₁ B hml hv
  obtain ⟨rfl, hsz, hC, hP, hD0⟩ := hv
  have hx := B.exec
  have hb := B.bytes
  have hr := B.returns
  have hts : ∀ w ∈ gw, w.before ([.ref (q 0), .int (nI 3)] : List Value).toArray s = true := fun w hw => atoms_spec (ws := Cond.code y_M_nextEnds b_M_nextEnds 4 (some .boolean) :: gw) B.pre w (List.mem_cons_of_mem _ hw)
  have hown : s.vm.findClass R_M = some m.cls := findClass_of_methodNamed B.named
  have hlocks := B.notSynchronized
  have hK := hC.1
  have hfr : 0 ≤ (headSpec (Cond.code y_M_nextEnds b_M_nextEnds 4 (some .boolean) :: gw) ({ frames := 0, cells := 0, slots := 0, locals := 0 } : Room)).room.frames := Nat.le_refl _
  have hlo : 0 ≤ (headSpec (Cond.code y_M_nextEnds b_M_nextEnds 4 (some .boolean) :: gw) ({ frames := 0, cells := 0, slots := 0, locals := 0 } : Room)).room.locals := Nat.le_refl _
  have hce : 0 ≤ (headSpec (Cond.code y_M_nextEnds b_M_nextEnds 4 (some .boolean) :: gw) ({ frames := 0, cells := 0, slots := 0, locals := 0 } : Room)).room.cells := Nat.zero_le _
  have hsl : 0 ≤ (headSpec (Cond.code y_M_nextEnds b_M_nextEnds 4 (some .boolean) :: gw) ({ frames := 0, cells := 0, slots := 0, locals := 0 } : Room)).room.slots := Nat.zero_le _
  subst hsz
  have hD := hD0.self (sz := s.heap.size)
  unfold wB
  generalize hAe : va_A [(q 0, .inr (6, (mF q (nI 0) F nt ab be))), (q 14, .inl (cI, 4, .inl (fun j => nI (en j))))] s.heap.size = A at hD ⊢
  have hA : ∀ q : Nat, s.heap.size ≤ q → A q := fun q h => by rw [← hAe]; exact Or.inr h
  have hS : va_S A s.heap s.heap [] := va_S.rf
  have hl := lv_entry ([.ref (q 0), .int (nI 3)]) (n := 4) (Nat.le_of_ble_eq_true rfl)
  rw [lg_entry_eq]
  generalize (lg_sl ([.ref (q 0), .int (nI 3)]) ++ List.replicate (4 - (lg_sl ([.ref (q 0), .int (nI 3)])).length) Slot.unset).toArray = ls at hl ⊢
  have hl : lv_has ls 4 [(0, .ref (q 0)), (1, .int (nI 3))] := hl
  have hv2 := hv
  rw [vs_3] at hv2
  refine lv_iload_n hx hb d_M_nextEnds_0 rfl (lv_at hl 1 rfl) ?_
  refine lv_iconst (v := nI 2) hx hb d_M_nextEnds_1 (by decide) ?_
  refine nx_isub hx hb d_M_nextEnds_2 (by decide) ?_
  refine nx_ieq (b := 1) rfl ?_
  refine lv_istore_n (lv' := [(2, .int (nI 1)), (0, .ref (q 0)), (1, .int (nI 3))]) hx hb d_M_nextEnds_3 rfl hl (by decide) rfl (fun ls hl => ?_)
  refine lv_iload_n hx hb d_M_nextEnds_4 rfl (lv_at hl 0 rfl) ?_
  refine lv_if_lt (tgt := 33) hx hb d_M_nextEnds_5 (by decide) (fun b2 => ?_) (fun b2 => ?_)
  · exact absurd b2 (by decide)
  · refine lv_aload_n hx hb d_M_nextEnds_8 rfl (lv_at hl 1 rfl) ?_
    refine va_get (D := (dC, dI)) (ci := 6) (v := .ref (q 14)) (C := R_M) (T := F_M) (N := 17) hx hb hts i_M hown hK hP 0 rfl rfl 14 (by decide) (hts _ k_491) (fun _ h9 => h9) rfl d_M_nextEnds_9 ?_
    refine lv_iload_n hx hb d_M_nextEnds_12 rfl (lv_at hl 0 rfl) ?_
    refine nx_iald hx hb hK hP 1 0 rfl rfl (k := 1) (v := nI (en 1)) (by omega) (by decide) rfl d_M_nextEnds_13 ?_
    refine lv_aload_n hx hb d_M_nextEnds_14 rfl (lv_at hl 1 rfl) ?_
    refine va_get (D := (dC, dI)) (ci := 6) (v := .int (nI F)) (C := R_M) (T := F_M) (N := 17) hx hb hts i_M hown hK hP 0 rfl rfl 3 (by decide) (hts _ k_480) (fun _ h9 => h9) rfl d_M_nextEnds_15 ?_
    refine lv_iload_n hx hb d_M_nextEnds_18 rfl (lv_at hl 2 rfl) ?_
    refine lv_iconst (v := nI 1) hx hb d_M_nextEnds_19 (by decide) ?_
    refine nx_isub hx hb d_M_nextEnds_20 (by omega) ?_
    refine lv_iload_n hx hb d_M_nextEnds_21 rfl (lv_at hl 0 rfl) ?_
    refine nx_isub hx hb d_M_nextEnds_22 (by omega) ?_
    refine nx_isub hx hb d_M_nextEnds_23 (by omega) ?_
    refine nx_icmp_ne (tgt := 33) hx hb d_M_nextEnds_24 (by decide) (by omega) (by omega) (fun h1 => ?_) (fun h1 => ?_)
    · refine lv_iload_n hx hb d_M_nextEnds_33 rfl (lv_at hl 0 rfl) ?_
      refine lv_if_ge (tgt := 39) hx hb d_M_nextEnds_34 (by decide) (fun e1 => ?_) (fun e1 => ?_)
      · refine lv_aload_n hx hb d_M_nextEnds_39 rfl (lv_at hl 1 rfl) ?_
        refine va_get (D := (dC, dI)) (ci := 6) (v := .ref (q 14)) (C := R_M) (T := F_M) (N := 17) hx hb hts i_M hown hK hP 0 rfl rfl 14 (by decide) (hts _ k_491) (fun _ h9 => h9) rfl d_M_nextEnds_40 ?_
        refine lv_iload_n hx hb d_M_nextEnds_43 rfl (lv_at hl 0 rfl) ?_
        refine lv_dup2_11 hx hb d_M_nextEnds_44 rfl rfl ?_
        refine nx_iald hx hb hK hP 1 0 rfl rfl (k := 1) (v := nI (en 1)) (by omega) (by decide) rfl d_M_nextEnds_45 ?_
        refine lv_iconst (v := nI 1) hx hb d_M_nextEnds_46 (by decide) ?_
        refine nx_iadd hx hb d_M_nextEnds_47 ?_
        refine nx_iast hx hb hK hP hD hS 1 0 rfl rfl (k := 1) (x := nI ((en 1) + 1)) (by omega) (by decide) d_M_nextEnds_48 (fun H locs hP hD hS => ?_)
        have hP : va_P (dC, dI) vwCl [(q 0, .inr (6, (mF q (nI 0) F nt ab be))), (q 14, .inl (cI, 4, .inl (upd (fun j => nI (en j)) (1) (nI ((en 1) + 1)))))] H := hP
        have hD : va_D A [(q 0, .inr (6, (mF q (nI 0) F nt ab be))), (q 14, .inl (cI, 4, .inl (upd (fun j => nI (en j)) (1) (nI ((en 1) + 1)))))] := hD
        rw [up_eq] at hP hD
        refine lv_iload_n hx hb d_M_nextEnds_49 rfl (lv_at hl 0 rfl) ?_
        refine lv_iconst (v := nI 1) hx hb d_M_nextEnds_50 (by decide) ?_
        refine nx_iadd hx hb d_M_nextEnds_51 ?_
        refine nx_ieq (b := 2) rfl ?_
        refine lv_istore_n (lv' := [(3, .int (nI 2)), (2, .int (nI 1)), (0, .ref (q 0)), (1, .int (nI 3))]) hx hb d_M_nextEnds_52 rfl hl (by decide) rfl (fun ls hl => ?_)
        refine lv_iload_n hx hb d_M_nextEnds_53 rfl (lv_at hl 0 rfl) ?_
        refine lv_iload_n hx hb d_M_nextEnds_54 rfl (lv_at hl 3 rfl) ?_
        refine lv_iconst (v := nI 1) hx hb d_M_nextEnds_55 (by decide) ?_
        refine nx_isub hx hb d_M_nextEnds_56 (by omega) ?_
        refine nx_icmp_ge (tgt := 82) hx hb d_M_nextEnds_57 (by decide) (by omega) (by omega) (fun g2 => ?_) (fun g2 => ?_)
        · refine lv_iconst (v := nI 1) hx hb d_M_nextEnds_82 (by decide) ?_
          exact W.zret hx hb hr (v := nI 1) (by decide) (fun t ht hW => ⟨⟨_, up en 1 ((en 1) + 1), rfl, Or.inl ⟨rfl, nxE_3_1 hF12 hv h1  rfl rfl rfl⟩, by rw [ht]; exact hP, hD⟩, hS.F ht⟩) hS.2.2 d_M_nextEnds_83
        · exact absurd g2 (by omega)
      · exact absurd (by decide) e1
    · refine lv_iinc (v := nI 0) (lv' := [(2, .int (nI 0)), (0, .ref (q 0)), (1, .int (nI 3))]) hx hb d_M_nextEnds_27 hl (k := 0) rfl (by decide) (by decide) rfl (fun ls hl => ?_)
      refine lv_goto (tgt := 4) hx hb d_M_nextEnds_30 (by decide) ?_
      refine lv_iload_n hx hb d_M_nextEnds_4 rfl (lv_at hl 0 rfl) ?_
      refine lv_if_lt (tgt := 33) hx hb d_M_nextEnds_5 (by decide) (fun b1 => ?_) (fun b1 => ?_)
      · exact absurd b1 (by decide)
      · refine lv_aload_n hx hb d_M_nextEnds_8 rfl (lv_at hl 1 rfl) ?_
        refine va_get (D := (dC, dI)) (ci := 6) (v := .ref (q 14)) (C := R_M) (T := F_M) (N := 17) hx hb hts i_M hown hK hP 0 rfl rfl 14 (by decide) (hts _ k_491) (fun _ h9 => h9) rfl d_M_nextEnds_9 ?_
        refine lv_iload_n hx hb d_M_nextEnds_12 rfl (lv_at hl 0 rfl) ?_
        refine nx_iald hx hb hK hP 1 0 rfl rfl (k := 0) (v := nI (en 0)) (by omega) (by decide) rfl d_M_nextEnds_13 ?_
        refine lv_aload_n hx hb d_M_nextEnds_14 rfl (lv_at hl 1 rfl) ?_
        refine va_get (D := (dC, dI)) (ci := 6) (v := .int (nI F)) (C := R_M) (T := F_M) (N := 17) hx hb hts i_M hown hK hP 0 rfl rfl 3 (by decide) (hts _ k_480) (fun _ h9 => h9) rfl d_M_nextEnds_15 ?_
        refine lv_iload_n hx hb d_M_nextEnds_18 rfl (lv_at hl 2 rfl) ?_
        refine lv_iconst (v := nI 1) hx hb d_M_nextEnds_19 (by decide) ?_
        refine nx_isub hx hb d_M_nextEnds_20 (by omega) ?_
        refine lv_iload_n hx hb d_M_nextEnds_21 rfl (lv_at hl 0 rfl) ?_
        refine nx_isub hx hb d_M_nextEnds_22 (by omega) ?_
        refine nx_isub hx hb d_M_nextEnds_23 (by omega) ?_
        refine nx_icmp_ne (tgt := 33) hx hb d_M_nextEnds_24 (by decide) (by omega) (by omega) (fun h0 => ?_) (fun h0 => ?_)
        · refine lv_iload_n hx hb d_M_nextEnds_33 rfl (lv_at hl 0 rfl) ?_
          refine lv_if_ge (tgt := 39) hx hb d_M_nextEnds_34 (by decide) (fun e1 => ?_) (fun e1 => ?_)
          · refine lv_aload_n hx hb d_M_nextEnds_39 rfl (lv_at hl 1 rfl) ?_
            refine va_get (D := (dC, dI)) (ci := 6) (v := .ref (q 14)) (C := R_M) (T := F_M) (N := 17) hx hb hts i_M hown hK hP 0 rfl rfl 14 (by decide) (hts _ k_491) (fun _ h9 => h9) rfl d_M_nextEnds_40 ?_
            refine lv_iload_n hx hb d_M_nextEnds_43 rfl (lv_at hl 0 rfl) ?_
            refine lv_dup2_11 hx hb d_M_nextEnds_44 rfl rfl ?_
            refine nx_iald hx hb hK hP 1 0 rfl rfl (k := 0) (v := nI (en 0)) (by omega) (by decide) rfl d_M_nextEnds_45 ?_
            refine lv_iconst (v := nI 1) hx hb d_M_nextEnds_46 (by decide) ?_
            refine nx_iadd hx hb d_M_nextEnds_47 ?_
            refine nx_iast hx hb hK hP hD hS 1 0 rfl rfl (k := 0) (x := nI ((en 0) + 1)) (by omega) (by decide) d_M_nextEnds_48 (fun H locs hP hD hS => ?_)
            have hP : va_P (dC, dI) vwCl [(q 0, .inr (6, (mF q (nI 0) F nt ab be))), (q 14, .inl (cI, 4, .inl (upd (fun j => nI (en j)) (0) (nI ((en 0) + 1)))))] H := hP
            have hD : va_D A [(q 0, .inr (6, (mF q (nI 0) F nt ab be))), (q 14, .inl (cI, 4, .inl (upd (fun j => nI (en j)) (0) (nI ((en 0) + 1)))))] := hD
            rw [up_eq] at hP hD
            refine lv_iload_n hx hb d_M_nextEnds_49 rfl (lv_at hl 0 rfl) ?_
            refine lv_iconst (v := nI 1) hx hb d_M_nextEnds_50 (by decide) ?_
            refine nx_iadd hx hb d_M_nextEnds_51 ?_
            refine nx_ieq (b := 1) rfl ?_
            refine lv_istore_n (lv' := [(3, .int (nI 1)), (2, .int (nI 0)), (0, .ref (q 0)), (1, .int (nI 3))]) hx hb d_M_nextEnds_52 rfl hl (by decide) rfl (fun ls hl => ?_)
            refine lv_iload_n hx hb d_M_nextEnds_53 rfl (lv_at hl 0 rfl) ?_
            refine lv_iload_n hx hb d_M_nextEnds_54 rfl (lv_at hl 3 rfl) ?_
            refine lv_iconst (v := nI 1) hx hb d_M_nextEnds_55 (by decide) ?_
            refine nx_isub hx hb d_M_nextEnds_56 (by omega) ?_
            refine nx_icmp_ge (tgt := 82) hx hb d_M_nextEnds_57 (by decide) (by omega) (by omega) (fun g1 => ?_) (fun g1 => ?_)
            · exact absurd g1 (by omega)
            · refine lv_aload_n hx hb d_M_nextEnds_60 rfl (lv_at hl 2 rfl) ?_
              refine va_get (D := (dC, dI)) (ci := 6) (v := .ref (q 14)) (C := R_M) (T := F_M) (N := 17) hx hb hts i_M hown hK hP 0 rfl rfl 14 (by decide) (hts _ k_491) (fun _ h9 => h9) rfl d_M_nextEnds_61 ?_
              refine lv_iload_n hx hb d_M_nextEnds_64 rfl (lv_at hl 0 rfl) ?_
              refine lv_aload_n hx hb d_M_nextEnds_65 rfl (lv_at hl 2 rfl) ?_
              refine va_get (D := (dC, dI)) (ci := 6) (v := .ref (q 14)) (C := R_M) (T := F_M) (N := 17) hx hb hts i_M hown hK hP 0 rfl rfl 14 (by decide) (hts _ k_491) (fun _ h9 => h9) rfl d_M_nextEnds_66 ?_
              refine lv_iload_n hx hb d_M_nextEnds_69 rfl (lv_at hl 0 rfl) ?_
              refine lv_iconst (v := nI 1) hx hb d_M_nextEnds_70 (by decide) ?_
              refine nx_isub hx hb d_M_nextEnds_71 (by omega) ?_
              refine nx_ieq (b := 0) rfl ?_
              refine nx_iald hx hb hK hP 1 0 rfl rfl (k := 0) (v := nI ((up en 0 ((en 0) + 1)) 0)) (by omega) (by decide) rfl d_M_nextEnds_72 ?_
              refine lv_iconst (v := nI 1) hx hb d_M_nextEnds_73 (by decide) ?_
              refine nx_iadd hx hb d_M_nextEnds_74 ?_
              refine nx_iast hx hb hK hP hD hS 1 0 rfl rfl (k := 1) (x := nI (((up en 0 ((en 0) + 1)) 0) + 1)) (by omega) (by decide) d_M_nextEnds_75 (fun H locs hP hD hS => ?_)
              have hP : va_P (dC, dI) vwCl [(q 0, .inr (6, (mF q (nI 0) F nt ab be))), (q 14, .inl (cI, 4, .inl (upd (fun j => nI ((up en 0 ((en 0) + 1)) j)) (1) (nI (((up en 0 ((en 0) + 1)) 0) + 1)))))] H := hP
              have hD : va_D A [(q 0, .inr (6, (mF q (nI 0) F nt ab be))), (q 14, .inl (cI, 4, .inl (upd (fun j => nI ((up en 0 ((en 0) + 1)) j)) (1) (nI (((up en 0 ((en 0) + 1)) 0) + 1)))))] := hD
              rw [up_eq] at hP hD
              refine nx_inc (lv' := [(3, .int (nI (1 + 1))), (2, .int (nI 0)), (0, .ref (q 0)), (1, .int (nI 3))]) hx hb d_M_nextEnds_76 hl (k := 0) rfl (by decide) rfl (fun ls hl => ?_)
              have hl : lv_has ls 4 [(3, .int (nI 2)), (2, .int (nI 0)), (0, .ref (q 0)), (1, .int (nI 3))] := hl
              refine lv_goto (tgt := 53) hx hb d_M_nextEnds_79 (by decide) ?_
              refine lv_iload_n hx hb d_M_nextEnds_53 rfl (lv_at hl 0 rfl) ?_
              refine lv_iload_n hx hb d_M_nextEnds_54 rfl (lv_at hl 3 rfl) ?_
              refine lv_iconst (v := nI 1) hx hb d_M_nextEnds_55 (by decide) ?_
              refine nx_isub hx hb d_M_nextEnds_56 (by omega) ?_
              refine nx_icmp_ge (tgt := 82) hx hb d_M_nextEnds_57 (by decide) (by omega) (by omega) (fun g2 => ?_) (fun g2 => ?_)
              · refine lv_iconst (v := nI 1) hx hb d_M_nextEnds_82 (by decide) ?_
                exact W.zret hx hb hr (v := nI 1) (by decide) (fun t ht hW => ⟨⟨_, up (up en 0 ((en 0) + 1)) 1 (((up en 0 ((en 0) + 1)) 0) + 1), rfl, Or.inl ⟨rfl, nxE_3_0 hF12 hv h0 h1 rfl rfl rfl⟩, by rw [ht]; exact hP, hD⟩, hS.F ht⟩) hS.2.2 d_M_nextEnds_83
              · exact absurd g2 (by omega)
          · exact absurd (by decide) e1
        · refine lv_iinc (v := (-1)) (lv' := [(2, .int ((-1))), (0, .ref (q 0)), (1, .int (nI 3))]) hx hb d_M_nextEnds_27 hl (k := 0) rfl (by decide) (by decide) rfl (fun ls hl => ?_)
          refine lv_goto (tgt := 4) hx hb d_M_nextEnds_30 (by decide) ?_
          refine lv_iload_n hx hb d_M_nextEnds_4 rfl (lv_at hl 0 rfl) ?_
          refine lv_if_lt (tgt := 33) hx hb d_M_nextEnds_5 (by decide) (fun b0 => ?_) (fun b0 => ?_)
          · refine lv_iload_n hx hb d_M_nextEnds_33 rfl (lv_at hl 0 rfl) ?_
            refine lv_if_ge (tgt := 39) hx hb d_M_nextEnds_34 (by decide) (fun e1 => ?_) (fun e1 => ?_)
            · exact absurd e1 (by decide)
            · refine lv_iconst (v := nI 0) hx hb d_M_nextEnds_37 (by decide) ?_
              exact W.zret hx hb hr (v := nI 0) (by decide) (fun t ht hW => ⟨⟨_, en, rfl, Or.inr ⟨rfl, nxL_3 hv h0 h1⟩, by rw [ht]; exact hP, hD⟩, hS.F ht⟩) hS.2.2 d_M_nextEnds_38
          · exact absurd (by decide) b0
set_option maxHeartbeats 4000000 in
set_option maxRecDepth 100000 in
theorem c_M_nextEnds_4 (l : Launch) {dC : Nat → ClassId} {dI : Nat → Nat → Nat} {cI cL cT : ClassId} {sa : Nat → Nat} (sz : Nat) (q : Nat → Nat) (F nt : Nat) (ab be : Int64) (en : Nat → Nat) (hF12 : F ≤ 12) (hkF : 4 ≤ F) (hv : vs F 4 en) : Met l y_M_nextEnds (Cond.code y_M_nextEnds b_M_nextEnds 4 (some .boolean) :: gw) ({ frames := 0, cells := 0, slots := 0, locals := 0 } : Room) (wr dC dI cI cL cT sa [.ref (q 0), .int (nI 4)] [(q 0, .inr (6, (mF q (nI 0) F nt ab be))), (q 14, .inl (cI, 4, .inl (fun j => nI (en j))))] sz) (va_Qi (fun r (u : Nat → Nat) => (r = nI 1 ∧ nxP F 4 en u) ∨ (r = nI 0 ∧ ∀ e, vs F 4 e → lexP 4 en e ∨ agr 4 en e)) (fun (u : Nat → Nat) => wB dC dI [(q 0, .inr (6, (mF q (nI 0) F nt ab be))), (q 14, .inl (cI, 4, .inl (fun j => nI (en j))))] [(q 0, .inr (6, (mF q (nI 0) F nt ab be))), (q 14, .inl (cI, 4, .inl (fun j => nI (u j))))] sz ()) (va_A [(q 0, .inr (6, (mF q (nI 0) F nt ab be))), (q 14, .inl (cI, 4, .inl (fun j => nI (en j))))] sz)) 0 0 (va_A [(q 0, .inr (6, (mF q (nI 0) F nt ab be))), (q 14, .inl (cI, 4, .inl (fun j => nI (en j))))] sz) := by
  refine Met.ofW (cc := b_M_nextEnds) (maxL := 4) (ret := (some .boolean)) (by decide) rfl ?_
  intro p e s m args below meth c s₁ B hml hv
  obtain ⟨rfl, hsz, hC, hP, hD0⟩ := hv
  have hx := B.exec
  have hb := B.bytes
  have hr := B.returns
  have hts : ∀ w ∈ gw, w.before ([.ref (q 0), .int (nI 4)] : List Value).toArray s = true := fun w hw => atoms_spec (ws := Cond.code y_M_nextEnds b_M_nextEnds 4 (some .boolean) :: gw) B.pre w (List.mem_cons_of_mem _ hw)
  have hown : s.vm.findClass R_M = some m.cls := findClass_of_methodNamed B.named
  have hlocks := B.notSynchronized
  have hK := hC.1
  have hfr : 0 ≤ (headSpec (Cond.code y_M_nextEnds b_M_nextEnds 4 (some .boolean) :: gw) ({ frames := 0, cells := 0, slots := 0, locals := 0 } : Room)).room.frames := Nat.le_refl _
  have hlo : 0 ≤ (headSpec (Cond.code y_M_nextEnds b_M_nextEnds 4 (some .boolean) :: gw) ({ frames := 0, cells := 0, slots := 0, locals := 0 } : Room)).room.locals := Nat.le_refl _
  have hce : 0 ≤ (headSpec (Cond.code y_M_nextEnds b_M_nextEnds 4 (some .boolean) :: gw) ({ frames := 0, cells := 0, slots := 0, locals := 0 } : Room)).room.cells := Nat.zero_le _
  have hsl : 0 ≤ (headSpec (Cond.code y_M_nextEnds b_M_nextEnds 4 (some .boolean) :: gw) ({ frames := 0, cells := 0, slots := 0, locals := 0 } : Room)).room.slots := Nat.zero_le _
  subst hsz
  have hD := hD0.self (sz := s.heap.size)
  unfold wB
  generalize hAe : va_A [(q 0, .inr (6, (mF q (nI 0) F nt ab be))), (q 14, .inl (cI, 4, .inl (fun j => nI (en j))))] s.heap.size = A at hD ⊢
  have hA : ∀ q : Nat, s.heap.size ≤ q → A q := fun q h => by rw [← hAe]; exact Or.inr h
  have hS : va_S A s.heap s.heap [] := va_S.rf
  have hl := lv_entry ([.ref (q 0), .int (nI 4)]) (n := 4) (Nat.le_of_ble_eq_true rfl)
  rw [lg_entry_eq]
  generalize (lg_sl ([.ref (q 0), .int (nI 4)]) ++ List.replicate (4 - (lg_sl ([.ref (q 0), .int (nI 4)])).length) Slot.unset).toArray = ls at hl ⊢
  have hl : lv_has ls 4 [(0, .ref (q 0)), (1, .int (nI 4))] := hl
  have hv2 := hv
  rw [vs_4] at hv2
  refine lv_iload_n hx hb d_M_nextEnds_0 rfl (lv_at hl 1 rfl) ?_
  refine lv_iconst (v := nI 2) hx hb d_M_nextEnds_1 (by decide) ?_
  refine nx_isub hx hb d_M_nextEnds_2 (by decide) ?_
  refine nx_ieq (b := 2) rfl ?_
  refine lv_istore_n (lv' := [(2, .int (nI 2)), (0, .ref (q 0)), (1, .int (nI 4))]) hx hb d_M_nextEnds_3 rfl hl (by decide) rfl (fun ls hl => ?_)
  refine lv_iload_n hx hb d_M_nextEnds_4 rfl (lv_at hl 0 rfl) ?_
  refine lv_if_lt (tgt := 33) hx hb d_M_nextEnds_5 (by decide) (fun b3 => ?_) (fun b3 => ?_)
  · exact absurd b3 (by decide)
  · refine lv_aload_n hx hb d_M_nextEnds_8 rfl (lv_at hl 1 rfl) ?_
    refine va_get (D := (dC, dI)) (ci := 6) (v := .ref (q 14)) (C := R_M) (T := F_M) (N := 17) hx hb hts i_M hown hK hP 0 rfl rfl 14 (by decide) (hts _ k_491) (fun _ h9 => h9) rfl d_M_nextEnds_9 ?_
    refine lv_iload_n hx hb d_M_nextEnds_12 rfl (lv_at hl 0 rfl) ?_
    refine nx_iald hx hb hK hP 1 0 rfl rfl (k := 2) (v := nI (en 2)) (by omega) (by decide) rfl d_M_nextEnds_13 ?_
    refine lv_aload_n hx hb d_M_nextEnds_14 rfl (lv_at hl 1 rfl) ?_
    refine va_get (D := (dC, dI)) (ci := 6) (v := .int (nI F)) (C := R_M) (T := F_M) (N := 17) hx hb hts i_M hown hK hP 0 rfl rfl 3 (by decide) (hts _ k_480) (fun _ h9 => h9) rfl d_M_nextEnds_15 ?_
    refine lv_iload_n hx hb d_M_nextEnds_18 rfl (lv_at hl 2 rfl) ?_
    refine lv_iconst (v := nI 1) hx hb d_M_nextEnds_19 (by decide) ?_
    refine nx_isub hx hb d_M_nextEnds_20 (by omega) ?_
    refine lv_iload_n hx hb d_M_nextEnds_21 rfl (lv_at hl 0 rfl) ?_
    refine nx_isub hx hb d_M_nextEnds_22 (by omega) ?_
    refine nx_isub hx hb d_M_nextEnds_23 (by omega) ?_
    refine nx_icmp_ne (tgt := 33) hx hb d_M_nextEnds_24 (by decide) (by omega) (by omega) (fun h2 => ?_) (fun h2 => ?_)
    · refine lv_iload_n hx hb d_M_nextEnds_33 rfl (lv_at hl 0 rfl) ?_
      refine lv_if_ge (tgt := 39) hx hb d_M_nextEnds_34 (by decide) (fun e1 => ?_) (fun e1 => ?_)
      · refine lv_aload_n hx hb d_M_nextEnds_39 rfl (lv_at hl 1 rfl) ?_
        refine va_get (D := (dC, dI)) (ci := 6) (v := .ref (q 14)) (C := R_M) (T := F_M) (N := 17) hx hb hts i_M hown hK hP 0 rfl rfl 14 (by decide) (hts _ k_491) (fun _ h9 => h9) rfl d_M_nextEnds_40 ?_
        refine lv_iload_n hx hb d_M_nextEnds_43 rfl (lv_at hl 0 rfl) ?_
        refine lv_dup2_11 hx hb d_M_nextEnds_44 rfl rfl ?_
        refine nx_iald hx hb hK hP 1 0 rfl rfl (k := 2) (v := nI (en 2)) (by omega) (by decide) rfl d_M_nextEnds_45 ?_
        refine lv_iconst (v := nI 1) hx hb d_M_nextEnds_46 (by decide) ?_
        refine nx_iadd hx hb d_M_nextEnds_47 ?_
        refine nx_iast hx hb hK hP hD hS 1 0 rfl rfl (k := 2) (x := nI ((en 2) + 1)) (by omega) (by decide) d_M_nextEnds_48 (fun H locs hP hD hS => ?_)
        have hP : va_P (dC, dI) vwCl [(q 0, .inr (6, (mF q (nI 0) F nt ab be))), (q 14, .inl (cI, 4, .inl (upd (fun j => nI (en j)) (2) (nI ((en 2) + 1)))))] H := hP
        have hD : va_D A [(q 0, .inr (6, (mF q (nI 0) F nt ab be))), (q 14, .inl (cI, 4, .inl (upd (fun j => nI (en j)) (2) (nI ((en 2) + 1)))))] := hD
        rw [up_eq] at hP hD
        refine lv_iload_n hx hb d_M_nextEnds_49 rfl (lv_at hl 0 rfl) ?_
        refine lv_iconst (v := nI 1) hx hb d_M_nextEnds_50 (by decide) ?_
        refine nx_iadd hx hb d_M_nextEnds_51 ?_
        refine nx_ieq (b := 3) rfl ?_
        refine lv_istore_n (lv' := [(3, .int (nI 3)), (2, .int (nI 2)), (0, .ref (q 0)), (1, .int (nI 4))]) hx hb d_M_nextEnds_52 rfl hl (by decide) rfl (fun ls hl => ?_)
        refine lv_iload_n hx hb d_M_nextEnds_53 rfl (lv_at hl 0 rfl) ?_
        refine lv_iload_n hx hb d_M_nextEnds_54 rfl (lv_at hl 3 rfl) ?_
        refine lv_iconst (v := nI 1) hx hb d_M_nextEnds_55 (by decide) ?_
        refine nx_isub hx hb d_M_nextEnds_56 (by omega) ?_
        refine nx_icmp_ge (tgt := 82) hx hb d_M_nextEnds_57 (by decide) (by omega) (by omega) (fun g3 => ?_) (fun g3 => ?_)
        · refine lv_iconst (v := nI 1) hx hb d_M_nextEnds_82 (by decide) ?_
          exact W.zret hx hb hr (v := nI 1) (by decide) (fun t ht hW => ⟨⟨_, up en 2 ((en 2) + 1), rfl, Or.inl ⟨rfl, nxE_4_2 hF12 hv h2  rfl rfl rfl rfl⟩, by rw [ht]; exact hP, hD⟩, hS.F ht⟩) hS.2.2 d_M_nextEnds_83
        · exact absurd g3 (by omega)
      · exact absurd (by decide) e1
    · refine lv_iinc (v := nI 1) (lv' := [(2, .int (nI 1)), (0, .ref (q 0)), (1, .int (nI 4))]) hx hb d_M_nextEnds_27 hl (k := 0) rfl (by decide) (by decide) rfl (fun ls hl => ?_)
      refine lv_goto (tgt := 4) hx hb d_M_nextEnds_30 (by decide) ?_
      refine lv_iload_n hx hb d_M_nextEnds_4 rfl (lv_at hl 0 rfl) ?_
      refine lv_if_lt (tgt := 33) hx hb d_M_nextEnds_5 (by decide) (fun b2 => ?_) (fun b2 => ?_)
      · exact absurd b2 (by decide)
      · refine lv_aload_n hx hb d_M_nextEnds_8 rfl (lv_at hl 1 rfl) ?_
        refine va_get (D := (dC, dI)) (ci := 6) (v := .ref (q 14)) (C := R_M) (T := F_M) (N := 17) hx hb hts i_M hown hK hP 0 rfl rfl 14 (by decide) (hts _ k_491) (fun _ h9 => h9) rfl d_M_nextEnds_9 ?_
        refine lv_iload_n hx hb d_M_nextEnds_12 rfl (lv_at hl 0 rfl) ?_
        refine nx_iald hx hb hK hP 1 0 rfl rfl (k := 1) (v := nI (en 1)) (by omega) (by decide) rfl d_M_nextEnds_13 ?_
        refine lv_aload_n hx hb d_M_nextEnds_14 rfl (lv_at hl 1 rfl) ?_
        refine va_get (D := (dC, dI)) (ci := 6) (v := .int (nI F)) (C := R_M) (T := F_M) (N := 17) hx hb hts i_M hown hK hP 0 rfl rfl 3 (by decide) (hts _ k_480) (fun _ h9 => h9) rfl d_M_nextEnds_15 ?_
        refine lv_iload_n hx hb d_M_nextEnds_18 rfl (lv_at hl 2 rfl) ?_
        refine lv_iconst (v := nI 1) hx hb d_M_nextEnds_19 (by decide) ?_
        refine nx_isub hx hb d_M_nextEnds_20 (by omega) ?_
        refine lv_iload_n hx hb d_M_nextEnds_21 rfl (lv_at hl 0 rfl) ?_
        refine nx_isub hx hb d_M_nextEnds_22 (by omega) ?_
        refine nx_isub hx hb d_M_nextEnds_23 (by omega) ?_
        refine nx_icmp_ne (tgt := 33) hx hb d_M_nextEnds_24 (by decide) (by omega) (by omega) (fun h1 => ?_) (fun h1 => ?_)
        · refine lv_iload_n hx hb d_M_nextEnds_33 rfl (lv_at hl 0 rfl) ?_
          refine lv_if_ge (tgt := 39) hx hb d_M_nextEnds_34 (by decide) (fun e1 => ?_) (fun e1 => ?_)
          · refine lv_aload_n hx hb d_M_nextEnds_39 rfl (lv_at hl 1 rfl) ?_
            refine va_get (D := (dC, dI)) (ci := 6) (v := .ref (q 14)) (C := R_M) (T := F_M) (N := 17) hx hb hts i_M hown hK hP 0 rfl rfl 14 (by decide) (hts _ k_491) (fun _ h9 => h9) rfl d_M_nextEnds_40 ?_
            refine lv_iload_n hx hb d_M_nextEnds_43 rfl (lv_at hl 0 rfl) ?_
            refine lv_dup2_11 hx hb d_M_nextEnds_44 rfl rfl ?_
            refine nx_iald hx hb hK hP 1 0 rfl rfl (k := 1) (v := nI (en 1)) (by omega) (by decide) rfl d_M_nextEnds_45 ?_
            refine lv_iconst (v := nI 1) hx hb d_M_nextEnds_46 (by decide) ?_
            refine nx_iadd hx hb d_M_nextEnds_47 ?_
            refine nx_iast hx hb hK hP hD hS 1 0 rfl rfl (k := 1) (x := nI ((en 1) + 1)) (by omega) (by decide) d_M_nextEnds_48 (fun H locs hP hD hS => ?_)
            have hP : va_P (dC, dI) vwCl [(q 0, .inr (6, (mF q (nI 0) F nt ab be))), (q 14, .inl (cI, 4, .inl (upd (fun j => nI (en j)) (1) (nI ((en 1) + 1)))))] H := hP
            have hD : va_D A [(q 0, .inr (6, (mF q (nI 0) F nt ab be))), (q 14, .inl (cI, 4, .inl (upd (fun j => nI (en j)) (1) (nI ((en 1) + 1)))))] := hD
            rw [up_eq] at hP hD
            refine lv_iload_n hx hb d_M_nextEnds_49 rfl (lv_at hl 0 rfl) ?_
            refine lv_iconst (v := nI 1) hx hb d_M_nextEnds_50 (by decide) ?_
            refine nx_iadd hx hb d_M_nextEnds_51 ?_
            refine nx_ieq (b := 2) rfl ?_
            refine lv_istore_n (lv' := [(3, .int (nI 2)), (2, .int (nI 1)), (0, .ref (q 0)), (1, .int (nI 4))]) hx hb d_M_nextEnds_52 rfl hl (by decide) rfl (fun ls hl => ?_)
            refine lv_iload_n hx hb d_M_nextEnds_53 rfl (lv_at hl 0 rfl) ?_
            refine lv_iload_n hx hb d_M_nextEnds_54 rfl (lv_at hl 3 rfl) ?_
            refine lv_iconst (v := nI 1) hx hb d_M_nextEnds_55 (by decide) ?_
            refine nx_isub hx hb d_M_nextEnds_56 (by omega) ?_
            refine nx_icmp_ge (tgt := 82) hx hb d_M_nextEnds_57 (by decide) (by omega) (by omega) (fun g2 => ?_) (fun g2 => ?_)
            · exact absurd g2 (by omega)
            · refine lv_aload_n hx hb d_M_nextEnds_60 rfl (lv_at hl 2 rfl) ?_
              refine va_get (D := (dC, dI)) (ci := 6) (v := .ref (q 14)) (C := R_M) (T := F_M) (N := 17) hx hb hts i_M hown hK hP 0 rfl rfl 14 (by decide) (hts _ k_491) (fun _ h9 => h9) rfl d_M_nextEnds_61 ?_
              refine lv_iload_n hx hb d_M_nextEnds_64 rfl (lv_at hl 0 rfl) ?_
              refine lv_aload_n hx hb d_M_nextEnds_65 rfl (lv_at hl 2 rfl) ?_
              refine va_get (D := (dC, dI)) (ci := 6) (v := .ref (q 14)) (C := R_M) (T := F_M) (N := 17) hx hb hts i_M hown hK hP 0 rfl rfl 14 (by decide) (hts _ k_491) (fun _ h9 => h9) rfl d_M_nextEnds_66 ?_
              refine lv_iload_n hx hb d_M_nextEnds_69 rfl (lv_at hl 0 rfl) ?_
              refine lv_iconst (v := nI 1) hx hb d_M_nextEnds_70 (by decide) ?_
              refine nx_isub hx hb d_M_nextEnds_71 (by omega) ?_
              refine nx_ieq (b := 1) rfl ?_
              refine nx_iald hx hb hK hP 1 0 rfl rfl (k := 1) (v := nI ((up en 1 ((en 1) + 1)) 1)) (by omega) (by decide) rfl d_M_nextEnds_72 ?_
              refine lv_iconst (v := nI 1) hx hb d_M_nextEnds_73 (by decide) ?_
              refine nx_iadd hx hb d_M_nextEnds_74 ?_
              refine nx_iast hx hb hK hP hD hS 1 0 rfl rfl (k := 2) (x := nI (((up en 1 ((en 1) + 1)) 1) + 1)) (by omega) (by decide) d_M_nextEnds_75 (fun H locs hP hD hS => ?_)
              have hP : va_P (dC, dI) vwCl [(q 0, .inr (6, (mF q (nI 0) F nt ab be))), (q 14, .inl (cI, 4, .inl (upd (fun j => nI ((up en 1 ((en 1) + 1)) j)) (2) (nI (((up en 1 ((en 1) + 1)) 1) + 1)))))] H := hP
              have hD : va_D A [(q 0, .inr (6, (mF q (nI 0) F nt ab be))), (q 14, .inl (cI, 4, .inl (upd (fun j => nI ((up en 1 ((en 1) + 1)) j)) (2) (nI (((up en 1 ((en 1) + 1)) 1) + 1)))))] := hD
              rw [up_eq] at hP hD
              refine nx_inc (lv' := [(3, .int (nI (2 + 1))), (2, .int (nI 1)), (0, .ref (q 0)), (1, .int (nI 4))]) hx hb d_M_nextEnds_76 hl (k := 0) rfl (by decide) rfl (fun ls hl => ?_)
              have hl : lv_has ls 4 [(3, .int (nI 3)), (2, .int (nI 1)), (0, .ref (q 0)), (1, .int (nI 4))] := hl
              refine lv_goto (tgt := 53) hx hb d_M_nextEnds_79 (by decide) ?_
              refine lv_iload_n hx hb d_M_nextEnds_53 rfl (lv_at hl 0 rfl) ?_
              refine lv_iload_n hx hb d_M_nextEnds_54 rfl (lv_at hl 3 rfl) ?_
              refine lv_iconst (v := nI 1) hx hb d_M_nextEnds_55 (by decide) ?_
              refine nx_isub hx hb d_M_nextEnds_56 (by omega) ?_
              refine nx_icmp_ge (tgt := 82) hx hb d_M_nextEnds_57 (by decide) (by omega) (by omega) (fun g3 => ?_) (fun g3 => ?_)
              · refine lv_iconst (v := nI 1) hx hb d_M_nextEnds_82 (by decide) ?_
                exact W.zret hx hb hr (v := nI 1) (by decide) (fun t ht hW => ⟨⟨_, up (up en 1 ((en 1) + 1)) 2 (((up en 1 ((en 1) + 1)) 1) + 1), rfl, Or.inl ⟨rfl, nxE_4_1 hF12 hv h1 h2 rfl rfl rfl rfl⟩, by rw [ht]; exact hP, hD⟩, hS.F ht⟩) hS.2.2 d_M_nextEnds_83
              · exact absurd g3 (by omega)
          · exact absurd (by decide) e1
        · refine lv_iinc (v := nI 0) (lv' := [(2, .int (nI 0)), (0, .ref (q 0)), (1, .int (nI 4))]) hx hb d_M_nextEnds_27 hl (k := 0) rfl (by decide) (by decide) rfl (fun ls hl => ?_)
          refine lv_goto (tgt := 4) hx hb d_M_nextEnds_30 (by decide) ?_
          refine lv_iload_n hx hb d_M_nextEnds_4 rfl (lv_at hl 0 rfl) ?_
          refine lv_if_lt (tgt := 33) hx hb d_M_nextEnds_5 (by decide) (fun b1 => ?_) (fun b1 => ?_)
          · exact absurd b1 (by decide)
          · refine lv_aload_n hx hb d_M_nextEnds_8 rfl (lv_at hl 1 rfl) ?_
            refine va_get (D := (dC, dI)) (ci := 6) (v := .ref (q 14)) (C := R_M) (T := F_M) (N := 17) hx hb hts i_M hown hK hP 0 rfl rfl 14 (by decide) (hts _ k_491) (fun _ h9 => h9) rfl d_M_nextEnds_9 ?_
            refine lv_iload_n hx hb d_M_nextEnds_12 rfl (lv_at hl 0 rfl) ?_
            refine nx_iald hx hb hK hP 1 0 rfl rfl (k := 0) (v := nI (en 0)) (by omega) (by decide) rfl d_M_nextEnds_13 ?_
            refine lv_aload_n hx hb d_M_nextEnds_14 rfl (lv_at hl 1 rfl) ?_
            refine va_get (D := (dC, dI)) (ci := 6) (v := .int (nI F)) (C := R_M) (T := F_M) (N := 17) hx hb hts i_M hown hK hP 0 rfl rfl 3 (by decide) (hts _ k_480) (fun _ h9 => h9) rfl d_M_nextEnds_15 ?_
            refine lv_iload_n hx hb d_M_nextEnds_18 rfl (lv_at hl 2 rfl) ?_
            refine lv_iconst (v := nI 1) hx hb d_M_nextEnds_19 (by decide) ?_
            refine nx_isub hx hb d_M_nextEnds_20 (by omega) ?_
            refine lv_iload_n hx hb d_M_nextEnds_21 rfl (lv_at hl 0 rfl) ?_
            refine nx_isub hx hb d_M_nextEnds_22 (by omega) ?_
            refine nx_isub hx hb d_M_nextEnds_23 (by omega) ?_
            refine nx_icmp_ne (tgt := 33) hx hb d_M_nextEnds_24 (by decide) (by omega) (by omega) (fun h0 => ?_) (fun h0 => ?_)
            · refine lv_iload_n hx hb d_M_nextEnds_33 rfl (lv_at hl 0 rfl) ?_
              refine lv_if_ge (tgt := 39) hx hb d_M_nextEnds_34 (by decide) (fun e1 => ?_) (fun e1 => ?_)
              · refine lv_aload_n hx hb d_M_nextEnds_39 rfl (lv_at hl 1 rfl) ?_
                refine va_get (D := (dC, dI)) (ci := 6) (v := .ref (q 14)) (C := R_M) (T := F_M) (N := 17) hx hb hts i_M hown hK hP 0 rfl rfl 14 (by decide) (hts _ k_491) (fun _ h9 => h9) rfl d_M_nextEnds_40 ?_
                refine lv_iload_n hx hb d_M_nextEnds_43 rfl (lv_at hl 0 rfl) ?_
                refine lv_dup2_11 hx hb d_M_nextEnds_44 rfl rfl ?_
                refine nx_iald hx hb hK hP 1 0 rfl rfl (k := 0) (v := nI (en 0)) (by omega) (by decide) rfl d_M_nextEnds_45 ?_
                refine lv_iconst (v := nI 1) hx hb d_M_nextEnds_46 (by decide) ?_
                refine nx_iadd hx hb d_M_nextEnds_47 ?_
                refine nx_iast hx hb hK hP hD hS 1 0 rfl rfl (k := 0) (x := nI ((en 0) + 1)) (by omega) (by decide) d_M_nextEnds_48 (fun H locs hP hD hS => ?_)
                have hP : va_P (dC, dI) vwCl [(q 0, .inr (6, (mF q (nI 0) F nt ab be))), (q 14, .inl (cI, 4, .inl (upd (fun j => nI (en j)) (0) (nI ((en 0) + 1)))))] H := hP
                have hD : va_D A [(q 0, .inr (6, (mF q (nI 0) F nt ab be))), (q 14, .inl (cI, 4, .inl (upd (fun j => nI (en j)) (0) (nI ((en 0) + 1)))))] := hD
                rw [up_eq] at hP hD
                refine lv_iload_n hx hb d_M_nextEnds_49 rfl (lv_at hl 0 rfl) ?_
                refine lv_iconst (v := nI 1) hx hb d_M_nextEnds_50 (by decide) ?_
                refine nx_iadd hx hb d_M_nextEnds_51 ?_
                refine nx_ieq (b := 1) rfl ?_
                refine lv_istore_n (lv' := [(3, .int (nI 1)), (2, .int (nI 0)), (0, .ref (q 0)), (1, .int (nI 4))]) hx hb d_M_nextEnds_52 rfl hl (by decide) rfl (fun ls hl => ?_)
                refine lv_iload_n hx hb d_M_nextEnds_53 rfl (lv_at hl 0 rfl) ?_
                refine lv_iload_n hx hb d_M_nextEnds_54 rfl (lv_at hl 3 rfl) ?_
                refine lv_iconst (v := nI 1) hx hb d_M_nextEnds_55 (by decide) ?_
                refine nx_isub hx hb d_M_nextEnds_56 (by omega) ?_
                refine nx_icmp_ge (tgt := 82) hx hb d_M_nextEnds_57 (by decide) (by omega) (by omega) (fun g1 => ?_) (fun g1 => ?_)
                · exact absurd g1 (by omega)
                · refine lv_aload_n hx hb d_M_nextEnds_60 rfl (lv_at hl 2 rfl) ?_
                  refine va_get (D := (dC, dI)) (ci := 6) (v := .ref (q 14)) (C := R_M) (T := F_M) (N := 17) hx hb hts i_M hown hK hP 0 rfl rfl 14 (by decide) (hts _ k_491) (fun _ h9 => h9) rfl d_M_nextEnds_61 ?_
                  refine lv_iload_n hx hb d_M_nextEnds_64 rfl (lv_at hl 0 rfl) ?_
                  refine lv_aload_n hx hb d_M_nextEnds_65 rfl (lv_at hl 2 rfl) ?_
                  refine va_get (D := (dC, dI)) (ci := 6) (v := .ref (q 14)) (C := R_M) (T := F_M) (N := 17) hx hb hts i_M hown hK hP 0 rfl rfl 14 (by decide) (hts _ k_491) (fun _ h9 => h9) rfl d_M_nextEnds_66 ?_
                  refine lv_iload_n hx hb d_M_nextEnds_69 rfl (lv_at hl 0 rfl) ?_
                  refine lv_iconst (v := nI 1) hx hb d_M_nextEnds_70 (by decide) ?_
                  refine nx_isub hx hb d_M_nextEnds_71 (by omega) ?_
                  refine nx_ieq (b := 0) rfl ?_
                  refine nx_iald hx hb hK hP 1 0 rfl rfl (k := 0) (v := nI ((up en 0 ((en 0) + 1)) 0)) (by omega) (by decide) rfl d_M_nextEnds_72 ?_
                  refine lv_iconst (v := nI 1) hx hb d_M_nextEnds_73 (by decide) ?_
                  refine nx_iadd hx hb d_M_nextEnds_74 ?_
                  refine nx_iast hx hb hK hP hD hS 1 0 rfl rfl (k := 1) (x := nI (((up en 0 ((en 0) + 1)) 0) + 1)) (by omega) (by decide) d_M_nextEnds_75 (fun H locs hP hD hS => ?_)
                  have hP : va_P (dC, dI) vwCl [(q 0, .inr (6, (mF q (nI 0) F nt ab be))), (q 14, .inl (cI, 4, .inl (upd (fun j => nI ((up en 0 ((en 0) + 1)) j)) (1) (nI (((up en 0 ((en 0) + 1)) 0) + 1)))))] H := hP
                  have hD : va_D A [(q 0, .inr (6, (mF q (nI 0) F nt ab be))), (q 14, .inl (cI, 4, .inl (upd (fun j => nI ((up en 0 ((en 0) + 1)) j)) (1) (nI (((up en 0 ((en 0) + 1)) 0) + 1)))))] := hD
                  rw [up_eq] at hP hD
                  refine nx_inc (lv' := [(3, .int (nI (1 + 1))), (2, .int (nI 0)), (0, .ref (q 0)), (1, .int (nI 4))]) hx hb d_M_nextEnds_76 hl (k := 0) rfl (by decide) rfl (fun ls hl => ?_)
                  have hl : lv_has ls 4 [(3, .int (nI 2)), (2, .int (nI 0)), (0, .ref (q 0)), (1, .int (nI 4))] := hl
                  refine lv_goto (tgt := 53) hx hb d_M_nextEnds_79 (by decide) ?_
                  refine lv_iload_n hx hb d_M_nextEnds_53 rfl (lv_at hl 0 rfl) ?_
                  refine lv_iload_n hx hb d_M_nextEnds_54 rfl (lv_at hl 3 rfl) ?_
                  refine lv_iconst (v := nI 1) hx hb d_M_nextEnds_55 (by decide) ?_
                  refine nx_isub hx hb d_M_nextEnds_56 (by omega) ?_
                  refine nx_icmp_ge (tgt := 82) hx hb d_M_nextEnds_57 (by decide) (by omega) (by omega) (fun g2 => ?_) (fun g2 => ?_)
                  · exact absurd g2 (by omega)
                  · refine lv_aload_n hx hb d_M_nextEnds_60 rfl (lv_at hl 2 rfl) ?_
                    refine va_get (D := (dC, dI)) (ci := 6) (v := .ref (q 14)) (C := R_M) (T := F_M) (N := 17) hx hb hts i_M hown hK hP 0 rfl rfl 14 (by decide) (hts _ k_491) (fun _ h9 => h9) rfl d_M_nextEnds_61 ?_
                    refine lv_iload_n hx hb d_M_nextEnds_64 rfl (lv_at hl 0 rfl) ?_
                    refine lv_aload_n hx hb d_M_nextEnds_65 rfl (lv_at hl 2 rfl) ?_
                    refine va_get (D := (dC, dI)) (ci := 6) (v := .ref (q 14)) (C := R_M) (T := F_M) (N := 17) hx hb hts i_M hown hK hP 0 rfl rfl 14 (by decide) (hts _ k_491) (fun _ h9 => h9) rfl d_M_nextEnds_66 ?_
                    refine lv_iload_n hx hb d_M_nextEnds_69 rfl (lv_at hl 0 rfl) ?_
                    refine lv_iconst (v := nI 1) hx hb d_M_nextEnds_70 (by decide) ?_
                    refine nx_isub hx hb d_M_nextEnds_71 (by omega) ?_
                    refine nx_ieq (b := 1) rfl ?_
                    refine nx_iald hx hb hK hP 1 0 rfl rfl (k := 1) (v := nI ((up (up en 0 ((en 0) + 1)) 1 (((up en 0 ((en 0) + 1)) 0) + 1)) 1)) (by omega) (by decide) rfl d_M_nextEnds_72 ?_
                    refine lv_iconst (v := nI 1) hx hb d_M_nextEnds_73 (by decide) ?_
                    refine nx_iadd hx hb d_M_nextEnds_74 ?_
                    refine nx_iast hx hb hK hP hD hS 1 0 rfl rfl (k := 2) (x := nI (((up (up en 0 ((en 0) + 1)) 1 (((up en 0 ((en 0) + 1)) 0) + 1)) 1) + 1)) (by omega) (by decide) d_M_nextEnds_75 (fun H locs hP hD hS => ?_)
                    have hP : va_P (dC, dI) vwCl [(q 0, .inr (6, (mF q (nI 0) F nt ab be))), (q 14, .inl (cI, 4, .inl (upd (fun j => nI ((up (up en 0 ((en 0) + 1)) 1 (((up en 0 ((en 0) + 1)) 0) + 1)) j)) (2) (nI (((up (up en 0 ((en 0) + 1)) 1 (((up en 0 ((en 0) + 1)) 0) + 1)) 1) + 1)))))] H := hP
                    have hD : va_D A [(q 0, .inr (6, (mF q (nI 0) F nt ab be))), (q 14, .inl (cI, 4, .inl (upd (fun j => nI ((up (up en 0 ((en 0) + 1)) 1 (((up en 0 ((en 0) + 1)) 0) + 1)) j)) (2) (nI (((up (up en 0 ((en 0) + 1)) 1 (((up en 0 ((en 0) + 1)) 0) + 1)) 1) + 1)))))] := hD
                    rw [up_eq] at hP hD
                    refine nx_inc (lv' := [(3, .int (nI (2 + 1))), (2, .int (nI 0)), (0, .ref (q 0)), (1, .int (nI 4))]) hx hb d_M_nextEnds_76 hl (k := 0) rfl (by decide) rfl (fun ls hl => ?_)
                    have hl : lv_has ls 4 [(3, .int (nI 3)), (2, .int (nI 0)), (0, .ref (q 0)), (1, .int (nI 4))] := hl
                    refine lv_goto (tgt := 53) hx hb d_M_nextEnds_79 (by decide) ?_
                    refine lv_iload_n hx hb d_M_nextEnds_53 rfl (lv_at hl 0 rfl) ?_
                    refine lv_iload_n hx hb d_M_nextEnds_54 rfl (lv_at hl 3 rfl) ?_
                    refine lv_iconst (v := nI 1) hx hb d_M_nextEnds_55 (by decide) ?_
                    refine nx_isub hx hb d_M_nextEnds_56 (by omega) ?_
                    refine nx_icmp_ge (tgt := 82) hx hb d_M_nextEnds_57 (by decide) (by omega) (by omega) (fun g3 => ?_) (fun g3 => ?_)
                    · refine lv_iconst (v := nI 1) hx hb d_M_nextEnds_82 (by decide) ?_
                      exact W.zret hx hb hr (v := nI 1) (by decide) (fun t ht hW => ⟨⟨_, up (up (up en 0 ((en 0) + 1)) 1 (((up en 0 ((en 0) + 1)) 0) + 1)) 2 (((up (up en 0 ((en 0) + 1)) 1 (((up en 0 ((en 0) + 1)) 0) + 1)) 1) + 1), rfl, Or.inl ⟨rfl, nxE_4_0 hF12 hv h0 h1 h2 rfl rfl rfl rfl⟩, by rw [ht]; exact hP, hD⟩, hS.F ht⟩) hS.2.2 d_M_nextEnds_83
                    · exact absurd g3 (by omega)
              · exact absurd (by decide) e1
            · refine lv_iinc (v := (-1)) (lv' := [(2, .int ((-1))), (0, .ref (q 0)), (1, .int (nI 4))]) hx hb d_M_nextEnds_27 hl (k := 0) rfl (by decide) (by decide) rfl (fun ls hl => ?_)
              refine lv_goto (tgt := 4) hx hb d_M_nextEnds_30 (by decide) ?_
              refine lv_iload_n hx hb d_M_nextEnds_4 rfl (lv_at hl 0 rfl) ?_
              refine lv_if_lt (tgt := 33) hx hb d_M_nextEnds_5 (by decide) (fun b0 => ?_) (fun b0 => ?_)
              · refine lv_iload_n hx hb d_M_nextEnds_33 rfl (lv_at hl 0 rfl) ?_
                refine lv_if_ge (tgt := 39) hx hb d_M_nextEnds_34 (by decide) (fun e1 => ?_) (fun e1 => ?_)
                · exact absurd e1 (by decide)
                · refine lv_iconst (v := nI 0) hx hb d_M_nextEnds_37 (by decide) ?_
                  exact W.zret hx hb hr (v := nI 0) (by decide) (fun t ht hW => ⟨⟨_, en, rfl, Or.inr ⟨rfl, nxL_4 hv h0 h1 h2⟩, by rw [ht]; exact hP, hD⟩, hS.F ht⟩) hS.2.2 d_M_nextEnds_38
              · exact absurd (by decide) b0
set_option maxHeartbeats 4000000 in
set_option maxRecDepth 100000 in
theorem c_M_nextEnds (l : Launch) {dC : Nat → ClassId} {dI : Nat → Nat → Nat} {cI cL cT : ClassId} {sa : Nat → Nat} (sz : Nat) (q : Nat → Nat) (F nt : Nat) (ab be : Int64) (en : Nat → Nat) (k : Nat) (hF12 : F ≤ 12) (hk1 : 1 ≤ k) (hk4 : k ≤ 4) (hkF : k ≤ F) (hv : vs F k en) : Met l y_M_nextEnds (Cond.code y_M_nextEnds b_M_nextEnds 4 (some .boolean) :: gw) ({ frames := 0, cells := 0, slots := 0, locals := 0 } : Room) (wr dC dI cI cL cT sa [.ref (q 0), .int (nI k)] [(q 0, .inr (6, (mF q (nI 0) F nt ab be))), (q 14, .inl (cI, 4, .inl (fun j => nI (en j))))] sz) (va_Qi (fun r (u : Nat → Nat) => (r = nI 1 ∧ nxP F k en u) ∨ (r = nI 0 ∧ ∀ e, vs F k e → lexP k en e ∨ agr k en e)) (fun (u : Nat → Nat) => wB dC dI [(q 0, .inr (6, (mF q (nI 0) F nt ab be))), (q 14, .inl (cI, 4, .inl (fun j => nI (en j))))] [(q 0, .inr (6, (mF q (nI 0) F nt ab be))), (q 14, .inl (cI, 4, .inl (fun j => nI (u j))))] sz ()) (va_A [(q 0, .inr (6, (mF q (nI 0) F nt ab be))), (q 14, .inl (cI, 4, .inl (fun j => nI (en j))))] sz)) 0 0 (va_A [(q 0, .inr (6, (mF q (nI 0) F nt ab be))), (q 14, .inl (cI, 4, .inl (fun j => nI (en j))))] sz) := by
  rcases (show k = 1 ∨ k = 2 ∨ k = 3 ∨ k = 4 by omega) with rfl | rfl | rfl | rfl
  · exact c_M_nextEnds_1 l sz q F nt ab be en hF12 hkF hv
  · exact c_M_nextEnds_2 l sz q F nt ab be en hF12 hkF hv
  · exact c_M_nextEnds_3 l sz q F nt ab be en hF12 hkF hv
  · exact c_M_nextEnds_4 l sz q F nt ab be en hF12 hkF hv
section RDK
variable {TA TB xa xb : Nat → Nat} {F : Nat}
theorem rd_ok (h12 : F ≤ 12) (hTp : ∀ j, 0 < TB j) (hX : ∀ j, zok F j → xa j = TA j / Nat.gcd (TA j) (TB j) ∧ xb j = TB j / Nat.gcd (TA j) (TB j)) (hT : ∀ j, zok F j → TA j < 2 ^ 63 ∧ TB j < 2 ^ 50) {j : Nat} (h : zok F j) : j < 169 ∧ xa j < 2 ^ 63 ∧ xb j < 2 ^ 63 ∧ 0 < xb j := by
  obtain ⟨e1, e2⟩ := hX j h
  obtain ⟨t1, t2⟩ := hT j h
  have hg : 0 < Nat.gcd (TA j) (TB j) := Nat.gcd_pos_of_pos_right _ (hTp j)
  rw [e1, e2]
  refine ⟨(zok_lt h h12).2, Nat.lt_of_le_of_lt (Nat.div_le_self _ _) t1, Nat.lt_of_le_of_lt (Nat.div_le_self _ _) (by omega), Nat.div_pos (Nat.le_of_dvd (hTp j) (Nat.gcd_dvd_right _ _)) hg⟩
theorem rd_cmp (hTp : ∀ j, 0 < TB j) (hX : ∀ j, zok F j → xa j = TA j / Nat.gcd (TA j) (TB j) ∧ xb j = TB j / Nat.gcd (TA j) (TB j)) {x y : Nat} (hx : zok F x) (hy : zok F y) : ma_cmp (xa x * xb y) (xa y * xb x) = ma_cmp (TA x * TB y) (TA y * TB x) := by
  rw [(hX x hx).1, (hX x hx).2, (hX y hy).1, (hX y hy).2]
  exact ma_cmp_red (Nat.gcd_pos_of_pos_right _ (hTp x)) (Nat.gcd_pos_of_pos_right _ (hTp y)) (Nat.gcd_dvd_left _ _) (Nat.gcd_dvd_right _ _) (Nat.gcd_dvd_left _ _) (Nat.gcd_dvd_right _ _)
theorem oR_none {o : Option Nat} (h : oR o = -1) (hs : ∀ m, o = some m → m < 169) : o = none := by
  cases o with
  | none => rfl
  | some m =>
    have h1 : (nI m).toInt = (-1 : Int32).toInt := congrArg Int32.toInt h
    have := hs m rfl
    rw [nI_toInt (by omega)] at h1
    exact absurd h1 (by show ¬ (_ = (-1 : Int)); omega)
theorem oR_some {o : Option Nat} (h : ¬ oR o = -1) : ∃ m, o = some m := by
  cases o with
  | none => exact absurd rfl h
  | some m => exact ⟨m, rfl⟩
theorem lo_zok {z k : Nat} {en : Nat → Nat} {o : Option Nat} (h12 : F ≤ 12) (hv : vs F k en) (hz : z ≤ k) (h : isLo TA TB z en o) : ∀ m, o = some m → zok F m := fun m hm => by
  subst hm
  obtain ⟨⟨y, hy, e⟩, -⟩ := h
  rw [e]
  exact zok_vs hv (by omega) h12
end RDK
section
variable {p : Program} {l : Launch} {e : Env} {R : Room} {s : State} {m : MethodId} {args : Array Value} {below : List Frame} {meth : Method} {c : Code} {H : Heap} {locs : List Loc} {cells slots : Nat} {Q : State → Prop}
variable {dC : Nat → ClassId} {dI : Nat → Nat → Nat} {cI cL cT : ClassId} {sa : Nat → Nat}
set_option maxHeartbeats 4000000 in
set_option maxRecDepth 100000 in
theorem l_M_longest (hF : CallFix p m c b_M_longest 6 s args gw R_M) (hC : CT dC dI cI cL cT sa s) {q : Nat → Nat} {F nt k : Nat} {ab be : Int64} {xa xb TA TB en : Nat → Nat} (hF12 : F ≤ 12) (hTp : ∀ j, 0 < TB j) (hX : ∀ j, zok F j → xa j = TA j / Nat.gcd (TA j) (TB j) ∧ xb j = TB j / Nat.gcd (TA j) (TB j)) (hT : ∀ j, zok F j → TA j < 2 ^ 63 ∧ TB j < 2 ^ 50) (hk1 : 1 ≤ k) (hk4 : k ≤ 4) (hv : vs F k en) (hfr : 1 ≤ R.frames) (hlo : 40 ≤ R.locals) (hce : cells ≤ R.cells) (hsl : slots ≤ R.slots) (hP : va_P (dC, dI) vwCl [(q 0, .inr (6, (mF q (nI 0) F nt ab be))), (q 12, .inl (cL, 169, .inr (.inl (fun j => lN (xa j))))), (q 13, .inl (cL, 169, .inr (.inl (fun j => lN (xb j))))), (q 14, .inl (cI, 4, .inl (fun j => nI (en j))))] H) (kend : ∀ (mm : Nat) (ls : Array Slot), isL TA TB k en mm → W p l e R s m args below meth c H locs cells slots Q (F0 m 84 ls [.int (nI mm)])) : ∀ j z : Nat, k - z < j → z ≤ k → ∀ (o : Option Nat), isLo TA TB z en o → ∀ ls : Array Slot, lv_has ls 6 [(0, .ref (q 0)), (1, .int (nI k)), (2, .int (oR o)), (3, .int (nI (frm en z))), (4, .int (nI z))] → W p l e R s m args below meth c H locs cells slots Q (F0 m 7 ls []) := by
  obtain ⟨hx, hb, hml, hown, hts⟩ := id hF
  have hK := hC.1
  intro j
  induction j with
  | zero => intro i hj; omega
  | succ j ih =>
    intro z hj hz o hO ls hl
    have hoz := lo_zok hF12 hv hz hO
    refine lv_iload hx hb d_M_longest_7 (lv_at hl 4 rfl) ?_
    refine lv_iload_n hx hb d_M_longest_9 rfl (lv_at hl 1 rfl) ?_
    refine nx_icmp_ge (tgt := 83) hx hb d_M_longest_10 (by decide) (by omega) (by omega) (fun h1 => ?_) (fun h1 => ?_)
    · have hie : z = k := by omega
      rw [hie] at hO
      obtain ⟨m0, e0⟩ : ∃ m0, o = some m0 := by cases o with | none => exact absurd (show k = 0 from hO) (by omega) | some m0 => exact ⟨m0, rfl⟩
      subst e0
      have hl : lv_has ls 6 [(0, .ref (q 0)), (1, .int (nI k)), (2, .int (nI m0)), (3, .int (nI (frm en z))), (4, .int (nI z))] := hl
      refine lv_iload_n hx hb d_M_longest_83 rfl (lv_at hl 2 rfl) ?_
      exact kend m0 ls hO
    · have hzz : zok F (zi en z) := zok_vs hv (by omega) hF12
      obtain ⟨z1, z2, z3, z4⟩ := rd_ok hF12 hTp hX hT hzz
      refine lv_bipush (v := nI 13) hx hb d_M_longest_13 (by decide) ?_
      refine lv_iload_n hx hb d_M_longest_15 rfl (lv_at hl 3 rfl) ?_
      refine nx_imul hx hb d_M_longest_16 ?_
      refine lv_aload_n hx hb d_M_longest_17 rfl (lv_at hl 0 rfl) ?_
      refine va_get (D := (dC, dI)) (ci := 6) (v := .ref (q 14)) (C := R_M) (T := F_M) (N := 17) hx hb hts i_M hown hK hP 0 rfl rfl 14 (by decide) (hts _ k_491) (fun _ h9 => h9) rfl d_M_longest_18 ?_
      refine lv_iload hx hb d_M_longest_21 (lv_at hl 4 rfl) ?_
      refine nx_iald hx hb hK hP 3 0 rfl rfl (k := z) (v := nI (en z)) (by omega) (by decide) rfl d_M_longest_23 ?_
      refine nx_iadd hx hb d_M_longest_24 ?_
      refine nx_ieq (b := zi en z) (by unfold zi; omega) ?_
      refine lv_istore (lv' := [(5, .int (nI (zi en z))), (0, .ref (q 0)), (1, .int (nI k)), (2, .int (oR o)), (3, .int (nI (frm en z))), (4, .int (nI z))]) hx hb d_M_longest_25 hl (by decide) rfl (fun ls hl => ?_)
      refine lv_iload_n hx hb d_M_longest_27 rfl (lv_at hl 3 rfl) ?_
      refine lv_iconst (v := -1) hx hb d_M_longest_28 (by decide) ?_
      refine lv_icmp_eq (tgt := 64) hx hb d_M_longest_29 (by decide) (fun h2 => ?_) (fun h2 => ?_)
      · have ho0 := oR_none h2 (fun m hm => (zok_lt (hoz m hm) hF12).2)
        subst ho0
        have hz0 : z = 0 := hO
        subst hz0
        have hl : lv_has ls 6 [(5, .int (nI (zi en 0))), (0, .ref (q 0)), (1, .int (nI k)), (2, .int (oR none)), (3, .int (nI (frm en 0))), (4, .int (nI 0))] := hl
        refine lv_iload hx hb d_M_longest_64 (lv_at hl 0 rfl) ?_
        refine lv_istore_n (lv' := [(2, .int (nI (zi en 0))), (5, .int (nI (zi en 0))), (0, .ref (q 0)), (1, .int (nI k)), (3, .int (nI (frm en 0))), (4, .int (nI 0))]) hx hb d_M_longest_66 rfl hl (by decide) rfl (fun ls hl => ?_)
        refine lv_aload_n hx hb d_M_longest_67 rfl (lv_at hl 2 rfl) ?_
        refine va_get (D := (dC, dI)) (ci := 6) (v := .ref (q 14)) (C := R_M) (T := F_M) (N := 17) hx hb hts i_M hown hK hP 0 rfl rfl 14 (by decide) (hts _ k_491) (fun _ h9 => h9) rfl d_M_longest_68 ?_
        refine lv_iload hx hb d_M_longest_71 (lv_at hl 5 rfl) ?_
        refine nx_iald hx hb hK hP 3 0 rfl rfl (k := 0) (v := nI (en 0)) (by omega) (by decide) rfl d_M_longest_73 ?_
        refine lv_iconst (v := nI 1) hx hb d_M_longest_74 (by decide) ?_
        refine nx_iadd hx hb d_M_longest_75 ?_
        refine nx_ieq (frm_s (z := 0)).symm ?_
        refine lv_istore_n (lv' := [(3, .int (nI (frm en (0 + 1)))), (2, .int (nI (zi en 0))), (5, .int (nI (zi en 0))), (0, .ref (q 0)), (1, .int (nI k)), (4, .int (nI 0))]) hx hb d_M_longest_76 rfl hl (by decide) rfl (fun ls hl => ?_)
        refine nx_inc (lv' := [(4, .int (nI (0 + 1))), (3, .int (nI (frm en (0 + 1)))), (2, .int (nI (zi en 0))), (5, .int (nI (zi en 0))), (0, .ref (q 0)), (1, .int (nI k))]) hx hb d_M_longest_77 hl (k := 5) rfl (by decide) rfl (fun ls hl => ?_)
        refine lv_goto (tgt := 7) hx hb d_M_longest_80 (by decide) ?_
        exact ih (0 + 1) (by omega) (by omega) (some (zi en 0)) isL_1 ls (lv_sub hl [4, 5, 2, 1, 0] rfl)
      · obtain ⟨m0, e0⟩ := oR_some h2
        subst e0
        have hmz := hoz m0 rfl
        obtain ⟨m1, m2, m3, m4⟩ := rd_ok hF12 hTp hX hT hmz
        have hl : lv_has ls 6 [(5, .int (nI (zi en z))), (0, .ref (q 0)), (1, .int (nI k)), (2, .int (nI m0)), (3, .int (nI (frm en z))), (4, .int (nI z))] := hl
        refine lv_aload_n hx hb d_M_longest_32 rfl (lv_at hl 1 rfl) ?_
        refine va_get (D := (dC, dI)) (ci := 6) (v := .ref (q 12)) (C := R_M) (T := F_M) (N := 17) hx hb hts i_M hown hK hP 0 rfl rfl 12 (by decide) (hts _ k_489) (fun _ h9 => h9) rfl d_M_longest_33 ?_
        refine lv_iload hx hb d_M_longest_36 (lv_at hl 0 rfl) ?_
        refine nx_lald hx hb hK hP 1 1 rfl rfl (k := zi en z) (v := lN (xa (zi en z))) (by omega) (by decide) rfl d_M_longest_38 ?_
        refine lv_aload_n hx hb d_M_longest_39 rfl (lv_at hl 1 rfl) ?_
        refine va_get (D := (dC, dI)) (ci := 6) (v := .ref (q 13)) (C := R_M) (T := F_M) (N := 17) hx hb hts i_M hown hK hP 0 rfl rfl 13 (by decide) (hts _ k_490) (fun _ h9 => h9) rfl d_M_longest_40 ?_
        refine lv_iload hx hb d_M_longest_43 (lv_at hl 0 rfl) ?_
        refine nx_lald hx hb hK hP 2 1 rfl rfl (k := zi en z) (v := lN (xb (zi en z))) (by omega) (by decide) rfl d_M_longest_45 ?_
        refine lv_aload_n hx hb d_M_longest_46 rfl (lv_at hl 1 rfl) ?_
        refine va_get (D := (dC, dI)) (ci := 6) (v := .ref (q 12)) (C := R_M) (T := F_M) (N := 17) hx hb hts i_M hown hK hP 0 rfl rfl 12 (by decide) (hts _ k_489) (fun _ h9 => h9) rfl d_M_longest_47 ?_
        refine lv_iload_n hx hb d_M_longest_50 rfl (lv_at hl 3 rfl) ?_
        refine nx_lald hx hb hK hP 1 1 rfl rfl (k := m0) (v := lN (xa m0)) (by omega) (by decide) rfl d_M_longest_51 ?_
        refine lv_aload_n hx hb d_M_longest_52 rfl (lv_at hl 1 rfl) ?_
        refine va_get (D := (dC, dI)) (ci := 6) (v := .ref (q 13)) (C := R_M) (T := F_M) (N := 17) hx hb hts i_M hown hK hP 0 rfl rfl 13 (by decide) (hts _ k_490) (fun _ h9 => h9) rfl d_M_longest_53 ?_
        refine lv_iload_n hx hb d_M_longest_56 rfl (lv_at hl 3 rfl) ?_
        refine nx_lald hx hb hK hP 2 1 rfl rfl (k := m0) (v := lN (xb m0)) (by omega) (by decide) rfl d_M_longest_57 ?_
        refine ro_calli (va_runS (As := [.long (lN (xa (zi en z))), .long (lN (xb (zi en z))), .long (lN (xa m0)), .long (lN (xb m0))]) (rest := []) ⟨hx, hb, hml, hown, hts⟩ (c_M_order l (xa (zi en z)) (xb (zi en z)) (xa m0) (xb m0) z2 z3 m2 m3 z4 m4) (cwS 4 hts (gw_S k_607 k_605 k_606 k_6) rfl rfl rfl (by decide +kernel) ⟨Nat.le_trans (Nat.le_of_ble_eq_true rfl) hfr, Nat.le_trans (Nat.le_of_ble_eq_true rfl) hlo⟩) ⟨pr_blind, pr_at hC (fun k q h => by simp at h)⟩ rfl rfl hl.1 rfl (lv_room (Nat.le_of_ble_eq_true rfl)) d_M_longest_58 ⟨hce, hsl⟩) (fun r9 h9 => ?_)
        subst h9
        rw [rd_cmp hTp hX hzz hmz]
        refine lv_if_le (tgt := 67) hx hb d_M_longest_61 (by decide) (fun h3 => ?_) (fun h3 => ?_)
        · have hze : ze TA TB (zi en z) m0 := Nat.not_lt.mp (fun y => absurd ((kI_pos (ma_cmp_3 _ _)).mpr (ma_cmp_pos.mpr y)) (Int32.not_lt.mpr h3))
          refine lv_aload_n hx hb d_M_longest_67 rfl (lv_at hl 1 rfl) ?_
          refine va_get (D := (dC, dI)) (ci := 6) (v := .ref (q 14)) (C := R_M) (T := F_M) (N := 17) hx hb hts i_M hown hK hP 0 rfl rfl 14 (by decide) (hts _ k_491) (fun _ h9 => h9) rfl d_M_longest_68 ?_
          refine lv_iload hx hb d_M_longest_71 (lv_at hl 5 rfl) ?_
          refine nx_iald hx hb hK hP 3 0 rfl rfl (k := z) (v := nI (en z)) (by omega) (by decide) rfl d_M_longest_73 ?_
          refine lv_iconst (v := nI 1) hx hb d_M_longest_74 (by decide) ?_
          refine nx_iadd hx hb d_M_longest_75 ?_
          refine nx_ieq frm_s.symm ?_
          refine lv_istore_n (lv' := [(3, .int (nI (frm en (z + 1)))), (5, .int (nI (zi en z))), (0, .ref (q 0)), (1, .int (nI k)), (2, .int (nI m0)), (4, .int (nI z))]) hx hb d_M_longest_76 rfl hl (by decide) rfl (fun ls hl => ?_)
          refine nx_inc (lv' := [(4, .int (nI (z + 1))), (3, .int (nI (frm en (z + 1)))), (5, .int (nI (zi en z))), (0, .ref (q 0)), (1, .int (nI k)), (2, .int (nI m0))]) hx hb d_M_longest_77 hl (k := 5) rfl (by decide) rfl (fun ls hl => ?_)
          refine lv_goto (tgt := 7) hx hb d_M_longest_80 (by decide) ?_
          exact ih (z + 1) (by omega) (by omega) (some m0) (isL_same hTp hO hze) ls (lv_sub hl [3, 4, 5, 1, 0] rfl)
        · have hze : ze TA TB m0 (zi en z) := Nat.le_of_lt (ma_cmp_pos.mp ((kI_pos (ma_cmp_3 _ _)).mp (Int32.not_le.mp h3)))
          refine lv_iload hx hb d_M_longest_64 (lv_at hl 0 rfl) ?_
          refine lv_istore_n (lv' := [(2, .int (nI (zi en z))), (5, .int (nI (zi en z))), (0, .ref (q 0)), (1, .int (nI k)), (3, .int (nI (frm en z))), (4, .int (nI z))]) hx hb d_M_longest_66 rfl hl (by decide) rfl (fun ls hl => ?_)
          refine lv_aload_n hx hb d_M_longest_67 rfl (lv_at hl 2 rfl) ?_
          refine va_get (D := (dC, dI)) (ci := 6) (v := .ref (q 14)) (C := R_M) (T := F_M) (N := 17) hx hb hts i_M hown hK hP 0 rfl rfl 14 (by decide) (hts _ k_491) (fun _ h9 => h9) rfl d_M_longest_68 ?_
          refine lv_iload hx hb d_M_longest_71 (lv_at hl 5 rfl) ?_
          refine nx_iald hx hb hK hP 3 0 rfl rfl (k := z) (v := nI (en z)) (by omega) (by decide) rfl d_M_longest_73 ?_
          refine lv_iconst (v := nI 1) hx hb d_M_longest_74 (by decide) ?_
          refine nx_iadd hx hb d_M_longest_75 ?_
          refine nx_ieq frm_s.symm ?_
          refine lv_istore_n (lv' := [(3, .int (nI (frm en (z + 1)))), (2, .int (nI (zi en z))), (5, .int (nI (zi en z))), (0, .ref (q 0)), (1, .int (nI k)), (4, .int (nI z))]) hx hb d_M_longest_76 rfl hl (by decide) rfl (fun ls hl => ?_)
          refine nx_inc (lv' := [(4, .int (nI (z + 1))), (3, .int (nI (frm en (z + 1)))), (2, .int (nI (zi en z))), (5, .int (nI (zi en z))), (0, .ref (q 0)), (1, .int (nI k))]) hx hb d_M_longest_77 hl (k := 5) rfl (by decide) rfl (fun ls hl => ?_)
          refine lv_goto (tgt := 7) hx hb d_M_longest_80 (by decide) ?_
          exact ih (z + 1) (by omega) (by omega) (some (zi en z)) (isL_new hTp hO hze) ls (lv_sub hl [4, 5, 2, 1, 0] rfl)
end
set_option maxHeartbeats 4000000 in
set_option maxRecDepth 100000 in
theorem c_M_longest (l : Launch) {dC : Nat → ClassId} {dI : Nat → Nat → Nat} {cI cL cT : ClassId} {sa : Nat → Nat} (q : Nat → Nat) (F nt k : Nat) (ab be : Int64) (xa xb TA TB en : Nat → Nat) (hF12 : F ≤ 12) (hTp : ∀ j, 0 < TB j) (hX : ∀ j, zok F j → xa j = TA j / Nat.gcd (TA j) (TB j) ∧ xb j = TB j / Nat.gcd (TA j) (TB j)) (hT : ∀ j, zok F j → TA j < 2 ^ 63 ∧ TB j < 2 ^ 50) (hk1 : 1 ≤ k) (hk4 : k ≤ 4) (hv : vs F k en) : Met l y_M_longest (Cond.code y_M_longest b_M_longest 6 (some .int) :: gw) ({ frames := 1, cells := 0, slots := 0, locals := 40 } : Room) (pr dC dI cI cL cT sa [.ref (q 0), .int (nI k)] [(q 0, .inr (6, (mF q (nI 0) F nt ab be))), (q 12, .inl (cL, 169, .inr (.inl (fun j => lN (xa j))))), (q 13, .inl (cL, 169, .inr (.inl (fun j => lN (xb j))))), (q 14, .inl (cI, 4, .inl (fun j => nI (en j))))]) (vp_Si (fun r => ∃ mm, r = nI mm ∧ isL TA TB k en mm)) 0 0 (fun _ => False) := by
  refine Met.ofW (cc := b_M_longest) (maxL := 6) (ret := (some .int)) (by decide) rfl ?_
  intro p e s m args below meth c s₁ B hml hv
  obtain ⟨rfl, hC, hP⟩ := hv
  have hx := B.exec
  have hb := B.bytes
  have hr := B.returns
  have hts : ∀ w ∈ gw, w.before ([.ref (q 0), .int (nI k)] : List Value).toArray s = true := fun w hw => atoms_spec (ws := Cond.code y_M_longest b_M_longest 6 (some .int) :: gw) B.pre w (List.mem_cons_of_mem _ hw)
  have hown : s.vm.findClass R_M = some m.cls := findClass_of_methodNamed B.named
  have hlocks := B.notSynchronized
  have hK := hC.1
  have hfr : 1 ≤ (headSpec (Cond.code y_M_longest b_M_longest 6 (some .int) :: gw) ({ frames := 1, cells := 0, slots := 0, locals := 40 } : Room)).room.frames := Nat.le_refl _
  have hlo : 40 ≤ (headSpec (Cond.code y_M_longest b_M_longest 6 (some .int) :: gw) ({ frames := 1, cells := 0, slots := 0, locals := 40 } : Room)).room.locals := Nat.le_refl _
  have hce : 0 ≤ (headSpec (Cond.code y_M_longest b_M_longest 6 (some .int) :: gw) ({ frames := 1, cells := 0, slots := 0, locals := 40 } : Room)).room.cells := Nat.zero_le _
  have hsl : 0 ≤ (headSpec (Cond.code y_M_longest b_M_longest 6 (some .int) :: gw) ({ frames := 1, cells := 0, slots := 0, locals := 40 } : Room)).room.slots := Nat.zero_le _
  have hl := lv_entry ([.ref (q 0), .int (nI k)]) (n := 6) (Nat.le_of_ble_eq_true rfl)
  rw [lg_entry_eq]
  generalize (lg_sl ([.ref (q 0), .int (nI k)]) ++ List.replicate (6 - (lg_sl ([.ref (q 0), .int (nI k)])).length) Slot.unset).toArray = ls at hl ⊢
  have hl : lv_has ls 6 [(0, .ref (q 0)), (1, .int (nI k))] := hl
  refine lv_iconst (v := -1) hx hb d_M_longest_0 (by decide) ?_
  refine lv_istore_n (lv' := [(2, .int ((-1))), (0, .ref (q 0)), (1, .int (nI k))]) hx hb d_M_longest_1 rfl hl (by decide) rfl (fun ls hl => ?_)
  refine lv_iconst (v := nI 1) hx hb d_M_longest_2 (by decide) ?_
  refine lv_istore_n (lv' := [(3, .int (nI 1)), (2, .int ((-1))), (0, .ref (q 0)), (1, .int (nI k))]) hx hb d_M_longest_3 rfl hl (by decide) rfl (fun ls hl => ?_)
  refine lv_iconst (v := nI 0) hx hb d_M_longest_4 (by decide) ?_
  refine lv_istore (lv' := [(4, .int (nI 0)), (3, .int (nI 1)), (2, .int ((-1))), (0, .ref (q 0)), (1, .int (nI k))]) hx hb d_M_longest_5 hl (by decide) rfl (fun ls hl => ?_)
  refine l_M_longest ⟨hx, hb, hml, hown, hts⟩ hC hF12 hTp hX hT hk1 hk4 hv hfr hlo hce hsl hP (fun mm ls hmm => ?_) (k + 1) 0 (by omega) (by omega) none rfl ls (lv_sub hl [3, 4, 2, 1, 0] rfl)
  exact W.iret hx hb hr (fun t ht hW => ⟨_, rfl, ⟨mm, rfl, hmm⟩, ht⟩) (fun q h => by cases h) d_M_longest_84
theorem cp_up {en be : Nat → Nat} {z : Nat} : up (cp en be z) z (en z) = cp en be (z + 1) := by
  funext j
  unfold up cp
  by_cases h : j = z
  · subst h; simp
  · simp only [if_neg h]
    by_cases q : j < z
    · rw [if_pos q, if_pos (by omega)]
    · rw [if_neg q, if_neg (by omega)]
theorem cp_0 {en be : Nat → Nat} : cp en be 0 = be := by funext j; simp [cp]
def fil (en : Nat → Nat) (z : Nat) : Nat → Nat := fun t => if t < z then t + 1 else en t
theorem fil_0 {en : Nat → Nat} : fil en 0 = en := by funext j; simp [fil]
theorem fil_up {en : Nat → Nat} {z : Nat} : up (fil en z) z (z + 1) = fil en (z + 1) := by
  funext j
  unfold up fil
  by_cases h : j = z
  · subst h; simp
  · simp only [if_neg h]
    by_cases q : j < z
    · rw [if_pos q, if_pos (by omega)]
    · rw [if_neg q, if_neg (by omega)]
/-- the first split -/
def en0 (F k : Nat) (en : Nat → Nat) : Nat → Nat := up (fil en (k - 1)) (k - 1) F
theorem en0_lo {F k z : Nat} {en : Nat → Nat} (h : z + 1 < k) : en0 F k en z = z + 1 := by unfold en0; rw [up_n (by omega)]; unfold fil; rw [if_pos (by omega)]
theorem en0_hi {F k : Nat} {en : Nat → Nat} : en0 F k en (k - 1) = F := up_s
theorem en0_vs {F k : Nat} {en : Nat → Nat} (h1 : 1 ≤ k) (h2 : k ≤ F) : vs F k (en0 F k en) := by
  refine ⟨fun z hz => ?_, en0_hi⟩
  have hf : frm (en0 F k en) z = z + 1 := by
    unfold frm
    by_cases q : z = 0
    · simp [q]
    · rw [if_neg q, en0_lo (by omega)]; omega
  rw [hf]
  by_cases q : z + 1 < k
  · rw [en0_lo q]; exact Nat.le_refl _
  · rw [show z = k - 1 by omega, en0_hi]; omega
theorem vs_ge {F k : Nat} {e : Nat → Nat} (h : vs F k e) : ∀ z, z < k → z + 1 ≤ e z := by
  intro z
  induction z with
  | zero => intro hz; exact h.1 0 hz
  | succ z ih =>
    intro hz
    have h1 := ih (by omega)
    have h2 := h.1 (z + 1) hz
    rw [frm_s] at h2
    omega
theorem PA_first {F k : Nat} {en e : Nat → Nat} (h1 : 1 ≤ k) : ¬ PA F k k (en0 F k en) e := by
  rintro ⟨hv, j, hj, -, hlt⟩
  by_cases q : j + 1 < k
  · rw [en0_lo q] at hlt
    have := vs_ge hv j hj
    omega
  · rw [show j = k - 1 by omega, en0_hi] at hlt
    have := hv.2
    omega
section
variable {p : Program} {l : Launch} {e : Env} {R : Room} {s : State} {m : MethodId} {args : Array Value} {below : List Frame} {meth : Method} {c : Code} {cells slots : Nat} {Q : State → Prop} {A : Nat → Prop}
variable {dC : Nat → ClassId} {dI : Nat → Nat → Nat} {cI cL cT : ClassId} {sa : Nat → Nat}
set_option maxHeartbeats 4000000 in
set_option maxRecDepth 100000 in
theorem l_M_measI (hF : CallFix p m c b_M_split 8 s args gw R_M) (hC : CT dC dI cI cL cT sa s) {q : Nat → Nat} {F nt : Nat} {pp hh rm sd dr pe en bs : Nat → Nat} {t0 k jj : Nat} (hF12 : F ≤ 12) (hU2 : sm pp 1 F ≤ 200) (hhh : ∀ k, k < F → hh (1 + k) ≤ 1200) (ht6 : t0 < 6) (hrm : 1 ≤ rm t0 ∧ rm t0 ≤ 5) (hsd : 1 ≤ sd t0 ∧ sd t0 ≤ 100) (hdr : dr t0 ≤ 30) (hpe : pe t0 ≤ 10) (hfr : 5 ≤ R.frames) (hlo : 200 ≤ R.locals) (hce : cells ≤ R.cells) (hsl : slots ≤ R.slots) (hA : ∀ q : Nat, s.heap.size ≤ q → A q) {fr : Nat} (hf1 : 1 ≤ fr) (hfF : fr ≤ F) (kend : ∀ (xa xb : Nat → Nat) (ab be : Int64), isM (fun j => (zA pp hh (rm t0) (sd t0) (dr t0) (pe t0)) j / Nat.gcd ((zA pp hh (rm t0) (sd t0) (dr t0) (pe t0)) j) ((zB pp (rm t0) (sd t0)) j)) (fun j => (zB pp (rm t0) (sd t0)) j / Nat.gcd ((zA pp hh (rm t0) (sd t0) (dr t0) (pe t0)) j) ((zB pp (rm t0) (sd t0)) j)) xa xb F fr (F + 1) →  ∀ (H : Heap) (locs : List Loc) (ls : Array Slot), va_P (dC, dI) vwCl [(q 0, .inr (6, (mF q (nI 0) F nt ab be))), (q 1, .inl (cI, 13, .inl (fun j => nI (pp j)))), (q 2, .inl (cI, 13, .inl (fun j => nI (hh j)))), (q 4, .inl (cI, 6, .inl (fun j => nI (rm j)))), (q 5, .inl (cI, 6, .inl (fun j => nI (sd j)))), (q 6, .inl (cI, 6, .inl (fun j => nI (dr j)))), (q 7, .inl (cI, 6, .inl (fun j => nI (pe j)))), (q 12, .inl (cL, 169, .inr (.inl (fun j => lN (xa j))))), (q 13, .inl (cL, 169, .inr (.inl (fun j => lN (xb j))))), (q 14, .inl (cI, 4, .inl (fun j => nI (en j)))), (q 15, .inl (cI, 4, .inl (fun j => nI (bs j))))] H → va_D A [(q 0, .inr (6, (mF q (nI 0) F nt ab be))), (q 1, .inl (cI, 13, .inl (fun j => nI (pp j)))), (q 2, .inl (cI, 13, .inl (fun j => nI (hh j)))), (q 4, .inl (cI, 6, .inl (fun j => nI (rm j)))), (q 5, .inl (cI, 6, .inl (fun j => nI (sd j)))), (q 6, .inl (cI, 6, .inl (fun j => nI (dr j)))), (q 7, .inl (cI, 6, .inl (fun j => nI (pe j)))), (q 12, .inl (cL, 169, .inr (.inl (fun j => lN (xa j))))), (q 13, .inl (cL, 169, .inr (.inl (fun j => lN (xb j))))), (q 14, .inl (cI, 4, .inl (fun j => nI (en j)))), (q 15, .inl (cI, 4, .inl (fun j => nI (bs j))))] → va_S A s.heap H locs → lv_has ls 8 [(0, .ref (q 0)), (1, .int (nI t0)), (2, .int (nI k)), (3, .int (nI jj)), (4, .int (nI fr))] → W p l e R s m args below meth c H locs cells slots Q (F0 m 138 ls [])) : ∀ j to : Nat, F + 1 - to < j → fr ≤ to → to ≤ F + 1 → ∀ (xa xb : Nat → Nat) (ab be : Int64), isM (fun j => (zA pp hh (rm t0) (sd t0) (dr t0) (pe t0)) j / Nat.gcd ((zA pp hh (rm t0) (sd t0) (dr t0) (pe t0)) j) ((zB pp (rm t0) (sd t0)) j)) (fun j => (zB pp (rm t0) (sd t0)) j / Nat.gcd ((zA pp hh (rm t0) (sd t0) (dr t0) (pe t0)) j) ((zB pp (rm t0) (sd t0)) j)) xa xb F fr to →  ∀ (H : Heap) (locs : List Loc) (ls : Array Slot), va_P (dC, dI) vwCl [(q 0, .inr (6, (mF q (nI 0) F nt ab be))), (q 1, .inl (cI, 13, .inl (fun j => nI (pp j)))), (q 2, .inl (cI, 13, .inl (fun j => nI (hh j)))), (q 4, .inl (cI, 6, .inl (fun j => nI (rm j)))), (q 5, .inl (cI, 6, .inl (fun j => nI (sd j)))), (q 6, .inl (cI, 6, .inl (fun j => nI (dr j)))), (q 7, .inl (cI, 6, .inl (fun j => nI (pe j)))), (q 12, .inl (cL, 169, .inr (.inl (fun j => lN (xa j))))), (q 13, .inl (cL, 169, .inr (.inl (fun j => lN (xb j))))), (q 14, .inl (cI, 4, .inl (fun j => nI (en j)))), (q 15, .inl (cI, 4, .inl (fun j => nI (bs j))))] H → va_D A [(q 0, .inr (6, (mF q (nI 0) F nt ab be))), (q 1, .inl (cI, 13, .inl (fun j => nI (pp j)))), (q 2, .inl (cI, 13, .inl (fun j => nI (hh j)))), (q 4, .inl (cI, 6, .inl (fun j => nI (rm j)))), (q 5, .inl (cI, 6, .inl (fun j => nI (sd j)))), (q 6, .inl (cI, 6, .inl (fun j => nI (dr j)))), (q 7, .inl (cI, 6, .inl (fun j => nI (pe j)))), (q 12, .inl (cL, 169, .inr (.inl (fun j => lN (xa j))))), (q 13, .inl (cL, 169, .inr (.inl (fun j => lN (xb j))))), (q 14, .inl (cI, 4, .inl (fun j => nI (en j)))), (q 15, .inl (cI, 4, .inl (fun j => nI (bs j))))] → va_S A s.heap H locs → lv_has ls 8 [(0, .ref (q 0)), (1, .int (nI t0)), (2, .int (nI k)), (3, .int (nI jj)), (4, .int (nI fr)), (5, .int (nI to))] → W p l e R s m args below meth c H locs cells slots Q (F0 m 80 ls []) := by
  obtain ⟨hx, hb, hml, hown, hts⟩ := id hF
  have hK := hC.1
  intro j
  induction j with
  | zero => intro i hj; omega
  | succ j ih =>
    intro to hj hft hto xa xb ab be hM H locs ls hP hD hS hl
    refine lv_iload hx hb d_M_split_80 (lv_at hl 5 rfl) ?_
    refine lv_aload_n hx hb d_M_split_82 rfl (lv_at hl 0 rfl) ?_
    refine va_get (D := (dC, dI)) (ci := 6) (v := .int (nI F)) (C := R_M) (T := F_M) (N := 17) hx hb hts i_M hown hK hP 0 rfl rfl 3 (by decide) (hts _ k_480) (fun _ h9 => h9) rfl d_M_split_83 ?_
    refine nx_icmp_gt (tgt := 138) hx hb d_M_split_86 (by decide) (by omega) (by omega) (fun h1 => ?_) (fun h1 => ?_)
    · have hie : to = F + 1 := by omega
      subst hie
      exact kend xa xb ab be hM H locs ls hP hD hS (lv_sub hl [0, 1, 2, 3, 4] rfl)
    · obtain ⟨n, hn⟩ : ∃ n, to + 1 = fr + n := ⟨to + 1 - fr, by omega⟩
      have hU3 : sm pp fr n ≤ 200 := Nat.le_trans (sm_zone hf1 (by omega)) hU2
      have hh3 := hh_zone hhh hf1 (n := n) (by omega)
      refine lv_aload_n hx hb d_M_split_89 rfl (lv_at hl 0 rfl) ?_
      refine lv_iload_n hx hb d_M_split_90 rfl (lv_at hl 1 rfl) ?_
      refine lv_iload hx hb d_M_split_91 (lv_at hl 4 rfl) ?_
      refine lv_iload hx hb d_M_split_93 (lv_at hl 5 rfl) ?_
      have hPc := hP.sub (ws' := [(q 0, .inr (6, (mF q (nI 0) F nt ab be))), (q 1, .inl (cI, 13, .inl (fun j => nI (pp j)))), (q 2, .inl (cI, 13, .inl (fun j => nI (hh j)))), (q 4, .inl (cI, 6, .inl (fun j => nI (rm j)))), (q 5, .inl (cI, 6, .inl (fun j => nI (sd j)))), (q 6, .inl (cI, 6, .inl (fun j => nI (dr j)))), (q 7, .inl (cI, 6, .inl (fun j => nI (pe j))))]) [0, 1, 2, 3, 4, 5, 6] rfl
      have hDc := hD.sub (ws' := [(q 0, .inr (6, (mF q (nI 0) F nt ab be))), (q 1, .inl (cI, 13, .inl (fun j => nI (pp j)))), (q 2, .inl (cI, 13, .inl (fun j => nI (hh j)))), (q 4, .inl (cI, 6, .inl (fun j => nI (rm j)))), (q 5, .inl (cI, 6, .inl (fun j => nI (sd j)))), (q 6, .inl (cI, 6, .inl (fun j => nI (dr j)))), (q 7, .inl (cI, 6, .inl (fun j => nI (pe j))))]) [0, 1, 2, 3, 4, 5, 6] (by decide) rfl
      have hFc := va_free (wc := [(q 0, .inr (6, (mF q (nI 0) F nt ab be))), (q 1, .inl (cI, 13, .inl (fun j => nI (pp j)))), (q 2, .inl (cI, 13, .inl (fun j => nI (hh j)))), (q 4, .inl (cI, 6, .inl (fun j => nI (rm j)))), (q 5, .inl (cI, 6, .inl (fun j => nI (sd j)))), (q 6, .inl (cI, 6, .inl (fun j => nI (dr j)))), (q 7, .inl (cI, 6, .inl (fun j => nI (pe j))))]) hD hS hA [0, 1, 2, 3, 4, 5, 6] rfl
      refine va_callv (va_runV (As := [.int (nI t0), .int (nI fr), .int (nI to)]) (rest := []) ⟨hx, hb, hml, hown, hts⟩ (c_M_reckonTrip l _ q (nI 0) F nt ab be pp hh rm sd dr pe t0 fr to n ht6 hn (by omega) (by omega) hU3 hh3 hrm hsd hdr hpe) (cwV 3 hts (gw_V k_599 k_596 k_598 ks_M_reckonTrip k_6) rfl rfl rfl (by decide +kernel) ⟨Nat.le_trans (Nat.le_of_ble_eq_true rfl) hfr, Nat.le_trans (Nat.le_of_ble_eq_true rfl) hlo⟩) ⟨wr_blind, va_recv hK hP (ci := 6) (q0 := 0) rfl rfl, wr_at hC hPc hDc⟩ rfl rfl hl.1 rfl (lv_room (Nat.le_of_ble_eq_true rfl)) d_M_split_95 ⟨hce, hsl⟩) hS (fun q _ h => hFc q h) hFc (fun u t H1 locs ht hvm hw hB hz1 hk1 hS => ?_)
      obtain ⟨hP1, hD1⟩ := hB
      rw [ht] at hP1
      obtain ⟨hP, hD⟩ := va_join (wr := [(q 12, .inl (cL, 169, .inr (.inl (fun j => lN (xa j))))), (q 13, .inl (cL, 169, .inr (.inl (fun j => lN (xb j))))), (q 14, .inl (cI, 4, .inl (fun j => nI (en j)))), (q 15, .inl (cI, 4, .inl (fun j => nI (bs j))))]) (w1 := [(q 0, .inr (6, (mF q (nI 0) F nt (lN ((tA pp hh fr n (rm t0) (sd t0) (dr t0) (pe t0)) / Nat.gcd (tA pp hh fr n (rm t0) (sd t0) (dr t0) (pe t0)) (tB pp fr n (rm t0) (sd t0)))) (lN ((tB pp fr n (rm t0) (sd t0)) / Nat.gcd (tA pp hh fr n (rm t0) (sd t0) (dr t0) (pe t0)) (tB pp fr n (rm t0) (sd t0))))))), (q 1, .inl (cI, 13, .inl (fun j => nI (pp j)))), (q 2, .inl (cI, 13, .inl (fun j => nI (hh j)))), (q 4, .inl (cI, 6, .inl (fun j => nI (rm j)))), (q 5, .inl (cI, 6, .inl (fun j => nI (sd j)))), (q 6, .inl (cI, 6, .inl (fun j => nI (dr j)))), (q 7, .inl (cI, 6, .inl (fun j => nI (pe j))))]) hP hD [0, 1, 2, 3, 4, 5, 6] [7, 8, 9, 10] rfl rfl (by decide) (by decide) hk1 hFc hP1 hD1
      generalize H1 = H at hP hS ⊢
      have hP := hP.sub (ws' := [(q 0, .inr (6, (mF q (nI 0) F nt (lN ((tA pp hh fr n (rm t0) (sd t0) (dr t0) (pe t0)) / Nat.gcd (tA pp hh fr n (rm t0) (sd t0) (dr t0) (pe t0)) (tB pp fr n (rm t0) (sd t0)))) (lN ((tB pp fr n (rm t0) (sd t0)) / Nat.gcd (tA pp hh fr n (rm t0) (sd t0) (dr t0) (pe t0)) (tB pp fr n (rm t0) (sd t0))))))), (q 1, .inl (cI, 13, .inl (fun j => nI (pp j)))), (q 2, .inl (cI, 13, .inl (fun j => nI (hh j)))), (q 4, .inl (cI, 6, .inl (fun j => nI (rm j)))), (q 5, .inl (cI, 6, .inl (fun j => nI (sd j)))), (q 6, .inl (cI, 6, .inl (fun j => nI (dr j)))), (q 7, .inl (cI, 6, .inl (fun j => nI (pe j)))), (q 12, .inl (cL, 169, .inr (.inl (fun j => lN (xa j))))), (q 13, .inl (cL, 169, .inr (.inl (fun j => lN (xb j))))), (q 14, .inl (cI, 4, .inl (fun j => nI (en j)))), (q 15, .inl (cI, 4, .inl (fun j => nI (bs j))))]) [4, 5, 6, 7, 8, 9, 10, 0, 1, 2, 3] rfl
      have hD := hD.sub (ws' := [(q 0, .inr (6, (mF q (nI 0) F nt (lN ((tA pp hh fr n (rm t0) (sd t0) (dr t0) (pe t0)) / Nat.gcd (tA pp hh fr n (rm t0) (sd t0) (dr t0) (pe t0)) (tB pp fr n (rm t0) (sd t0)))) (lN ((tB pp fr n (rm t0) (sd t0)) / Nat.gcd (tA pp hh fr n (rm t0) (sd t0) (dr t0) (pe t0)) (tB pp fr n (rm t0) (sd t0))))))), (q 1, .inl (cI, 13, .inl (fun j => nI (pp j)))), (q 2, .inl (cI, 13, .inl (fun j => nI (hh j)))), (q 4, .inl (cI, 6, .inl (fun j => nI (rm j)))), (q 5, .inl (cI, 6, .inl (fun j => nI (sd j)))), (q 6, .inl (cI, 6, .inl (fun j => nI (dr j)))), (q 7, .inl (cI, 6, .inl (fun j => nI (pe j)))), (q 12, .inl (cL, 169, .inr (.inl (fun j => lN (xa j))))), (q 13, .inl (cL, 169, .inr (.inl (fun j => lN (xb j))))), (q 14, .inl (cI, 4, .inl (fun j => nI (en j)))), (q 15, .inl (cI, 4, .inl (fun j => nI (bs j))))]) [4, 5, 6, 7, 8, 9, 10, 0, 1, 2, 3] (by decide) rfl
      refine lv_aload_n hx hb d_M_split_98 rfl (lv_at hl 0 rfl) ?_
      refine va_get (D := (dC, dI)) (ci := 6) (v := .ref (q 12)) (C := R_M) (T := F_M) (N := 17) hx hb hts i_M hown hK hP 0 rfl rfl 12 (by decide) (hts _ k_489) (fun _ h9 => h9) rfl d_M_split_99 ?_
      refine lv_bipush (v := nI 13) hx hb d_M_split_102 (by decide) ?_
      refine lv_iload hx hb d_M_split_104 (lv_at hl 4 rfl) ?_
      refine nx_imul hx hb d_M_split_106 ?_
      refine lv_iload hx hb d_M_split_107 (lv_at hl 5 rfl) ?_
      refine nx_iadd hx hb d_M_split_109 ?_
      refine nx_ieq (b := fr * 13 + to) (by omega) ?_
      refine lv_aload_n hx hb d_M_split_110 rfl (lv_at hl 0 rfl) ?_
      refine va_get (D := (dC, dI)) (ci := 6) (v := .long (lN ((tA pp hh fr n (rm t0) (sd t0) (dr t0) (pe t0)) / Nat.gcd (tA pp hh fr n (rm t0) (sd t0) (dr t0) (pe t0)) (tB pp fr n (rm t0) (sd t0))))) (C := R_M) (T := F_M) (N := 17) hx hb hts i_M hown hK hP 0 rfl rfl 10 (by decide) (hts _ k_487) (fun _ h9 => h9) rfl d_M_split_111 ?_
      refine nx_last hx hb hK hP hD hS 7 1 rfl rfl (k := fr * 13 + to) (x := lN ((tA pp hh fr n (rm t0) (sd t0) (dr t0) (pe t0)) / Nat.gcd (tA pp hh fr n (rm t0) (sd t0) (dr t0) (pe t0)) (tB pp fr n (rm t0) (sd t0)))) (by omega) (by decide) d_M_split_114 (fun H locs hP hD hS => ?_)
      have hP : va_P (dC, dI) vwCl [(q 0, .inr (6, (mF q (nI 0) F nt (lN ((tA pp hh fr n (rm t0) (sd t0) (dr t0) (pe t0)) / Nat.gcd (tA pp hh fr n (rm t0) (sd t0) (dr t0) (pe t0)) (tB pp fr n (rm t0) (sd t0)))) (lN ((tB pp fr n (rm t0) (sd t0)) / Nat.gcd (tA pp hh fr n (rm t0) (sd t0) (dr t0) (pe t0)) (tB pp fr n (rm t0) (sd t0))))))), (q 1, .inl (cI, 13, .inl (fun j => nI (pp j)))), (q 2, .inl (cI, 13, .inl (fun j => nI (hh j)))), (q 4, .inl (cI, 6, .inl (fun j => nI (rm j)))), (q 5, .inl (cI, 6, .inl (fun j => nI (sd j)))), (q 6, .inl (cI, 6, .inl (fun j => nI (dr j)))), (q 7, .inl (cI, 6, .inl (fun j => nI (pe j)))), (q 12, .inl (cL, 169, .inr (.inl (vp_updL (fun j => lN (xa j)) (fr * 13 + to) (lN ((tA pp hh fr n (rm t0) (sd t0) (dr t0) (pe t0)) / Nat.gcd (tA pp hh fr n (rm t0) (sd t0) (dr t0) (pe t0)) (tB pp fr n (rm t0) (sd t0)))))))), (q 13, .inl (cL, 169, .inr (.inl (fun j => lN (xb j))))), (q 14, .inl (cI, 4, .inl (fun j => nI (en j)))), (q 15, .inl (cI, 4, .inl (fun j => nI (bs j))))] H := hP
      have hD : va_D A [(q 0, .inr (6, (mF q (nI 0) F nt (lN ((tA pp hh fr n (rm t0) (sd t0) (dr t0) (pe t0)) / Nat.gcd (tA pp hh fr n (rm t0) (sd t0) (dr t0) (pe t0)) (tB pp fr n (rm t0) (sd t0)))) (lN ((tB pp fr n (rm t0) (sd t0)) / Nat.gcd (tA pp hh fr n (rm t0) (sd t0) (dr t0) (pe t0)) (tB pp fr n (rm t0) (sd t0))))))), (q 1, .inl (cI, 13, .inl (fun j => nI (pp j)))), (q 2, .inl (cI, 13, .inl (fun j => nI (hh j)))), (q 4, .inl (cI, 6, .inl (fun j => nI (rm j)))), (q 5, .inl (cI, 6, .inl (fun j => nI (sd j)))), (q 6, .inl (cI, 6, .inl (fun j => nI (dr j)))), (q 7, .inl (cI, 6, .inl (fun j => nI (pe j)))), (q 12, .inl (cL, 169, .inr (.inl (vp_updL (fun j => lN (xa j)) (fr * 13 + to) (lN ((tA pp hh fr n (rm t0) (sd t0) (dr t0) (pe t0)) / Nat.gcd (tA pp hh fr n (rm t0) (sd t0) (dr t0) (pe t0)) (tB pp fr n (rm t0) (sd t0)))))))), (q 13, .inl (cL, 169, .inr (.inl (fun j => lN (xb j))))), (q 14, .inl (cI, 4, .inl (fun j => nI (en j)))), (q 15, .inl (cI, 4, .inl (fun j => nI (bs j))))] := hD
      rw [up_eqL] at hP hD
      refine lv_aload_n hx hb d_M_split_115 rfl (lv_at hl 0 rfl) ?_
      refine va_get (D := (dC, dI)) (ci := 6) (v := .ref (q 13)) (C := R_M) (T := F_M) (N := 17) hx hb hts i_M hown hK hP 0 rfl rfl 13 (by decide) (hts _ k_490) (fun _ h9 => h9) rfl d_M_split_116 ?_
      refine lv_bipush (v := nI 13) hx hb d_M_split_119 (by decide) ?_
      refine lv_iload hx hb d_M_split_121 (lv_at hl 4 rfl) ?_
      refine nx_imul hx hb d_M_split_123 ?_
      refine lv_iload hx hb d_M_split_124 (lv_at hl 5 rfl) ?_
      refine nx_iadd hx hb d_M_split_126 ?_
      refine nx_ieq (b := fr * 13 + to) (by omega) ?_
      refine lv_aload_n hx hb d_M_split_127 rfl (lv_at hl 0 rfl) ?_
      refine va_get (D := (dC, dI)) (ci := 6) (v := .long (lN ((tB pp fr n (rm t0) (sd t0)) / Nat.gcd (tA pp hh fr n (rm t0) (sd t0) (dr t0) (pe t0)) (tB pp fr n (rm t0) (sd t0))))) (C := R_M) (T := F_M) (N := 17) hx hb hts i_M hown hK hP 0 rfl rfl 11 (by decide) (hts _ k_488) (fun _ h9 => h9) rfl d_M_split_128 ?_
      refine nx_last hx hb hK hP hD hS 8 1 rfl rfl (k := fr * 13 + to) (x := lN ((tB pp fr n (rm t0) (sd t0)) / Nat.gcd (tA pp hh fr n (rm t0) (sd t0) (dr t0) (pe t0)) (tB pp fr n (rm t0) (sd t0)))) (by omega) (by decide) d_M_split_131 (fun H locs hP hD hS => ?_)
      have hP : va_P (dC, dI) vwCl [(q 0, .inr (6, (mF q (nI 0) F nt (lN ((tA pp hh fr n (rm t0) (sd t0) (dr t0) (pe t0)) / Nat.gcd (tA pp hh fr n (rm t0) (sd t0) (dr t0) (pe t0)) (tB pp fr n (rm t0) (sd t0)))) (lN ((tB pp fr n (rm t0) (sd t0)) / Nat.gcd (tA pp hh fr n (rm t0) (sd t0) (dr t0) (pe t0)) (tB pp fr n (rm t0) (sd t0))))))), (q 1, .inl (cI, 13, .inl (fun j => nI (pp j)))), (q 2, .inl (cI, 13, .inl (fun j => nI (hh j)))), (q 4, .inl (cI, 6, .inl (fun j => nI (rm j)))), (q 5, .inl (cI, 6, .inl (fun j => nI (sd j)))), (q 6, .inl (cI, 6, .inl (fun j => nI (dr j)))), (q 7, .inl (cI, 6, .inl (fun j => nI (pe j)))), (q 12, .inl (cL, 169, .inr (.inl (fun j => lN ((up xa (fr * 13 + to) ((tA pp hh fr n (rm t0) (sd t0) (dr t0) (pe t0)) / Nat.gcd (tA pp hh fr n (rm t0) (sd t0) (dr t0) (pe t0)) (tB pp fr n (rm t0) (sd t0)))) j))))), (q 13, .inl (cL, 169, .inr (.inl (vp_updL (fun j => lN (xb j)) (fr * 13 + to) (lN ((tB pp fr n (rm t0) (sd t0)) / Nat.gcd (tA pp hh fr n (rm t0) (sd t0) (dr t0) (pe t0)) (tB pp fr n (rm t0) (sd t0)))))))), (q 14, .inl (cI, 4, .inl (fun j => nI (en j)))), (q 15, .inl (cI, 4, .inl (fun j => nI (bs j))))] H := hP
      have hD : va_D A [(q 0, .inr (6, (mF q (nI 0) F nt (lN ((tA pp hh fr n (rm t0) (sd t0) (dr t0) (pe t0)) / Nat.gcd (tA pp hh fr n (rm t0) (sd t0) (dr t0) (pe t0)) (tB pp fr n (rm t0) (sd t0)))) (lN ((tB pp fr n (rm t0) (sd t0)) / Nat.gcd (tA pp hh fr n (rm t0) (sd t0) (dr t0) (pe t0)) (tB pp fr n (rm t0) (sd t0))))))), (q 1, .inl (cI, 13, .inl (fun j => nI (pp j)))), (q 2, .inl (cI, 13, .inl (fun j => nI (hh j)))), (q 4, .inl (cI, 6, .inl (fun j => nI (rm j)))), (q 5, .inl (cI, 6, .inl (fun j => nI (sd j)))), (q 6, .inl (cI, 6, .inl (fun j => nI (dr j)))), (q 7, .inl (cI, 6, .inl (fun j => nI (pe j)))), (q 12, .inl (cL, 169, .inr (.inl (fun j => lN ((up xa (fr * 13 + to) ((tA pp hh fr n (rm t0) (sd t0) (dr t0) (pe t0)) / Nat.gcd (tA pp hh fr n (rm t0) (sd t0) (dr t0) (pe t0)) (tB pp fr n (rm t0) (sd t0)))) j))))), (q 13, .inl (cL, 169, .inr (.inl (vp_updL (fun j => lN (xb j)) (fr * 13 + to) (lN ((tB pp fr n (rm t0) (sd t0)) / Nat.gcd (tA pp hh fr n (rm t0) (sd t0) (dr t0) (pe t0)) (tB pp fr n (rm t0) (sd t0)))))))), (q 14, .inl (cI, 4, .inl (fun j => nI (en j)))), (q 15, .inl (cI, 4, .inl (fun j => nI (bs j))))] := hD
      rw [up_eqL] at hP hD
      refine nx_inc (lv' := [(5, .int (nI (to + 1))), (0, .ref (q 0)), (1, .int (nI t0)), (2, .int (nI k)), (3, .int (nI jj)), (4, .int (nI fr))]) hx hb d_M_split_132 hl (k := 5) rfl (by decide) rfl (fun ls hl => ?_)
      refine lv_goto (tgt := 80) hx hb d_M_split_135 (by decide) ?_
      exact ih (to + 1) (by omega) (by omega) (by omega) _ _ _ _ (isM_step hM (by omega) hF12 (by show _ / _ = _; rw [zA_at hn (by omega), zB_at hn (by omega)]) (by show _ / _ = _; rw [zA_at hn (by omega), zB_at hn (by omega)])) H locs ls hP hD hS (lv_sub hl [1, 2, 3, 4, 5, 0] rfl)
set_option maxHeartbeats 4000000 in
set_option maxRecDepth 100000 in
theorem l_M_meas (hF : CallFix p m c b_M_split 8 s args gw R_M) (hC : CT dC dI cI cL cT sa s) {q : Nat → Nat} {F nt : Nat} {pp hh rm sd dr pe en bs : Nat → Nat} {t0 k jj : Nat} (hF12 : F ≤ 12) (hU2 : sm pp 1 F ≤ 200) (hhh : ∀ k, k < F → hh (1 + k) ≤ 1200) (ht6 : t0 < 6) (hrm : 1 ≤ rm t0 ∧ rm t0 ≤ 5) (hsd : 1 ≤ sd t0 ∧ sd t0 ≤ 100) (hdr : dr t0 ≤ 30) (hpe : pe t0 ≤ 10) (hfr : 5 ≤ R.frames) (hlo : 200 ≤ R.locals) (hce : cells ≤ R.cells) (hsl : slots ≤ R.slots) (hA : ∀ q : Nat, s.heap.size ≤ q → A q) (kend : ∀ (xa xb : Nat → Nat) (ab be : Int64), isM (fun j => (zA pp hh (rm t0) (sd t0) (dr t0) (pe t0)) j / Nat.gcd ((zA pp hh (rm t0) (sd t0) (dr t0) (pe t0)) j) ((zB pp (rm t0) (sd t0)) j)) (fun j => (zB pp (rm t0) (sd t0)) j / Nat.gcd ((zA pp hh (rm t0) (sd t0) (dr t0) (pe t0)) j) ((zB pp (rm t0) (sd t0)) j)) xa xb F (F + 1) (F + 1) →  ∀ (H : Heap) (locs : List Loc) (ls : Array Slot), va_P (dC, dI) vwCl [(q 0, .inr (6, (mF q (nI 0) F nt ab be))), (q 1, .inl (cI, 13, .inl (fun j => nI (pp j)))), (q 2, .inl (cI, 13, .inl (fun j => nI (hh j)))), (q 4, .inl (cI, 6, .inl (fun j => nI (rm j)))), (q 5, .inl (cI, 6, .inl (fun j => nI (sd j)))), (q 6, .inl (cI, 6, .inl (fun j => nI (dr j)))), (q 7, .inl (cI, 6, .inl (fun j => nI (pe j)))), (q 12, .inl (cL, 169, .inr (.inl (fun j => lN (xa j))))), (q 13, .inl (cL, 169, .inr (.inl (fun j => lN (xb j))))), (q 14, .inl (cI, 4, .inl (fun j => nI (en j)))), (q 15, .inl (cI, 4, .inl (fun j => nI (bs j))))] H → va_D A [(q 0, .inr (6, (mF q (nI 0) F nt ab be))), (q 1, .inl (cI, 13, .inl (fun j => nI (pp j)))), (q 2, .inl (cI, 13, .inl (fun j => nI (hh j)))), (q 4, .inl (cI, 6, .inl (fun j => nI (rm j)))), (q 5, .inl (cI, 6, .inl (fun j => nI (sd j)))), (q 6, .inl (cI, 6, .inl (fun j => nI (dr j)))), (q 7, .inl (cI, 6, .inl (fun j => nI (pe j)))), (q 12, .inl (cL, 169, .inr (.inl (fun j => lN (xa j))))), (q 13, .inl (cL, 169, .inr (.inl (fun j => lN (xb j))))), (q 14, .inl (cI, 4, .inl (fun j => nI (en j)))), (q 15, .inl (cI, 4, .inl (fun j => nI (bs j))))] → va_S A s.heap H locs → lv_has ls 8 [(0, .ref (q 0)), (1, .int (nI t0)), (2, .int (nI k)), (3, .int (nI jj))] → W p l e R s m args below meth c H locs cells slots Q (F0 m 144 ls [])) : ∀ j fr : Nat, F + 1 - fr < j → 1 ≤ fr → fr ≤ F + 1 → ∀ (xa xb : Nat → Nat) (ab be : Int64), isM (fun j => (zA pp hh (rm t0) (sd t0) (dr t0) (pe t0)) j / Nat.gcd ((zA pp hh (rm t0) (sd t0) (dr t0) (pe t0)) j) ((zB pp (rm t0) (sd t0)) j)) (fun j => (zB pp (rm t0) (sd t0)) j / Nat.gcd ((zA pp hh (rm t0) (sd t0) (dr t0) (pe t0)) j) ((zB pp (rm t0) (sd t0)) j)) xa xb F fr fr →  ∀ (H : Heap) (locs : List Loc) (ls : Array Slot), va_P (dC, dI) vwCl [(q 0, .inr (6, (mF q (nI 0) F nt ab be))), (q 1, .inl (cI, 13, .inl (fun j => nI (pp j)))), (q 2, .inl (cI, 13, .inl (fun j => nI (hh j)))), (q 4, .inl (cI, 6, .inl (fun j => nI (rm j)))), (q 5, .inl (cI, 6, .inl (fun j => nI (sd j)))), (q 6, .inl (cI, 6, .inl (fun j => nI (dr j)))), (q 7, .inl (cI, 6, .inl (fun j => nI (pe j)))), (q 12, .inl (cL, 169, .inr (.inl (fun j => lN (xa j))))), (q 13, .inl (cL, 169, .inr (.inl (fun j => lN (xb j))))), (q 14, .inl (cI, 4, .inl (fun j => nI (en j)))), (q 15, .inl (cI, 4, .inl (fun j => nI (bs j))))] H → va_D A [(q 0, .inr (6, (mF q (nI 0) F nt ab be))), (q 1, .inl (cI, 13, .inl (fun j => nI (pp j)))), (q 2, .inl (cI, 13, .inl (fun j => nI (hh j)))), (q 4, .inl (cI, 6, .inl (fun j => nI (rm j)))), (q 5, .inl (cI, 6, .inl (fun j => nI (sd j)))), (q 6, .inl (cI, 6, .inl (fun j => nI (dr j)))), (q 7, .inl (cI, 6, .inl (fun j => nI (pe j)))), (q 12, .inl (cL, 169, .inr (.inl (fun j => lN (xa j))))), (q 13, .inl (cL, 169, .inr (.inl (fun j => lN (xb j))))), (q 14, .inl (cI, 4, .inl (fun j => nI (en j)))), (q 15, .inl (cI, 4, .inl (fun j => nI (bs j))))] → va_S A s.heap H locs → lv_has ls 8 [(0, .ref (q 0)), (1, .int (nI t0)), (2, .int (nI k)), (3, .int (nI jj)), (4, .int (nI fr))] → W p l e R s m args below meth c H locs cells slots Q (F0 m 67 ls []) := by
  obtain ⟨hx, hb, hml, hown, hts⟩ := id hF
  have hK := hC.1
  intro j
  induction j with
  | zero => intro i hj; omega
  | succ j ih =>
    intro fr hj hf1 hff xa xb ab be hM H locs ls hP hD hS hl
    refine lv_iload hx hb d_M_split_67 (lv_at hl 4 rfl) ?_
    refine lv_aload_n hx hb d_M_split_69 rfl (lv_at hl 0 rfl) ?_
    refine va_get (D := (dC, dI)) (ci := 6) (v := .int (nI F)) (C := R_M) (T := F_M) (N := 17) hx hb hts i_M hown hK hP 0 rfl rfl 3 (by decide) (hts _ k_480) (fun _ h9 => h9) rfl d_M_split_70 ?_
    refine nx_icmp_gt (tgt := 144) hx hb d_M_split_73 (by decide) (by omega) (by omega) (fun h1 => ?_) (fun h1 => ?_)
    · have hie : fr = F + 1 := by omega
      subst hie
      exact kend xa xb ab be hM H locs ls hP hD hS (lv_sub hl [0, 1, 2, 3] rfl)
    · refine lv_iload hx hb d_M_split_76 (lv_at hl 4 rfl) ?_
      refine lv_istore (lv' := [(5, .int (nI fr)), (0, .ref (q 0)), (1, .int (nI t0)), (2, .int (nI k)), (3, .int (nI jj)), (4, .int (nI fr))]) hx hb d_M_split_78 hl (by decide) rfl (fun ls hl => ?_)
      refine l_M_measI ⟨hx, hb, hml, hown, hts⟩ hC hF12 hU2 hhh ht6 hrm hsd hdr hpe hfr hlo hce hsl hA hf1 (by omega) (fun xa xb ab be hM H locs ls hP hD hS hl => ?_) (F + 1 - fr + 1) fr (by omega) (by omega) (by omega) xa xb ab be hM H locs ls hP hD hS (lv_sub hl [1, 2, 3, 4, 5, 0] rfl)
      refine nx_inc (lv' := [(4, .int (nI (fr + 1))), (0, .ref (q 0)), (1, .int (nI t0)), (2, .int (nI k)), (3, .int (nI jj))]) hx hb d_M_split_138 hl (k := 4) rfl (by decide) rfl (fun ls hl => ?_)
      refine lv_goto (tgt := 67) hx hb d_M_split_141 (by decide) ?_
      exact ih (fr + 1) (by omega) (by omega) (by omega) xa xb ab be (isM_row hM) H locs ls hP hD hS (lv_sub hl [1, 2, 3, 4, 0] rfl)
set_option maxHeartbeats 4000000 in
set_option maxRecDepth 100000 in
theorem l_M_fill (hF : CallFix p m c b_M_split 8 s args gw R_M) (hC : CT dC dI cI cL cT sa s) {q : Nat → Nat} {F nt : Nat} {pp hh rm sd dr pe xa xb en bs : Nat → Nat} {t0 k jj : Nat} {ab be : Int64} (hk1 : 1 ≤ k) (hk4 : k ≤ 4) (hfr : 5 ≤ R.frames) (hlo : 200 ≤ R.locals) (hce : cells ≤ R.cells) (hsl : slots ≤ R.slots) (kend : ∀ (H : Heap) (locs : List Loc) (ls : Array Slot), va_P (dC, dI) vwCl [(q 0, .inr (6, (mF q (nI 0) F nt ab be))), (q 1, .inl (cI, 13, .inl (fun j => nI (pp j)))), (q 2, .inl (cI, 13, .inl (fun j => nI (hh j)))), (q 4, .inl (cI, 6, .inl (fun j => nI (rm j)))), (q 5, .inl (cI, 6, .inl (fun j => nI (sd j)))), (q 6, .inl (cI, 6, .inl (fun j => nI (dr j)))), (q 7, .inl (cI, 6, .inl (fun j => nI (pe j)))), (q 12, .inl (cL, 169, .inr (.inl (fun j => lN (xa j))))), (q 13, .inl (cL, 169, .inr (.inl (fun j => lN (xb j))))), (q 14, .inl (cI, 4, .inl (fun j => nI ((fil en ((k - 1))) j)))), (q 15, .inl (cI, 4, .inl (fun j => nI (bs j))))] H → va_D A [(q 0, .inr (6, (mF q (nI 0) F nt ab be))), (q 1, .inl (cI, 13, .inl (fun j => nI (pp j)))), (q 2, .inl (cI, 13, .inl (fun j => nI (hh j)))), (q 4, .inl (cI, 6, .inl (fun j => nI (rm j)))), (q 5, .inl (cI, 6, .inl (fun j => nI (sd j)))), (q 6, .inl (cI, 6, .inl (fun j => nI (dr j)))), (q 7, .inl (cI, 6, .inl (fun j => nI (pe j)))), (q 12, .inl (cL, 169, .inr (.inl (fun j => lN (xa j))))), (q 13, .inl (cL, 169, .inr (.inl (fun j => lN (xb j))))), (q 14, .inl (cI, 4, .inl (fun j => nI ((fil en ((k - 1))) j)))), (q 15, .inl (cI, 4, .inl (fun j => nI (bs j))))] → va_S A s.heap H locs → lv_has ls 8 [(0, .ref (q 0)), (1, .int (nI t0)), (2, .int (nI k)), (3, .int (nI jj)), (4, .int (nI (k - 1)))] → W p l e R s m args below meth c H locs cells slots Q (F0 m 172 ls [])) : ∀ j z : Nat, k - 1 - z < j → z ≤ k - 1 → ∀ (H : Heap) (locs : List Loc) (ls : Array Slot), va_P (dC, dI) vwCl [(q 0, .inr (6, (mF q (nI 0) F nt ab be))), (q 1, .inl (cI, 13, .inl (fun j => nI (pp j)))), (q 2, .inl (cI, 13, .inl (fun j => nI (hh j)))), (q 4, .inl (cI, 6, .inl (fun j => nI (rm j)))), (q 5, .inl (cI, 6, .inl (fun j => nI (sd j)))), (q 6, .inl (cI, 6, .inl (fun j => nI (dr j)))), (q 7, .inl (cI, 6, .inl (fun j => nI (pe j)))), (q 12, .inl (cL, 169, .inr (.inl (fun j => lN (xa j))))), (q 13, .inl (cL, 169, .inr (.inl (fun j => lN (xb j))))), (q 14, .inl (cI, 4, .inl (fun j => nI ((fil en z) j)))), (q 15, .inl (cI, 4, .inl (fun j => nI (bs j))))] H → va_D A [(q 0, .inr (6, (mF q (nI 0) F nt ab be))), (q 1, .inl (cI, 13, .inl (fun j => nI (pp j)))), (q 2, .inl (cI, 13, .inl (fun j => nI (hh j)))), (q 4, .inl (cI, 6, .inl (fun j => nI (rm j)))), (q 5, .inl (cI, 6, .inl (fun j => nI (sd j)))), (q 6, .inl (cI, 6, .inl (fun j => nI (dr j)))), (q 7, .inl (cI, 6, .inl (fun j => nI (pe j)))), (q 12, .inl (cL, 169, .inr (.inl (fun j => lN (xa j))))), (q 13, .inl (cL, 169, .inr (.inl (fun j => lN (xb j))))), (q 14, .inl (cI, 4, .inl (fun j => nI ((fil en z) j)))), (q 15, .inl (cI, 4, .inl (fun j => nI (bs j))))] → va_S A s.heap H locs → lv_has ls 8 [(0, .ref (q 0)), (1, .int (nI t0)), (2, .int (nI k)), (3, .int (nI jj)), (4, .int (nI z))] → W p l e R s m args below meth c H locs cells slots Q (F0 m 147 ls []) := by
  obtain ⟨hx, hb, hml, hown, hts⟩ := id hF
  have hK := hC.1
  intro j
  induction j with
  | zero => intro i hj; omega
  | succ j ih =>
    intro z hj hz H locs ls hP hD hS hl
    refine lv_iload hx hb d_M_split_147 (lv_at hl 4 rfl) ?_
    refine lv_iload_n hx hb d_M_split_149 rfl (lv_at hl 2 rfl) ?_
    refine lv_iconst (v := nI 1) hx hb d_M_split_150 (by decide) ?_
    refine nx_isub hx hb d_M_split_151 (by omega) ?_
    refine nx_icmp_ge (tgt := 172) hx hb d_M_split_152 (by decide) (by omega) (by omega) (fun h1 => ?_) (fun h1 => ?_)
    · have hie : z = k - 1 := by omega
      subst hie
      exact kend H locs ls hP hD hS hl
    · refine lv_aload_n hx hb d_M_split_155 rfl (lv_at hl 0 rfl) ?_
      refine va_get (D := (dC, dI)) (ci := 6) (v := .ref (q 14)) (C := R_M) (T := F_M) (N := 17) hx hb hts i_M hown hK hP 0 rfl rfl 14 (by decide) (hts _ k_491) (fun _ h9 => h9) rfl d_M_split_156 ?_
      refine lv_iload hx hb d_M_split_159 (lv_at hl 4 rfl) ?_
      refine lv_iload hx hb d_M_split_161 (lv_at hl 4 rfl) ?_
      refine lv_iconst (v := nI 1) hx hb d_M_split_163 (by decide) ?_
      refine nx_iadd hx hb d_M_split_164 ?_
      refine nx_iast hx hb hK hP hD hS 9 0 rfl rfl (k := z) (x := nI (z + 1)) (by omega) (by decide) d_M_split_165 (fun H locs hP hD hS => ?_)
      have hP : va_P (dC, dI) vwCl [(q 0, .inr (6, (mF q (nI 0) F nt ab be))), (q 1, .inl (cI, 13, .inl (fun j => nI (pp j)))), (q 2, .inl (cI, 13, .inl (fun j => nI (hh j)))), (q 4, .inl (cI, 6, .inl (fun j => nI (rm j)))), (q 5, .inl (cI, 6, .inl (fun j => nI (sd j)))), (q 6, .inl (cI, 6, .inl (fun j => nI (dr j)))), (q 7, .inl (cI, 6, .inl (fun j => nI (pe j)))), (q 12, .inl (cL, 169, .inr (.inl (fun j => lN (xa j))))), (q 13, .inl (cL, 169, .inr (.inl (fun j => lN (xb j))))), (q 14, .inl (cI, 4, .inl (upd (fun j => nI ((fil en z) j)) (z) (nI (z + 1))))), (q 15, .inl (cI, 4, .inl (fun j => nI (bs j))))] H := hP
      have hD : va_D A [(q 0, .inr (6, (mF q (nI 0) F nt ab be))), (q 1, .inl (cI, 13, .inl (fun j => nI (pp j)))), (q 2, .inl (cI, 13, .inl (fun j => nI (hh j)))), (q 4, .inl (cI, 6, .inl (fun j => nI (rm j)))), (q 5, .inl (cI, 6, .inl (fun j => nI (sd j)))), (q 6, .inl (cI, 6, .inl (fun j => nI (dr j)))), (q 7, .inl (cI, 6, .inl (fun j => nI (pe j)))), (q 12, .inl (cL, 169, .inr (.inl (fun j => lN (xa j))))), (q 13, .inl (cL, 169, .inr (.inl (fun j => lN (xb j))))), (q 14, .inl (cI, 4, .inl (upd (fun j => nI ((fil en z) j)) (z) (nI (z + 1))))), (q 15, .inl (cI, 4, .inl (fun j => nI (bs j))))] := hD
      rw [up_eq] at hP hD
      rw [fil_up] at hP hD
      refine nx_inc (lv' := [(4, .int (nI (z + 1))), (0, .ref (q 0)), (1, .int (nI t0)), (2, .int (nI k)), (3, .int (nI jj))]) hx hb d_M_split_166 hl (k := 4) rfl (by decide) rfl (fun ls hl => ?_)
      refine lv_goto (tgt := 147) hx hb d_M_split_169 (by decide) ?_
      exact ih (z + 1) (by omega) (by omega) H locs ls hP hD hS (lv_sub hl [1, 2, 3, 4, 0] rfl)
set_option maxHeartbeats 4000000 in
set_option maxRecDepth 100000 in
theorem l_M_copy (hF : CallFix p m c b_M_split 8 s args gw R_M) (hC : CT dC dI cI cL cT sa s) {q : Nat → Nat} {F nt : Nat} {pp hh rm sd dr pe xa xb en bs : Nat → Nat} {t0 k jj : Nat} {ab be : Int64} {mm : Nat} (hk1 : 1 ≤ k) (hk4 : k ≤ 4) (hfr : 5 ≤ R.frames) (hlo : 200 ≤ R.locals) (hce : cells ≤ R.cells) (hsl : slots ≤ R.slots) (kend : ∀ (H : Heap) (locs : List Loc) (ls : Array Slot), va_P (dC, dI) vwCl [(q 0, .inr (6, (mF q (nI 0) F nt ab be))), (q 1, .inl (cI, 13, .inl (fun j => nI (pp j)))), (q 2, .inl (cI, 13, .inl (fun j => nI (hh j)))), (q 4, .inl (cI, 6, .inl (fun j => nI (rm j)))), (q 5, .inl (cI, 6, .inl (fun j => nI (sd j)))), (q 6, .inl (cI, 6, .inl (fun j => nI (dr j)))), (q 7, .inl (cI, 6, .inl (fun j => nI (pe j)))), (q 12, .inl (cL, 169, .inr (.inl (fun j => lN (xa j))))), (q 13, .inl (cL, 169, .inr (.inl (fun j => lN (xb j))))), (q 14, .inl (cI, 4, .inl (fun j => nI (en j)))), (q 15, .inl (cI, 4, .inl (fun j => nI ((cp en bs k) j))))] H → va_D A [(q 0, .inr (6, (mF q (nI 0) F nt ab be))), (q 1, .inl (cI, 13, .inl (fun j => nI (pp j)))), (q 2, .inl (cI, 13, .inl (fun j => nI (hh j)))), (q 4, .inl (cI, 6, .inl (fun j => nI (rm j)))), (q 5, .inl (cI, 6, .inl (fun j => nI (sd j)))), (q 6, .inl (cI, 6, .inl (fun j => nI (dr j)))), (q 7, .inl (cI, 6, .inl (fun j => nI (pe j)))), (q 12, .inl (cL, 169, .inr (.inl (fun j => lN (xa j))))), (q 13, .inl (cL, 169, .inr (.inl (fun j => lN (xb j))))), (q 14, .inl (cI, 4, .inl (fun j => nI (en j)))), (q 15, .inl (cI, 4, .inl (fun j => nI ((cp en bs k) j))))] → va_S A s.heap H locs → lv_has ls 8 [(0, .ref (q 0)), (1, .int (nI t0)), (2, .int (nI k)), (3, .int (nI jj)), (4, .int (nI mm)), (5, .int (nI 1)), (6, .int (nI mm)), (7, .int (nI k))] → W p l e R s m args below meth c H locs cells slots Q (F0 m 275 ls [])) : ∀ j z : Nat, k - z < j → z ≤ k → ∀ (H : Heap) (locs : List Loc) (ls : Array Slot), va_P (dC, dI) vwCl [(q 0, .inr (6, (mF q (nI 0) F nt ab be))), (q 1, .inl (cI, 13, .inl (fun j => nI (pp j)))), (q 2, .inl (cI, 13, .inl (fun j => nI (hh j)))), (q 4, .inl (cI, 6, .inl (fun j => nI (rm j)))), (q 5, .inl (cI, 6, .inl (fun j => nI (sd j)))), (q 6, .inl (cI, 6, .inl (fun j => nI (dr j)))), (q 7, .inl (cI, 6, .inl (fun j => nI (pe j)))), (q 12, .inl (cL, 169, .inr (.inl (fun j => lN (xa j))))), (q 13, .inl (cL, 169, .inr (.inl (fun j => lN (xb j))))), (q 14, .inl (cI, 4, .inl (fun j => nI (en j)))), (q 15, .inl (cI, 4, .inl (fun j => nI ((cp en bs z) j))))] H → va_D A [(q 0, .inr (6, (mF q (nI 0) F nt ab be))), (q 1, .inl (cI, 13, .inl (fun j => nI (pp j)))), (q 2, .inl (cI, 13, .inl (fun j => nI (hh j)))), (q 4, .inl (cI, 6, .inl (fun j => nI (rm j)))), (q 5, .inl (cI, 6, .inl (fun j => nI (sd j)))), (q 6, .inl (cI, 6, .inl (fun j => nI (dr j)))), (q 7, .inl (cI, 6, .inl (fun j => nI (pe j)))), (q 12, .inl (cL, 169, .inr (.inl (fun j => lN (xa j))))), (q 13, .inl (cL, 169, .inr (.inl (fun j => lN (xb j))))), (q 14, .inl (cI, 4, .inl (fun j => nI (en j)))), (q 15, .inl (cI, 4, .inl (fun j => nI ((cp en bs z) j))))] → va_S A s.heap H locs → lv_has ls 8 [(0, .ref (q 0)), (1, .int (nI t0)), (2, .int (nI k)), (3, .int (nI jj)), (4, .int (nI mm)), (5, .int (nI 1)), (6, .int (nI mm)), (7, .int (nI z))] → W p l e R s m args below meth c H locs cells slots Q (F0 m 249 ls []) := by
  obtain ⟨hx, hb, hml, hown, hts⟩ := id hF
  have hK := hC.1
  intro j
  induction j with
  | zero => intro i hj; omega
  | succ j ih =>
    intro z hj hz H locs ls hP hD hS hl
    refine lv_iload hx hb d_M_split_249 (lv_at hl 7 rfl) ?_
    refine lv_iload_n hx hb d_M_split_251 rfl (lv_at hl 2 rfl) ?_
    refine nx_icmp_ge (tgt := 275) hx hb d_M_split_252 (by decide) (by omega) (by omega) (fun h1 => ?_) (fun h1 => ?_)
    · have hie : z = k := by omega
      subst hie
      exact kend H locs ls hP hD hS hl
    · refine lv_aload_n hx hb d_M_split_255 rfl (lv_at hl 0 rfl) ?_
      refine va_get (D := (dC, dI)) (ci := 6) (v := .ref (q 15)) (C := R_M) (T := F_M) (N := 17) hx hb hts i_M hown hK hP 0 rfl rfl 15 (by decide) (hts _ k_492) (fun _ h9 => h9) rfl d_M_split_256 ?_
      refine lv_iload hx hb d_M_split_259 (lv_at hl 7 rfl) ?_
      refine lv_aload_n hx hb d_M_split_261 rfl (lv_at hl 0 rfl) ?_
      refine va_get (D := (dC, dI)) (ci := 6) (v := .ref (q 14)) (C := R_M) (T := F_M) (N := 17) hx hb hts i_M hown hK hP 0 rfl rfl 14 (by decide) (hts _ k_491) (fun _ h9 => h9) rfl d_M_split_262 ?_
      refine lv_iload hx hb d_M_split_265 (lv_at hl 7 rfl) ?_
      refine nx_iald hx hb hK hP 9 0 rfl rfl (k := z) (v := nI (en z)) (by omega) (by decide) rfl d_M_split_267 ?_
      refine nx_iast hx hb hK hP hD hS 10 0 rfl rfl (k := z) (x := nI (en z)) (by omega) (by decide) d_M_split_268 (fun H locs hP hD hS => ?_)
      have hP : va_P (dC, dI) vwCl [(q 0, .inr (6, (mF q (nI 0) F nt ab be))), (q 1, .inl (cI, 13, .inl (fun j => nI (pp j)))), (q 2, .inl (cI, 13, .inl (fun j => nI (hh j)))), (q 4, .inl (cI, 6, .inl (fun j => nI (rm j)))), (q 5, .inl (cI, 6, .inl (fun j => nI (sd j)))), (q 6, .inl (cI, 6, .inl (fun j => nI (dr j)))), (q 7, .inl (cI, 6, .inl (fun j => nI (pe j)))), (q 12, .inl (cL, 169, .inr (.inl (fun j => lN (xa j))))), (q 13, .inl (cL, 169, .inr (.inl (fun j => lN (xb j))))), (q 14, .inl (cI, 4, .inl (fun j => nI (en j)))), (q 15, .inl (cI, 4, .inl (upd (fun j => nI ((cp en bs z) j)) (z) (nI (en z)))))] H := hP
      have hD : va_D A [(q 0, .inr (6, (mF q (nI 0) F nt ab be))), (q 1, .inl (cI, 13, .inl (fun j => nI (pp j)))), (q 2, .inl (cI, 13, .inl (fun j => nI (hh j)))), (q 4, .inl (cI, 6, .inl (fun j => nI (rm j)))), (q 5, .inl (cI, 6, .inl (fun j => nI (sd j)))), (q 6, .inl (cI, 6, .inl (fun j => nI (dr j)))), (q 7, .inl (cI, 6, .inl (fun j => nI (pe j)))), (q 12, .inl (cL, 169, .inr (.inl (fun j => lN (xa j))))), (q 13, .inl (cL, 169, .inr (.inl (fun j => lN (xb j))))), (q 14, .inl (cI, 4, .inl (fun j => nI (en j)))), (q 15, .inl (cI, 4, .inl (upd (fun j => nI ((cp en bs z) j)) (z) (nI (en z)))))] := hD
      rw [up_eq] at hP hD
      rw [cp_up] at hP hD
      refine nx_inc (lv' := [(7, .int (nI (z + 1))), (0, .ref (q 0)), (1, .int (nI t0)), (2, .int (nI k)), (3, .int (nI jj)), (4, .int (nI mm)), (5, .int (nI 1)), (6, .int (nI mm))]) hx hb d_M_split_269 hl (k := 7) rfl (by decide) rfl (fun ls hl => ?_)
      refine lv_goto (tgt := 249) hx hb d_M_split_272 (by decide) ?_
      exact ih (z + 1) (by omega) (by omega) H locs ls hP hD hS (lv_sub hl [1, 2, 3, 4, 5, 6, 7, 0] rfl)
set_option maxHeartbeats 4000000 in
set_option maxRecDepth 100000 in
theorem l_M_split (hF : CallFix p m c b_M_split 8 s args gw R_M) (hC : CT dC dI cI cL cT sa s) {q : Nat → Nat} {F nt : Nat} {pp hh rm sd dr pe xa xb TA TB : Nat → Nat} {t0 k jj : Nat} {ab be : Int64} (hF12 : F ≤ 12) (hTp : ∀ j, 0 < TB j) (hX : ∀ j, zok F j → xa j = TA j / Nat.gcd (TA j) (TB j) ∧ xb j = TB j / Nat.gcd (TA j) (TB j)) (hT : ∀ j, zok F j → TA j < 2 ^ 63 ∧ TB j < 2 ^ 50) (hk1 : 1 ≤ k) (hk4 : k ≤ 4) (hkF : k ≤ F) (hfr : 5 ≤ R.frames) (hlo : 200 ≤ R.locals) (hce : cells ≤ R.cells) (hsl : slots ≤ R.slots) (hA : ∀ q : Nat, s.heap.size ≤ q → A q) (kend : ∀ (en bs : Nat → Nat) (o : Option Nat),  Bs TA TB k (vs F k) o bs → ∀ (H : Heap) (locs : List Loc) (ls : Array Slot), va_P (dC, dI) vwCl [(q 0, .inr (6, (mF q (nI 0) F nt ab be))), (q 1, .inl (cI, 13, .inl (fun j => nI (pp j)))), (q 2, .inl (cI, 13, .inl (fun j => nI (hh j)))), (q 4, .inl (cI, 6, .inl (fun j => nI (rm j)))), (q 5, .inl (cI, 6, .inl (fun j => nI (sd j)))), (q 6, .inl (cI, 6, .inl (fun j => nI (dr j)))), (q 7, .inl (cI, 6, .inl (fun j => nI (pe j)))), (q 12, .inl (cL, 169, .inr (.inl (fun j => lN (xa j))))), (q 13, .inl (cL, 169, .inr (.inl (fun j => lN (xb j))))), (q 14, .inl (cI, 4, .inl (fun j => nI (en j)))), (q 15, .inl (cI, 4, .inl (fun j => nI (bs j))))] H → va_D A [(q 0, .inr (6, (mF q (nI 0) F nt ab be))), (q 1, .inl (cI, 13, .inl (fun j => nI (pp j)))), (q 2, .inl (cI, 13, .inl (fun j => nI (hh j)))), (q 4, .inl (cI, 6, .inl (fun j => nI (rm j)))), (q 5, .inl (cI, 6, .inl (fun j => nI (sd j)))), (q 6, .inl (cI, 6, .inl (fun j => nI (dr j)))), (q 7, .inl (cI, 6, .inl (fun j => nI (pe j)))), (q 12, .inl (cL, 169, .inr (.inl (fun j => lN (xa j))))), (q 13, .inl (cL, 169, .inr (.inl (fun j => lN (xb j))))), (q 14, .inl (cI, 4, .inl (fun j => nI (en j)))), (q 15, .inl (cI, 4, .inl (fun j => nI (bs j))))] → va_S A s.heap H locs → lv_has ls 8 [(0, .ref (q 0)), (1, .int (nI t0)), (2, .int (nI k)), (3, .int (nI jj)), (4, .int (oR o)), (5, .int (nI 0))] → W p l e R s m args below meth c H locs cells slots Q (F0 m 190 ls [])) : ∀ j : Nat, ∀ (en bs : Nat → Nat) (o : Option Nat),  28561 - rk k en < j → vs F k en → Bs TA TB k (PA F k k en) o bs → ∀ (H : Heap) (locs : List Loc) (ls : Array Slot), va_P (dC, dI) vwCl [(q 0, .inr (6, (mF q (nI 0) F nt ab be))), (q 1, .inl (cI, 13, .inl (fun j => nI (pp j)))), (q 2, .inl (cI, 13, .inl (fun j => nI (hh j)))), (q 4, .inl (cI, 6, .inl (fun j => nI (rm j)))), (q 5, .inl (cI, 6, .inl (fun j => nI (sd j)))), (q 6, .inl (cI, 6, .inl (fun j => nI (dr j)))), (q 7, .inl (cI, 6, .inl (fun j => nI (pe j)))), (q 12, .inl (cL, 169, .inr (.inl (fun j => lN (xa j))))), (q 13, .inl (cL, 169, .inr (.inl (fun j => lN (xb j))))), (q 14, .inl (cI, 4, .inl (fun j => nI (en j)))), (q 15, .inl (cI, 4, .inl (fun j => nI (bs j))))] H → va_D A [(q 0, .inr (6, (mF q (nI 0) F nt ab be))), (q 1, .inl (cI, 13, .inl (fun j => nI (pp j)))), (q 2, .inl (cI, 13, .inl (fun j => nI (hh j)))), (q 4, .inl (cI, 6, .inl (fun j => nI (rm j)))), (q 5, .inl (cI, 6, .inl (fun j => nI (sd j)))), (q 6, .inl (cI, 6, .inl (fun j => nI (dr j)))), (q 7, .inl (cI, 6, .inl (fun j => nI (pe j)))), (q 12, .inl (cL, 169, .inr (.inl (fun j => lN (xa j))))), (q 13, .inl (cL, 169, .inr (.inl (fun j => lN (xb j))))), (q 14, .inl (cI, 4, .inl (fun j => nI (en j)))), (q 15, .inl (cI, 4, .inl (fun j => nI (bs j))))] → va_S A s.heap H locs → lv_has ls 8 [(0, .ref (q 0)), (1, .int (nI t0)), (2, .int (nI k)), (3, .int (nI jj)), (4, .int (oR o)), (5, .int (nI 1))] → W p l e R s m args below meth c H locs cells slots Q (F0 m 190 ls []) := by
  obtain ⟨hx, hb, hml, hown, hts⟩ := id hF
  have hK := hC.1
  have hkk := hk1
  intro j
  induction j with
  | zero => intro en bs o hj; omega
  | succ j ih =>
    intro en bs o hj hv hBs H locs ls hP hD hS hl
    have hrk := rk_le hv hF12
    have hok := bst_ok hF12 (fun e h => h.1) hBs
    have hPb : ∀ e, PB F k k en e ↔ PA F k k en e ∨ agr k en e := fun e => ⟨fun h => h.2.elim (fun z => Or.inl ⟨h.1, z⟩) Or.inr, fun h => h.elim (fun z => ⟨z.1, Or.inl z.2⟩) (fun z => ⟨agr_vs z hkk hv, Or.inr z⟩)⟩
    refine lv_iload hx hb d_M_split_190 (lv_at hl 5 rfl) ?_
    refine nx_if_eq (tgt := 285) hx hb d_M_split_192 (by decide) (by omega) (fun h1 => ?_) (fun h1 => ?_)
    · exact absurd h1 (by omega)
    · refine lv_aload_n hx hb d_M_split_195 rfl (lv_at hl 0 rfl) ?_
      refine lv_iload_n hx hb d_M_split_196 rfl (lv_at hl 2 rfl) ?_
      refine ro_calli (va_runV (As := [.int (nI k)]) (rest := []) ⟨hx, hb, hml, hown, hts⟩ (c_M_longest l q F nt k ab be xa xb TA TB en hF12 hTp hX hT hkk hk4 hv) (cwV 1 hts (gw_V k_628 k_625 k_627 ks_M_longest k_6) rfl rfl rfl (by decide +kernel) ⟨Nat.le_trans (Nat.le_of_ble_eq_true rfl) hfr, Nat.le_trans (Nat.le_of_ble_eq_true rfl) hlo⟩) ⟨pr_blind, va_recv hK hP (ci := 6) (q0 := 0) rfl rfl, pr_at hC (hP.sub (ws' := [(q 0, .inr (6, (mF q (nI 0) F nt ab be))), (q 12, .inl (cL, 169, .inr (.inl (fun j => lN (xa j))))), (q 13, .inl (cL, 169, .inr (.inl (fun j => lN (xb j))))), (q 14, .inl (cI, 4, .inl (fun j => nI (en j))))]) [0, 7, 8, 9] rfl)⟩ rfl rfl hl.1 rfl (lv_room (Nat.le_of_ble_eq_true rfl)) d_M_split_197 ⟨hce, hsl⟩) (fun r9 h9 => ?_)
      obtain ⟨mm, e9, hmm⟩ := h9
      subst e9
      have hmz : zok F mm := by obtain ⟨⟨y, hy, ey⟩, -⟩ := hmm; rw [ey]; exact zok_vs hv hy hF12
      obtain ⟨m1, m2, m3, m4⟩ := rd_ok hF12 hTp hX hT hmz
      refine lv_istore (lv' := [(6, .int (nI mm)), (0, .ref (q 0)), (1, .int (nI t0)), (2, .int (nI k)), (3, .int (nI jj)), (4, .int (oR o)), (5, .int (nI 1))]) hx hb d_M_split_200 hl (by decide) rfl (fun ls hl => ?_)
      refine lv_iload hx hb d_M_split_202 (lv_at hl 5 rfl) ?_
      refine lv_iconst (v := -1) hx hb d_M_split_204 (by decide) ?_
      refine lv_icmp_eq (tgt := 242) hx hb d_M_split_205 (by decide) (fun h2 => ?_) (fun h2 => ?_)
      · have ho0 := oR_none h2 (fun m hm => hok.elim (fun z => by rw [z] at hm; cases hm) (fun ⟨y, z, z2⟩ => by rw [z] at hm; cases hm; exact (zok_lt z2 hF12).2))
        refine lv_iload hx hb d_M_split_242 (lv_at hl 0 rfl) ?_
        refine lv_istore (lv' := [(4, .int (nI mm)), (6, .int (nI mm)), (0, .ref (q 0)), (1, .int (nI t0)), (2, .int (nI k)), (3, .int (nI jj)), (5, .int (nI 1))]) hx hb d_M_split_244 hl (by decide) rfl (fun ls hl => ?_)
        refine lv_iconst (v := nI 0) hx hb d_M_split_246 (by decide) ?_
        refine lv_istore (lv' := [(7, .int (nI 0)), (4, .int (nI mm)), (6, .int (nI mm)), (0, .ref (q 0)), (1, .int (nI t0)), (2, .int (nI k)), (3, .int (nI jj)), (5, .int (nI 1))]) hx hb d_M_split_247 hl (by decide) rfl (fun ls hl => ?_)
        rw [← cp_0 (en := en) (be := bs)] at hP hD
        refine l_M_copy ⟨hx, hb, hml, hown, hts⟩ hC hkk hk4 hfr hlo hce hsl (fun H locs ls hP hD hS hl => ?_) (k + 1) 0 (by omega) (by omega) H locs ls hP hD hS (lv_sub hl [3, 4, 5, 6, 1, 7, 2, 0] rfl)
        refine lv_aload_n hx hb d_M_split_275 rfl (lv_at hl 0 rfl) ?_
        refine lv_iload_n hx hb d_M_split_276 rfl (lv_at hl 2 rfl) ?_
        have hPc := hP.sub (ws' := [(q 0, .inr (6, (mF q (nI 0) F nt ab be))), (q 14, .inl (cI, 4, .inl (fun j => nI (en j))))]) [0, 9] rfl
        have hDc := hD.sub (ws' := [(q 0, .inr (6, (mF q (nI 0) F nt ab be))), (q 14, .inl (cI, 4, .inl (fun j => nI (en j))))]) [0, 9] (by decide) rfl
        have hFc := va_free (wc := [(q 0, .inr (6, (mF q (nI 0) F nt ab be))), (q 14, .inl (cI, 4, .inl (fun j => nI (en j))))]) hD hS hA [0, 9] rfl
        refine va_calli (va_runV (As := [.int (nI k)]) (rest := []) ⟨hx, hb, hml, hown, hts⟩ (c_M_nextEnds l _ q F nt ab be en k hF12 hkk hk4 hkF hv) (cwV 1 hts (gw_V k_632 k_629 k_631 ks_M_nextEnds k_6) rfl rfl rfl (by decide +kernel) ⟨Nat.le_trans (Nat.le_of_ble_eq_true rfl) hfr, Nat.le_trans (Nat.le_of_ble_eq_true rfl) hlo⟩) ⟨wr_blind, va_recv hK hP (ci := 6) (q0 := 0) rfl rfl, wr_at hC hPc hDc⟩ rfl rfl hl.1 rfl (lv_room (Nat.le_of_ble_eq_true rfl)) d_M_split_277 ⟨hce, hsl⟩) hS (fun q _ h => hFc q h) hFc (fun r9 u t H1 locs ht hvm hw hB hz1 hk1 hS => ?_)
        obtain ⟨hP1, hD1⟩ := hB
        rw [ht] at hP1
        obtain ⟨hP, hD⟩ := va_join (wr := [(q 1, .inl (cI, 13, .inl (fun j => nI (pp j)))), (q 2, .inl (cI, 13, .inl (fun j => nI (hh j)))), (q 4, .inl (cI, 6, .inl (fun j => nI (rm j)))), (q 5, .inl (cI, 6, .inl (fun j => nI (sd j)))), (q 6, .inl (cI, 6, .inl (fun j => nI (dr j)))), (q 7, .inl (cI, 6, .inl (fun j => nI (pe j)))), (q 12, .inl (cL, 169, .inr (.inl (fun j => lN (xa j))))), (q 13, .inl (cL, 169, .inr (.inl (fun j => lN (xb j))))), (q 15, .inl (cI, 4, .inl (fun j => nI ((cp en bs k) j))))]) (w1 := [(q 0, .inr (6, (mF q (nI 0) F nt ab be))), (q 14, .inl (cI, 4, .inl (fun j => nI (u j))))]) hP hD [0, 9] [1, 2, 3, 4, 5, 6, 7, 8, 10] rfl rfl (by decide) (by decide) hk1 hFc hP1 hD1
        generalize H1 = H at hP hS ⊢
        have hP := hP.sub (ws' := [(q 0, .inr (6, (mF q (nI 0) F nt ab be))), (q 1, .inl (cI, 13, .inl (fun j => nI (pp j)))), (q 2, .inl (cI, 13, .inl (fun j => nI (hh j)))), (q 4, .inl (cI, 6, .inl (fun j => nI (rm j)))), (q 5, .inl (cI, 6, .inl (fun j => nI (sd j)))), (q 6, .inl (cI, 6, .inl (fun j => nI (dr j)))), (q 7, .inl (cI, 6, .inl (fun j => nI (pe j)))), (q 12, .inl (cL, 169, .inr (.inl (fun j => lN (xa j))))), (q 13, .inl (cL, 169, .inr (.inl (fun j => lN (xb j))))), (q 14, .inl (cI, 4, .inl (fun j => nI (u j)))), (q 15, .inl (cI, 4, .inl (fun j => nI ((cp en bs k) j))))]) [9, 0, 1, 2, 3, 4, 5, 6, 7, 10, 8] rfl
        have hD := hD.sub (ws' := [(q 0, .inr (6, (mF q (nI 0) F nt ab be))), (q 1, .inl (cI, 13, .inl (fun j => nI (pp j)))), (q 2, .inl (cI, 13, .inl (fun j => nI (hh j)))), (q 4, .inl (cI, 6, .inl (fun j => nI (rm j)))), (q 5, .inl (cI, 6, .inl (fun j => nI (sd j)))), (q 6, .inl (cI, 6, .inl (fun j => nI (dr j)))), (q 7, .inl (cI, 6, .inl (fun j => nI (pe j)))), (q 12, .inl (cL, 169, .inr (.inl (fun j => lN (xa j))))), (q 13, .inl (cL, 169, .inr (.inl (fun j => lN (xb j))))), (q 14, .inl (cI, 4, .inl (fun j => nI (u j)))), (q 15, .inl (cI, 4, .inl (fun j => nI ((cp en bs k) j))))]) [9, 0, 1, 2, 3, 4, 5, 6, 7, 10, 8] (by decide) rfl
        have hB2 : Bs TA TB k (PB F k k en) (some mm) (cp en bs k) := bs_take hTp hBs hmm hPb agr_cp (Or.inl ho0)
        rcases hw with ⟨e8, hn⟩ | ⟨e8, hn⟩ <;> subst e8
        · refine lv_istore (lv' := [(5, .int (nI 1)), (0, .ref (q 0)), (1, .int (nI t0)), (2, .int (nI k)), (3, .int (nI jj)), (4, .int (nI mm)), (6, .int (nI mm)), (7, .int (nI k))]) hx hb d_M_split_280 hl (by decide) rfl (fun ls hl => ?_)
          refine lv_goto (tgt := 190) hx hb d_M_split_282 (by decide) ?_
          exact ih u (cp en bs k) (some mm) (by have := hn.2.2; omega) hn.1 (Bs_congr hB2 (fun e => ⟨fun h => ⟨h.1, (hn.2.1 e h.1).mpr h.2⟩, fun h => ⟨h.1, (hn.2.1 e h.1).mp h.2⟩⟩)) H locs ls hP hD hS (lv_sub hl [1, 2, 3, 4, 5, 0] rfl)
        · refine lv_istore (lv' := [(5, .int (nI 0)), (0, .ref (q 0)), (1, .int (nI t0)), (2, .int (nI k)), (3, .int (nI jj)), (4, .int (nI mm)), (6, .int (nI mm)), (7, .int (nI k))]) hx hb d_M_split_280 hl (by decide) rfl (fun ls hl => ?_)
          refine lv_goto (tgt := 190) hx hb d_M_split_282 (by decide) ?_
          exact kend u (cp en bs k) (some mm) (Bs_congr hB2 (fun e => ⟨fun h => h.1, fun h => ⟨h, hn e h⟩⟩)) H locs ls hP hD hS (lv_sub hl [1, 2, 3, 4, 5, 0] rfl)
      · obtain ⟨b0, e0⟩ := oR_some h2
        subst e0
        have hbz : zok F b0 := hok.elim (fun z => by cases z) (fun ⟨y, z, z2⟩ => by cases z; exact z2)
        obtain ⟨b1, b2, b3, b4⟩ := rd_ok hF12 hTp hX hT hbz
        have hl : lv_has ls 8 [(6, .int (nI mm)), (0, .ref (q 0)), (1, .int (nI t0)), (2, .int (nI k)), (3, .int (nI jj)), (4, .int (nI b0)), (5, .int (nI 1))] := hl
        refine lv_aload_n hx hb d_M_split_208 rfl (lv_at hl 1 rfl) ?_
        refine va_get (D := (dC, dI)) (ci := 6) (v := .ref (q 12)) (C := R_M) (T := F_M) (N := 17) hx hb hts i_M hown hK hP 0 rfl rfl 12 (by decide) (hts _ k_489) (fun _ h9 => h9) rfl d_M_split_209 ?_
        refine lv_iload hx hb d_M_split_212 (lv_at hl 0 rfl) ?_
        refine nx_lald hx hb hK hP 7 1 rfl rfl (k := mm) (v := lN (xa mm)) (by omega) (by decide) rfl d_M_split_214 ?_
        refine lv_aload_n hx hb d_M_split_215 rfl (lv_at hl 1 rfl) ?_
        refine va_get (D := (dC, dI)) (ci := 6) (v := .ref (q 13)) (C := R_M) (T := F_M) (N := 17) hx hb hts i_M hown hK hP 0 rfl rfl 13 (by decide) (hts _ k_490) (fun _ h9 => h9) rfl d_M_split_216 ?_
        refine lv_iload hx hb d_M_split_219 (lv_at hl 0 rfl) ?_
        refine nx_lald hx hb hK hP 8 1 rfl rfl (k := mm) (v := lN (xb mm)) (by omega) (by decide) rfl d_M_split_221 ?_
        refine lv_aload_n hx hb d_M_split_222 rfl (lv_at hl 1 rfl) ?_
        refine va_get (D := (dC, dI)) (ci := 6) (v := .ref (q 12)) (C := R_M) (T := F_M) (N := 17) hx hb hts i_M hown hK hP 0 rfl rfl 12 (by decide) (hts _ k_489) (fun _ h9 => h9) rfl d_M_split_223 ?_
        refine lv_iload hx hb d_M_split_226 (lv_at hl 5 rfl) ?_
        refine nx_lald hx hb hK hP 7 1 rfl rfl (k := b0) (v := lN (xa b0)) (by omega) (by decide) rfl d_M_split_228 ?_
        refine lv_aload_n hx hb d_M_split_229 rfl (lv_at hl 1 rfl) ?_
        refine va_get (D := (dC, dI)) (ci := 6) (v := .ref (q 13)) (C := R_M) (T := F_M) (N := 17) hx hb hts i_M hown hK hP 0 rfl rfl 13 (by decide) (hts _ k_490) (fun _ h9 => h9) rfl d_M_split_230 ?_
        refine lv_iload hx hb d_M_split_233 (lv_at hl 5 rfl) ?_
        refine nx_lald hx hb hK hP 8 1 rfl rfl (k := b0) (v := lN (xb b0)) (by omega) (by decide) rfl d_M_split_235 ?_
        refine ro_calli (va_runS (As := [.long (lN (xa mm)), .long (lN (xb mm)), .long (lN (xa b0)), .long (lN (xb b0))]) (rest := []) ⟨hx, hb, hml, hown, hts⟩ (c_M_order l (xa mm) (xb mm) (xa b0) (xb b0) m2 m3 b2 b3 m4 b4) (cwS 4 hts (gw_S k_607 k_605 k_606 k_6) rfl rfl rfl (by decide +kernel) ⟨Nat.le_trans (Nat.le_of_ble_eq_true rfl) hfr, Nat.le_trans (Nat.le_of_ble_eq_true rfl) hlo⟩) ⟨pr_blind, pr_at hC (fun k q h => by simp at h)⟩ rfl rfl hl.1 rfl (lv_room (Nat.le_of_ble_eq_true rfl)) d_M_split_236 ⟨hce, hsl⟩) (fun r9 h9 => ?_)
        subst h9
        rw [rd_cmp hTp hX hmz hbz]
        refine lv_if_ge (tgt := 275) hx hb d_M_split_239 (by decide) (fun h3 => ?_) (fun h3 => ?_)
        · have hze : ze TA TB b0 mm := Nat.not_lt.mp (fun z => absurd ((kI_negl (ma_cmp_3 _ _)).mpr (ma_cmp_neg.mpr z)) (Int32.not_lt.mpr h3))
          refine lv_aload_n hx hb d_M_split_275 rfl (lv_at hl 1 rfl) ?_
          refine lv_iload_n hx hb d_M_split_276 rfl (lv_at hl 3 rfl) ?_
          have hPc := hP.sub (ws' := [(q 0, .inr (6, (mF q (nI 0) F nt ab be))), (q 14, .inl (cI, 4, .inl (fun j => nI (en j))))]) [0, 9] rfl
          have hDc := hD.sub (ws' := [(q 0, .inr (6, (mF q (nI 0) F nt ab be))), (q 14, .inl (cI, 4, .inl (fun j => nI (en j))))]) [0, 9] (by decide) rfl
          have hFc := va_free (wc := [(q 0, .inr (6, (mF q (nI 0) F nt ab be))), (q 14, .inl (cI, 4, .inl (fun j => nI (en j))))]) hD hS hA [0, 9] rfl
          refine va_calli (va_runV (As := [.int (nI k)]) (rest := []) ⟨hx, hb, hml, hown, hts⟩ (c_M_nextEnds l _ q F nt ab be en k hF12 hkk hk4 hkF hv) (cwV 1 hts (gw_V k_632 k_629 k_631 ks_M_nextEnds k_6) rfl rfl rfl (by decide +kernel) ⟨Nat.le_trans (Nat.le_of_ble_eq_true rfl) hfr, Nat.le_trans (Nat.le_of_ble_eq_true rfl) hlo⟩) ⟨wr_blind, va_recv hK hP (ci := 6) (q0 := 0) rfl rfl, wr_at hC hPc hDc⟩ rfl rfl hl.1 rfl (lv_room (Nat.le_of_ble_eq_true rfl)) d_M_split_277 ⟨hce, hsl⟩) hS (fun q _ h => hFc q h) hFc (fun r9 u t H1 locs ht hvm hw hB hz1 hk1 hS => ?_)
          obtain ⟨hP1, hD1⟩ := hB
          rw [ht] at hP1
          obtain ⟨hP, hD⟩ := va_join (wr := [(q 1, .inl (cI, 13, .inl (fun j => nI (pp j)))), (q 2, .inl (cI, 13, .inl (fun j => nI (hh j)))), (q 4, .inl (cI, 6, .inl (fun j => nI (rm j)))), (q 5, .inl (cI, 6, .inl (fun j => nI (sd j)))), (q 6, .inl (cI, 6, .inl (fun j => nI (dr j)))), (q 7, .inl (cI, 6, .inl (fun j => nI (pe j)))), (q 12, .inl (cL, 169, .inr (.inl (fun j => lN (xa j))))), (q 13, .inl (cL, 169, .inr (.inl (fun j => lN (xb j))))), (q 15, .inl (cI, 4, .inl (fun j => nI (bs j))))]) (w1 := [(q 0, .inr (6, (mF q (nI 0) F nt ab be))), (q 14, .inl (cI, 4, .inl (fun j => nI (u j))))]) hP hD [0, 9] [1, 2, 3, 4, 5, 6, 7, 8, 10] rfl rfl (by decide) (by decide) hk1 hFc hP1 hD1
          generalize H1 = H at hP hS ⊢
          have hP := hP.sub (ws' := [(q 0, .inr (6, (mF q (nI 0) F nt ab be))), (q 1, .inl (cI, 13, .inl (fun j => nI (pp j)))), (q 2, .inl (cI, 13, .inl (fun j => nI (hh j)))), (q 4, .inl (cI, 6, .inl (fun j => nI (rm j)))), (q 5, .inl (cI, 6, .inl (fun j => nI (sd j)))), (q 6, .inl (cI, 6, .inl (fun j => nI (dr j)))), (q 7, .inl (cI, 6, .inl (fun j => nI (pe j)))), (q 12, .inl (cL, 169, .inr (.inl (fun j => lN (xa j))))), (q 13, .inl (cL, 169, .inr (.inl (fun j => lN (xb j))))), (q 14, .inl (cI, 4, .inl (fun j => nI (u j)))), (q 15, .inl (cI, 4, .inl (fun j => nI (bs j))))]) [9, 0, 1, 2, 3, 4, 5, 6, 7, 10, 8] rfl
          have hD := hD.sub (ws' := [(q 0, .inr (6, (mF q (nI 0) F nt ab be))), (q 1, .inl (cI, 13, .inl (fun j => nI (pp j)))), (q 2, .inl (cI, 13, .inl (fun j => nI (hh j)))), (q 4, .inl (cI, 6, .inl (fun j => nI (rm j)))), (q 5, .inl (cI, 6, .inl (fun j => nI (sd j)))), (q 6, .inl (cI, 6, .inl (fun j => nI (dr j)))), (q 7, .inl (cI, 6, .inl (fun j => nI (pe j)))), (q 12, .inl (cL, 169, .inr (.inl (fun j => lN (xa j))))), (q 13, .inl (cL, 169, .inr (.inl (fun j => lN (xb j))))), (q 14, .inl (cI, 4, .inl (fun j => nI (u j)))), (q 15, .inl (cI, 4, .inl (fun j => nI (bs j))))]) [9, 0, 1, 2, 3, 4, 5, 6, 7, 10, 8] (by decide) rfl
          have hB2 : Bs TA TB k (PB F k k en) (some b0) (bs) := bs_keep hTp hBs hmm hPb hze (fun e h => h.2)
          rcases hw with ⟨e8, hn⟩ | ⟨e8, hn⟩ <;> subst e8
          · refine lv_istore (lv' := [(5, .int (nI 1)), (6, .int (nI mm)), (0, .ref (q 0)), (1, .int (nI t0)), (2, .int (nI k)), (3, .int (nI jj)), (4, .int (nI b0))]) hx hb d_M_split_280 hl (by decide) rfl (fun ls hl => ?_)
            refine lv_goto (tgt := 190) hx hb d_M_split_282 (by decide) ?_
            exact ih u (bs) (some b0) (by have := hn.2.2; omega) hn.1 (Bs_congr hB2 (fun e => ⟨fun h => ⟨h.1, (hn.2.1 e h.1).mpr h.2⟩, fun h => ⟨h.1, (hn.2.1 e h.1).mp h.2⟩⟩)) H locs ls hP hD hS (lv_sub hl [2, 3, 4, 5, 6, 0] rfl)
          · refine lv_istore (lv' := [(5, .int (nI 0)), (6, .int (nI mm)), (0, .ref (q 0)), (1, .int (nI t0)), (2, .int (nI k)), (3, .int (nI jj)), (4, .int (nI b0))]) hx hb d_M_split_280 hl (by decide) rfl (fun ls hl => ?_)
            refine lv_goto (tgt := 190) hx hb d_M_split_282 (by decide) ?_
            exact kend u (bs) (some b0) (Bs_congr hB2 (fun e => ⟨fun h => h.1, fun h => ⟨h, hn e h⟩⟩)) H locs ls hP hD hS (lv_sub hl [2, 3, 4, 5, 6, 0] rfl)
        · have hnz : ¬ ze TA TB b0 mm := fun z => Nat.not_lt.mpr z (ma_cmp_neg.mp ((kI_negl (ma_cmp_3 _ _)).mp (Int32.not_le.mp h3)))
          refine lv_iload hx hb d_M_split_242 (lv_at hl 0 rfl) ?_
          refine lv_istore (lv' := [(4, .int (nI mm)), (6, .int (nI mm)), (0, .ref (q 0)), (1, .int (nI t0)), (2, .int (nI k)), (3, .int (nI jj)), (5, .int (nI 1))]) hx hb d_M_split_244 hl (by decide) rfl (fun ls hl => ?_)
          refine lv_iconst (v := nI 0) hx hb d_M_split_246 (by decide) ?_
          refine lv_istore (lv' := [(7, .int (nI 0)), (4, .int (nI mm)), (6, .int (nI mm)), (0, .ref (q 0)), (1, .int (nI t0)), (2, .int (nI k)), (3, .int (nI jj)), (5, .int (nI 1))]) hx hb d_M_split_247 hl (by decide) rfl (fun ls hl => ?_)
          rw [← cp_0 (en := en) (be := bs)] at hP hD
          refine l_M_copy ⟨hx, hb, hml, hown, hts⟩ hC hkk hk4 hfr hlo hce hsl (fun H locs ls hP hD hS hl => ?_) (k + 1) 0 (by omega) (by omega) H locs ls hP hD hS (lv_sub hl [3, 4, 5, 6, 1, 7, 2, 0] rfl)
          refine lv_aload_n hx hb d_M_split_275 rfl (lv_at hl 0 rfl) ?_
          refine lv_iload_n hx hb d_M_split_276 rfl (lv_at hl 2 rfl) ?_
          have hPc := hP.sub (ws' := [(q 0, .inr (6, (mF q (nI 0) F nt ab be))), (q 14, .inl (cI, 4, .inl (fun j => nI (en j))))]) [0, 9] rfl
          have hDc := hD.sub (ws' := [(q 0, .inr (6, (mF q (nI 0) F nt ab be))), (q 14, .inl (cI, 4, .inl (fun j => nI (en j))))]) [0, 9] (by decide) rfl
          have hFc := va_free (wc := [(q 0, .inr (6, (mF q (nI 0) F nt ab be))), (q 14, .inl (cI, 4, .inl (fun j => nI (en j))))]) hD hS hA [0, 9] rfl
          refine va_calli (va_runV (As := [.int (nI k)]) (rest := []) ⟨hx, hb, hml, hown, hts⟩ (c_M_nextEnds l _ q F nt ab be en k hF12 hkk hk4 hkF hv) (cwV 1 hts (gw_V k_632 k_629 k_631 ks_M_nextEnds k_6) rfl rfl rfl (by decide +kernel) ⟨Nat.le_trans (Nat.le_of_ble_eq_true rfl) hfr, Nat.le_trans (Nat.le_of_ble_eq_true rfl) hlo⟩) ⟨wr_blind, va_recv hK hP (ci := 6) (q0 := 0) rfl rfl, wr_at hC hPc hDc⟩ rfl rfl hl.1 rfl (lv_room (Nat.le_of_ble_eq_true rfl)) d_M_split_277 ⟨hce, hsl⟩) hS (fun q _ h => hFc q h) hFc (fun r9 u t H1 locs ht hvm hw hB hz1 hk1 hS => ?_)
          obtain ⟨hP1, hD1⟩ := hB
          rw [ht] at hP1
          obtain ⟨hP, hD⟩ := va_join (wr := [(q 1, .inl (cI, 13, .inl (fun j => nI (pp j)))), (q 2, .inl (cI, 13, .inl (fun j => nI (hh j)))), (q 4, .inl (cI, 6, .inl (fun j => nI (rm j)))), (q 5, .inl (cI, 6, .inl (fun j => nI (sd j)))), (q 6, .inl (cI, 6, .inl (fun j => nI (dr j)))), (q 7, .inl (cI, 6, .inl (fun j => nI (pe j)))), (q 12, .inl (cL, 169, .inr (.inl (fun j => lN (xa j))))), (q 13, .inl (cL, 169, .inr (.inl (fun j => lN (xb j))))), (q 15, .inl (cI, 4, .inl (fun j => nI ((cp en bs k) j))))]) (w1 := [(q 0, .inr (6, (mF q (nI 0) F nt ab be))), (q 14, .inl (cI, 4, .inl (fun j => nI (u j))))]) hP hD [0, 9] [1, 2, 3, 4, 5, 6, 7, 8, 10] rfl rfl (by decide) (by decide) hk1 hFc hP1 hD1
          generalize H1 = H at hP hS ⊢
          have hP := hP.sub (ws' := [(q 0, .inr (6, (mF q (nI 0) F nt ab be))), (q 1, .inl (cI, 13, .inl (fun j => nI (pp j)))), (q 2, .inl (cI, 13, .inl (fun j => nI (hh j)))), (q 4, .inl (cI, 6, .inl (fun j => nI (rm j)))), (q 5, .inl (cI, 6, .inl (fun j => nI (sd j)))), (q 6, .inl (cI, 6, .inl (fun j => nI (dr j)))), (q 7, .inl (cI, 6, .inl (fun j => nI (pe j)))), (q 12, .inl (cL, 169, .inr (.inl (fun j => lN (xa j))))), (q 13, .inl (cL, 169, .inr (.inl (fun j => lN (xb j))))), (q 14, .inl (cI, 4, .inl (fun j => nI (u j)))), (q 15, .inl (cI, 4, .inl (fun j => nI ((cp en bs k) j))))]) [9, 0, 1, 2, 3, 4, 5, 6, 7, 10, 8] rfl
          have hD := hD.sub (ws' := [(q 0, .inr (6, (mF q (nI 0) F nt ab be))), (q 1, .inl (cI, 13, .inl (fun j => nI (pp j)))), (q 2, .inl (cI, 13, .inl (fun j => nI (hh j)))), (q 4, .inl (cI, 6, .inl (fun j => nI (rm j)))), (q 5, .inl (cI, 6, .inl (fun j => nI (sd j)))), (q 6, .inl (cI, 6, .inl (fun j => nI (dr j)))), (q 7, .inl (cI, 6, .inl (fun j => nI (pe j)))), (q 12, .inl (cL, 169, .inr (.inl (fun j => lN (xa j))))), (q 13, .inl (cL, 169, .inr (.inl (fun j => lN (xb j))))), (q 14, .inl (cI, 4, .inl (fun j => nI (u j)))), (q 15, .inl (cI, 4, .inl (fun j => nI ((cp en bs k) j))))]) [9, 0, 1, 2, 3, 4, 5, 6, 7, 10, 8] (by decide) rfl
          have hB2 : Bs TA TB k (PB F k k en) (some mm) (cp en bs k) := bs_take hTp hBs hmm hPb agr_cp (Or.inr ⟨b0, rfl, hnz⟩)
          rcases hw with ⟨e8, hn⟩ | ⟨e8, hn⟩ <;> subst e8
          · refine lv_istore (lv' := [(5, .int (nI 1)), (0, .ref (q 0)), (1, .int (nI t0)), (2, .int (nI k)), (3, .int (nI jj)), (4, .int (nI mm)), (6, .int (nI mm)), (7, .int (nI k))]) hx hb d_M_split_280 hl (by decide) rfl (fun ls hl => ?_)
            refine lv_goto (tgt := 190) hx hb d_M_split_282 (by decide) ?_
            exact ih u (cp en bs k) (some mm) (by have := hn.2.2; omega) hn.1 (Bs_congr hB2 (fun e => ⟨fun h => ⟨h.1, (hn.2.1 e h.1).mpr h.2⟩, fun h => ⟨h.1, (hn.2.1 e h.1).mp h.2⟩⟩)) H locs ls hP hD hS (lv_sub hl [1, 2, 3, 4, 5, 0] rfl)
          · refine lv_istore (lv' := [(5, .int (nI 0)), (0, .ref (q 0)), (1, .int (nI t0)), (2, .int (nI k)), (3, .int (nI jj)), (4, .int (nI mm)), (6, .int (nI mm)), (7, .int (nI k))]) hx hb d_M_split_280 hl (by decide) rfl (fun ls hl => ?_)
            refine lv_goto (tgt := 190) hx hb d_M_split_282 (by decide) ?_
            exact kend u (cp en bs k) (some mm) (Bs_congr hB2 (fun e => ⟨fun h => h.1, fun h => ⟨h, hn e h⟩⟩)) H locs ls hP hD hS (lv_sub hl [1, 2, 3, 4, 5, 0] rfl)
end
set_option maxHeartbeats 4000000 in
set_option maxRecDepth 100000 in
theorem c_M_split_b1 (l : Launch) {dC : Nat → ClassId} {dI : Nat → Nat → Nat} {cI cL cT : ClassId} {sa : Nat → Nat} (sz : Nat) (q : Nat → Nat) (th : Int32) (F nt : Nat) (ab be : Int64) (pp hh rm sd dr pe xa xb en bs : Nat → Nat) (p0 p1 p2 : Int32) (hn6 : nt ≤ 6) (hbad : ¬ (okTy nt p0 ∧ (1 ≤ p1.toInt ∧ p1.toInt ≤ 4) ∧ (0 ≤ p2.toInt ∧ p2.toInt ≤ p1.toInt - 1))) : Met l y_M_split (Cond.code y_M_split b_M_split 8 (some .int) :: gw) ({ frames := 5, cells := 0, slots := 0, locals := 200 } : Room) (wr dC dI cI cL cT sa [.ref (q 0), .int p0, .int p1, .int p2] [(q 0, .inr (6, (mF q th F nt ab be))), (q 1, .inl (cI, 13, .inl (fun j => nI (pp j)))), (q 2, .inl (cI, 13, .inl (fun j => nI (hh j)))), (q 4, .inl (cI, 6, .inl (fun j => nI (rm j)))), (q 5, .inl (cI, 6, .inl (fun j => nI (sd j)))), (q 6, .inl (cI, 6, .inl (fun j => nI (dr j)))), (q 7, .inl (cI, 6, .inl (fun j => nI (pe j)))), (q 12, .inl (cL, 169, .inr (.inl (fun j => lN (xa j))))), (q 13, .inl (cL, 169, .inr (.inl (fun j => lN (xb j))))), (q 14, .inl (cI, 4, .inl (fun j => nI (en j)))), (q 15, .inl (cI, 4, .inl (fun j => nI (bs j))))] sz) (va_Qi (fun r (_ : Unit) => r = nI 0) (wB dC dI [(q 0, .inr (6, (mF q th F nt ab be))), (q 1, .inl (cI, 13, .inl (fun j => nI (pp j)))), (q 2, .inl (cI, 13, .inl (fun j => nI (hh j)))), (q 4, .inl (cI, 6, .inl (fun j => nI (rm j)))), (q 5, .inl (cI, 6, .inl (fun j => nI (sd j)))), (q 6, .inl (cI, 6, .inl (fun j => nI (dr j)))), (q 7, .inl (cI, 6, .inl (fun j => nI (pe j)))), (q 12, .inl (cL, 169, .inr (.inl (fun j => lN (xa j))))), (q 13, .inl (cL, 169, .inr (.inl (fun j => lN (xb j))))), (q 14, .inl (cI, 4, .inl (fun j => nI (en j)))), (q 15, .inl (cI, 4, .inl (fun j => nI (bs j))))] [(q 0, .inr (6, (mF q (nI 1) F nt ab be))), (q 1, .inl (cI, 13, .inl (fun j => nI (pp j)))), (q 2, .inl (cI, 13, .inl (fun j => nI (hh j)))), (q 4, .inl (cI, 6, .inl (fun j => nI (rm j)))), (q 5, .inl (cI, 6, .inl (fun j => nI (sd j)))), (q 6, .inl (cI, 6, .inl (fun j => nI (dr j)))), (q 7, .inl (cI, 6, .inl (fun j => nI (pe j)))), (q 12, .inl (cL, 169, .inr (.inl (fun j => lN (xa j))))), (q 13, .inl (cL, 169, .inr (.inl (fun j => lN (xb j))))), (q 14, .inl (cI, 4, .inl (fun j => nI (en j)))), (q 15, .inl (cI, 4, .inl (fun j => nI (bs j))))] sz) (va_A [(q 0, .inr (6, (mF q th F nt ab be))), (q 1, .inl (cI, 13, .inl (fun j => nI (pp j)))), (q 2, .inl (cI, 13, .inl (fun j => nI (hh j)))), (q 4, .inl (cI, 6, .inl (fun j => nI (rm j)))), (q 5, .inl (cI, 6, .inl (fun j => nI (sd j)))), (q 6, .inl (cI, 6, .inl (fun j => nI (dr j)))), (q 7, .inl (cI, 6, .inl (fun j => nI (pe j)))), (q 12, .inl (cL, 169, .inr (.inl (fun j => lN (xa j))))), (q 13, .inl (cL, 169, .inr (.inl (fun j => lN (xb j))))), (q 14, .inl (cI, 4, .inl (fun j => nI (en j)))), (q 15, .inl (cI, 4, .inl (fun j => nI (bs j))))] sz)) 0 0 (va_A [(q 0, .inr (6, (mF q th F nt ab be))), (q 1, .inl (cI, 13, .inl (fun j => nI (pp j)))), (q 2, .inl (cI, 13, .inl (fun j => nI (hh j)))), (q 4, .inl (cI, 6, .inl (fun j => nI (rm j)))), (q 5, .inl (cI, 6, .inl (fun j => nI (sd j)))), (q 6, .inl (cI, 6, .inl (fun j => nI (dr j)))), (q 7, .inl (cI, 6, .inl (fun j => nI (pe j)))), (q 12, .inl (cL, 169, .inr (.inl (fun j => lN (xa j))))), (q 13, .inl (cL, 169, .inr (.inl (fun j => lN (xb j))))), (q 14, .inl (cI, 4, .inl (fun j => nI (en j)))), (q 15, .inl (cI, 4, .inl (fun j => nI (bs j))))] sz) := by
  refine Met.ofW (cc := b_M_split) (maxL := 8) (ret := (some .int)) (by decide) rfl ?_
  intro p e s m args below meth c s₁ B hml hv
  obtain ⟨rfl, hsz, hC, hP, hD0⟩ := hv
  have hx := B.exec
  have hb := B.bytes
  have hr := B.returns
  have hts : ∀ w ∈ gw, w.before ([.ref (q 0), .int p0, .int p1, .int p2] : List Value).toArray s = true := fun w hw => atoms_spec (ws := Cond.code y_M_split b_M_split 8 (some .int) :: gw) B.pre w (List.mem_cons_of_mem _ hw)
  have hown : s.vm.findClass R_M = some m.cls := findClass_of_methodNamed B.named
  have hlocks := B.notSynchronized
  have hK := hC.1
  have hfr : 5 ≤ (headSpec (Cond.code y_M_split b_M_split 8 (some .int) :: gw) ({ frames := 5, cells := 0, slots := 0, locals := 200 } : Room)).room.frames := Nat.le_refl _
  have hlo : 200 ≤ (headSpec (Cond.code y_M_split b_M_split 8 (some .int) :: gw) ({ frames := 5, cells := 0, slots := 0, locals := 200 } : Room)).room.locals := Nat.le_refl _
  have hce : 0 ≤ (headSpec (Cond.code y_M_split b_M_split 8 (some .int) :: gw) ({ frames := 5, cells := 0, slots := 0, locals := 200 } : Room)).room.cells := Nat.zero_le _
  have hsl : 0 ≤ (headSpec (Cond.code y_M_split b_M_split 8 (some .int) :: gw) ({ frames := 5, cells := 0, slots := 0, locals := 200 } : Room)).room.slots := Nat.zero_le _
  subst hsz
  have hD := hD0.self (sz := s.heap.size)
  unfold wB
  generalize hAe : va_A [(q 0, .inr (6, (mF q th F nt ab be))), (q 1, .inl (cI, 13, .inl (fun j => nI (pp j)))), (q 2, .inl (cI, 13, .inl (fun j => nI (hh j)))), (q 4, .inl (cI, 6, .inl (fun j => nI (rm j)))), (q 5, .inl (cI, 6, .inl (fun j => nI (sd j)))), (q 6, .inl (cI, 6, .inl (fun j => nI (dr j)))), (q 7, .inl (cI, 6, .inl (fun j => nI (pe j)))), (q 12, .inl (cL, 169, .inr (.inl (fun j => lN (xa j))))), (q 13, .inl (cL, 169, .inr (.inl (fun j => lN (xb j))))), (q 14, .inl (cI, 4, .inl (fun j => nI (en j)))), (q 15, .inl (cI, 4, .inl (fun j => nI (bs j))))] s.heap.size = A at hD ⊢
  have hA : ∀ q : Nat, s.heap.size ≤ q → A q := fun q h => by rw [← hAe]; exact Or.inr h
  have hS : va_S A s.heap s.heap [] := va_S.rf
  have hl := lv_entry ([.ref (q 0), .int p0, .int p1, .int p2]) (n := 8) (Nat.le_of_ble_eq_true rfl)
  rw [lg_entry_eq]
  generalize (lg_sl ([.ref (q 0), .int p0, .int p1, .int p2]) ++ List.replicate (8 - (lg_sl ([.ref (q 0), .int p0, .int p1, .int p2])).length) Slot.unset).toArray = ls at hl ⊢
  have hl : lv_has ls 8 [(0, .ref (q 0)), (1, .int p0), (2, .int p1), (3, .int p2)] := hl
  refine lv_aload_n hx hb d_M_split_0 rfl (lv_at hl 0 rfl) ?_
  refine lv_iload_n hx hb d_M_split_1 rfl (lv_at hl 1 rfl) ?_
  refine lv_iconst (v := nI 0) hx hb d_M_split_2 (by decide) ?_
  refine lv_aload_n hx hb d_M_split_3 rfl (lv_at hl 0 rfl) ?_
  refine va_get (D := (dC, dI)) (ci := 6) (v := .int (nI nt)) (C := R_M) (T := F_M) (N := 17) hx hb hts i_M hown hK hP 0 rfl rfl 9 (by decide) (hts _ k_486) (fun _ h9 => h9) rfl d_M_split_4 ?_
  refine lv_iconst (v := nI 1) hx hb d_M_split_7 (by decide) ?_
  refine lv_isub hx hb d_M_split_8 ?_
  refine ro_calli (va_runS (As := [.int p0, .int (nI 0), .int (nI nt - nI 1)]) (rest := [.ref (q 0)]) ⟨hx, hb, hml, hown, hts⟩ (c_M_isIn l p0 (nI 0) (nI nt - nI 1) 0 ((nt : Int) - 1) (nI_toInt (by decide)) (by rw [pk_sub_toInt (by omega) (by decide)]; rfl)) (cwS 3 hts (gw_S k_539 k_537 k_538 k_6) rfl rfl rfl (by decide +kernel) ⟨Nat.le_trans (Nat.le_of_ble_eq_true rfl) hfr, Nat.le_trans (Nat.le_of_ble_eq_true rfl) hlo⟩) ⟨pr_blind, pr_at hC (fun k q h => by simp at h)⟩ rfl rfl hl.1 rfl (lv_room (Nat.le_of_ble_eq_true rfl)) d_M_split_9 ⟨hce, hsl⟩) (fun r9 h9 => ?_)
  subst h9
  refine nx_b_eq (tgt := 35) hx hb d_M_split_12 (by decide) (fun h1 => ?_) (fun h1 => ?_)
  · refine lv_iconst (v := nI 1) hx hb d_M_split_35 (by decide) ?_
    refine lv_goto (tgt := 52) hx hb d_M_split_36 (by decide) ?_
    refine va_put (D := (dC, dI)) (ci := 6) (v := .int (nI 1)) (ty := (.int)) (C := R_M) (T := F_M) (N := 17) hx hb hts i_M ft_M ft_M_ok n_M hown hK hP hD hS 0 rfl rfl 0 (by decide) (hts _ k_477) (fun _ h9 => h9) rfl (by decide +kernel) rfl rfl (Nat.le_of_ble_eq_true rfl) d_M_split_52 (fun H locs hP hD hS => ?_)
    have hP : va_P (dC, dI) vwCl [(q 0, .inr (6, (mF q (nI 1) F nt ab be))), (q 1, .inl (cI, 13, .inl (fun j => nI (pp j)))), (q 2, .inl (cI, 13, .inl (fun j => nI (hh j)))), (q 4, .inl (cI, 6, .inl (fun j => nI (rm j)))), (q 5, .inl (cI, 6, .inl (fun j => nI (sd j)))), (q 6, .inl (cI, 6, .inl (fun j => nI (dr j)))), (q 7, .inl (cI, 6, .inl (fun j => nI (pe j)))), (q 12, .inl (cL, 169, .inr (.inl (fun j => lN (xa j))))), (q 13, .inl (cL, 169, .inr (.inl (fun j => lN (xb j))))), (q 14, .inl (cI, 4, .inl (fun j => nI (en j)))), (q 15, .inl (cI, 4, .inl (fun j => nI (bs j))))] H := hP
    have hD : va_D A [(q 0, .inr (6, (mF q (nI 1) F nt ab be))), (q 1, .inl (cI, 13, .inl (fun j => nI (pp j)))), (q 2, .inl (cI, 13, .inl (fun j => nI (hh j)))), (q 4, .inl (cI, 6, .inl (fun j => nI (rm j)))), (q 5, .inl (cI, 6, .inl (fun j => nI (sd j)))), (q 6, .inl (cI, 6, .inl (fun j => nI (dr j)))), (q 7, .inl (cI, 6, .inl (fun j => nI (pe j)))), (q 12, .inl (cL, 169, .inr (.inl (fun j => lN (xa j))))), (q 13, .inl (cL, 169, .inr (.inl (fun j => lN (xb j))))), (q 14, .inl (cI, 4, .inl (fun j => nI (en j)))), (q 15, .inl (cI, 4, .inl (fun j => nI (bs j))))] := hD
    refine lv_aload_n hx hb d_M_split_55 rfl (lv_at hl 0 rfl) ?_
    refine va_get (D := (dC, dI)) (ci := 6) (v := .int (nI 1)) (C := R_M) (T := F_M) (N := 17) hx hb hts i_M hown hK hP 0 rfl rfl 0 (by decide) (hts _ k_477) (fun _ h9 => h9) rfl d_M_split_56 ?_
    refine nx_if_le (tgt := 64) hx hb d_M_split_59 (by decide) (by omega) (fun h9 => ?_) (fun h9 => ?_)
    · exact absurd h9 (by omega)
    · refine lv_iconst (v := nI 0) hx hb d_M_split_62 (by decide) ?_
      exact W.iret hx hb hr (fun t ht hW => ⟨⟨_, (), rfl, rfl, by rw [ht]; exact hP, hD⟩, hS.F ht⟩) hS.2.2 d_M_split_63
  · refine lv_iload_n hx hb d_M_split_15 rfl (lv_at hl 2 rfl) ?_
    refine lv_iconst (v := nI 1) hx hb d_M_split_16 (by decide) ?_
    refine lv_iconst (v := nI 4) hx hb d_M_split_17 (by decide) ?_
    refine ro_calli (va_runS (As := [.int p1, .int (nI 1), .int (nI 4)]) (rest := [.ref (q 0)]) ⟨hx, hb, hml, hown, hts⟩ (c_M_isIn l p1 (nI 1) (nI 4) 1 4 (nI_toInt (by decide)) (nI_toInt (by decide))) (cwS 3 hts (gw_S k_539 k_537 k_538 k_6) rfl rfl rfl (by decide +kernel) ⟨Nat.le_trans (Nat.le_of_ble_eq_true rfl) hfr, Nat.le_trans (Nat.le_of_ble_eq_true rfl) hlo⟩) ⟨pr_blind, pr_at hC (fun k q h => by simp at h)⟩ rfl rfl hl.1 rfl (lv_room (Nat.le_of_ble_eq_true rfl)) d_M_split_18 ⟨hce, hsl⟩) (fun r9 h9 => ?_)
    subst h9
    refine nx_b_eq (tgt := 35) hx hb d_M_split_21 (by decide) (fun h2 => ?_) (fun h2 => ?_)
    · refine lv_iconst (v := nI 1) hx hb d_M_split_35 (by decide) ?_
      refine lv_goto (tgt := 52) hx hb d_M_split_36 (by decide) ?_
      refine va_put (D := (dC, dI)) (ci := 6) (v := .int (nI 1)) (ty := (.int)) (C := R_M) (T := F_M) (N := 17) hx hb hts i_M ft_M ft_M_ok n_M hown hK hP hD hS 0 rfl rfl 0 (by decide) (hts _ k_477) (fun _ h9 => h9) rfl (by decide +kernel) rfl rfl (Nat.le_of_ble_eq_true rfl) d_M_split_52 (fun H locs hP hD hS => ?_)
      have hP : va_P (dC, dI) vwCl [(q 0, .inr (6, (mF q (nI 1) F nt ab be))), (q 1, .inl (cI, 13, .inl (fun j => nI (pp j)))), (q 2, .inl (cI, 13, .inl (fun j => nI (hh j)))), (q 4, .inl (cI, 6, .inl (fun j => nI (rm j)))), (q 5, .inl (cI, 6, .inl (fun j => nI (sd j)))), (q 6, .inl (cI, 6, .inl (fun j => nI (dr j)))), (q 7, .inl (cI, 6, .inl (fun j => nI (pe j)))), (q 12, .inl (cL, 169, .inr (.inl (fun j => lN (xa j))))), (q 13, .inl (cL, 169, .inr (.inl (fun j => lN (xb j))))), (q 14, .inl (cI, 4, .inl (fun j => nI (en j)))), (q 15, .inl (cI, 4, .inl (fun j => nI (bs j))))] H := hP
      have hD : va_D A [(q 0, .inr (6, (mF q (nI 1) F nt ab be))), (q 1, .inl (cI, 13, .inl (fun j => nI (pp j)))), (q 2, .inl (cI, 13, .inl (fun j => nI (hh j)))), (q 4, .inl (cI, 6, .inl (fun j => nI (rm j)))), (q 5, .inl (cI, 6, .inl (fun j => nI (sd j)))), (q 6, .inl (cI, 6, .inl (fun j => nI (dr j)))), (q 7, .inl (cI, 6, .inl (fun j => nI (pe j)))), (q 12, .inl (cL, 169, .inr (.inl (fun j => lN (xa j))))), (q 13, .inl (cL, 169, .inr (.inl (fun j => lN (xb j))))), (q 14, .inl (cI, 4, .inl (fun j => nI (en j)))), (q 15, .inl (cI, 4, .inl (fun j => nI (bs j))))] := hD
      refine lv_aload_n hx hb d_M_split_55 rfl (lv_at hl 0 rfl) ?_
      refine va_get (D := (dC, dI)) (ci := 6) (v := .int (nI 1)) (C := R_M) (T := F_M) (N := 17) hx hb hts i_M hown hK hP 0 rfl rfl 0 (by decide) (hts _ k_477) (fun _ h9 => h9) rfl d_M_split_56 ?_
      refine nx_if_le (tgt := 64) hx hb d_M_split_59 (by decide) (by omega) (fun h9 => ?_) (fun h9 => ?_)
      · exact absurd h9 (by omega)
      · refine lv_iconst (v := nI 0) hx hb d_M_split_62 (by decide) ?_
        exact W.iret hx hb hr (fun t ht hW => ⟨⟨_, (), rfl, rfl, by rw [ht]; exact hP, hD⟩, hS.F ht⟩) hS.2.2 d_M_split_63
    · have h2b := h2
      obtain ⟨k1, hk1, hk4, ek1⟩ := in_ex (lo := 1) (hi := 4) (by decide) h2b
      subst ek1
      rw [nI_toInt (by omega)] at hbad h2
      refine lv_iload_n hx hb d_M_split_24 rfl (lv_at hl 3 rfl) ?_
      refine lv_iconst (v := nI 0) hx hb d_M_split_25 (by decide) ?_
      refine lv_iload_n hx hb d_M_split_26 rfl (lv_at hl 2 rfl) ?_
      refine lv_iconst (v := nI 1) hx hb d_M_split_27 (by decide) ?_
      refine nx_isub hx hb d_M_split_28 (by omega) ?_
      refine ro_calli (va_runS (As := [.int p2, .int (nI 0), .int (nI (k1 - 1))]) (rest := [.ref (q 0)]) ⟨hx, hb, hml, hown, hts⟩ (c_M_isIn l p2 (nI 0) (nI (k1 - 1)) 0 ((k1 : Int) - 1) (nI_toInt (by decide)) (by rw [nI_toInt (by omega)]; omega)) (cwS 3 hts (gw_S k_539 k_537 k_538 k_6) rfl rfl rfl (by decide +kernel) ⟨Nat.le_trans (Nat.le_of_ble_eq_true rfl) hfr, Nat.le_trans (Nat.le_of_ble_eq_true rfl) hlo⟩) ⟨pr_blind, pr_at hC (fun k q h => by simp at h)⟩ rfl rfl hl.1 rfl (lv_room (Nat.le_of_ble_eq_true rfl)) d_M_split_29 ⟨hce, hsl⟩) (fun r9 h9 => ?_)
      subst h9
      refine nx_b_ne (tgt := 39) hx hb d_M_split_32 (by decide) (fun h3 => ?_) (fun h3 => ?_)
      · exact absurd ⟨(by unfold okTy; omega), h2, h3⟩ hbad
      · refine lv_iconst (v := nI 1) hx hb d_M_split_35 (by decide) ?_
        refine lv_goto (tgt := 52) hx hb d_M_split_36 (by decide) ?_
        refine va_put (D := (dC, dI)) (ci := 6) (v := .int (nI 1)) (ty := (.int)) (C := R_M) (T := F_M) (N := 17) hx hb hts i_M ft_M ft_M_ok n_M hown hK hP hD hS 0 rfl rfl 0 (by decide) (hts _ k_477) (fun _ h9 => h9) rfl (by decide +kernel) rfl rfl (Nat.le_of_ble_eq_true rfl) d_M_split_52 (fun H locs hP hD hS => ?_)
        have hP : va_P (dC, dI) vwCl [(q 0, .inr (6, (mF q (nI 1) F nt ab be))), (q 1, .inl (cI, 13, .inl (fun j => nI (pp j)))), (q 2, .inl (cI, 13, .inl (fun j => nI (hh j)))), (q 4, .inl (cI, 6, .inl (fun j => nI (rm j)))), (q 5, .inl (cI, 6, .inl (fun j => nI (sd j)))), (q 6, .inl (cI, 6, .inl (fun j => nI (dr j)))), (q 7, .inl (cI, 6, .inl (fun j => nI (pe j)))), (q 12, .inl (cL, 169, .inr (.inl (fun j => lN (xa j))))), (q 13, .inl (cL, 169, .inr (.inl (fun j => lN (xb j))))), (q 14, .inl (cI, 4, .inl (fun j => nI (en j)))), (q 15, .inl (cI, 4, .inl (fun j => nI (bs j))))] H := hP
        have hD : va_D A [(q 0, .inr (6, (mF q (nI 1) F nt ab be))), (q 1, .inl (cI, 13, .inl (fun j => nI (pp j)))), (q 2, .inl (cI, 13, .inl (fun j => nI (hh j)))), (q 4, .inl (cI, 6, .inl (fun j => nI (rm j)))), (q 5, .inl (cI, 6, .inl (fun j => nI (sd j)))), (q 6, .inl (cI, 6, .inl (fun j => nI (dr j)))), (q 7, .inl (cI, 6, .inl (fun j => nI (pe j)))), (q 12, .inl (cL, 169, .inr (.inl (fun j => lN (xa j))))), (q 13, .inl (cL, 169, .inr (.inl (fun j => lN (xb j))))), (q 14, .inl (cI, 4, .inl (fun j => nI (en j)))), (q 15, .inl (cI, 4, .inl (fun j => nI (bs j))))] := hD
        refine lv_aload_n hx hb d_M_split_55 rfl (lv_at hl 0 rfl) ?_
        refine va_get (D := (dC, dI)) (ci := 6) (v := .int (nI 1)) (C := R_M) (T := F_M) (N := 17) hx hb hts i_M hown hK hP 0 rfl rfl 0 (by decide) (hts _ k_477) (fun _ h9 => h9) rfl d_M_split_56 ?_
        refine nx_if_le (tgt := 64) hx hb d_M_split_59 (by decide) (by omega) (fun h9 => ?_) (fun h9 => ?_)
        · exact absurd h9 (by omega)
        · refine lv_iconst (v := nI 0) hx hb d_M_split_62 (by decide) ?_
          exact W.iret hx hb hr (fun t ht hW => ⟨⟨_, (), rfl, rfl, by rw [ht]; exact hP, hD⟩, hS.F ht⟩) hS.2.2 d_M_split_63
set_option maxHeartbeats 4000000 in
set_option maxRecDepth 100000 in
theorem c_M_split_b2 (l : Launch) {dC : Nat → ClassId} {dI : Nat → Nat → Nat} {cI cL cT : ClassId} {sa : Nat → Nat} (sz : Nat) (q : Nat → Nat) (th : Int32) (F nt : Nat) (ab be : Int64) (pp hh rm sd dr pe xa xb en bs : Nat → Nat) (t0 k jj : Nat) (hF12 : F ≤ 12) (hn6 : nt ≤ 6) (ht0 : t0 < nt) (hk1 : 1 ≤ k) (hk4 : k ≤ 4) (hj : jj ≤ k - 1) (hbad : F < k) : Met l y_M_split (Cond.code y_M_split b_M_split 8 (some .int) :: gw) ({ frames := 5, cells := 0, slots := 0, locals := 200 } : Room) (wr dC dI cI cL cT sa [.ref (q 0), .int (nI t0), .int (nI k), .int (nI jj)] [(q 0, .inr (6, (mF q th F nt ab be))), (q 1, .inl (cI, 13, .inl (fun j => nI (pp j)))), (q 2, .inl (cI, 13, .inl (fun j => nI (hh j)))), (q 4, .inl (cI, 6, .inl (fun j => nI (rm j)))), (q 5, .inl (cI, 6, .inl (fun j => nI (sd j)))), (q 6, .inl (cI, 6, .inl (fun j => nI (dr j)))), (q 7, .inl (cI, 6, .inl (fun j => nI (pe j)))), (q 12, .inl (cL, 169, .inr (.inl (fun j => lN (xa j))))), (q 13, .inl (cL, 169, .inr (.inl (fun j => lN (xb j))))), (q 14, .inl (cI, 4, .inl (fun j => nI (en j)))), (q 15, .inl (cI, 4, .inl (fun j => nI (bs j))))] sz) (va_Qi (fun r (_ : Unit) => r = nI 0) (wB dC dI [(q 0, .inr (6, (mF q th F nt ab be))), (q 1, .inl (cI, 13, .inl (fun j => nI (pp j)))), (q 2, .inl (cI, 13, .inl (fun j => nI (hh j)))), (q 4, .inl (cI, 6, .inl (fun j => nI (rm j)))), (q 5, .inl (cI, 6, .inl (fun j => nI (sd j)))), (q 6, .inl (cI, 6, .inl (fun j => nI (dr j)))), (q 7, .inl (cI, 6, .inl (fun j => nI (pe j)))), (q 12, .inl (cL, 169, .inr (.inl (fun j => lN (xa j))))), (q 13, .inl (cL, 169, .inr (.inl (fun j => lN (xb j))))), (q 14, .inl (cI, 4, .inl (fun j => nI (en j)))), (q 15, .inl (cI, 4, .inl (fun j => nI (bs j))))] [(q 0, .inr (6, (mF q (nI 2) F nt ab be))), (q 1, .inl (cI, 13, .inl (fun j => nI (pp j)))), (q 2, .inl (cI, 13, .inl (fun j => nI (hh j)))), (q 4, .inl (cI, 6, .inl (fun j => nI (rm j)))), (q 5, .inl (cI, 6, .inl (fun j => nI (sd j)))), (q 6, .inl (cI, 6, .inl (fun j => nI (dr j)))), (q 7, .inl (cI, 6, .inl (fun j => nI (pe j)))), (q 12, .inl (cL, 169, .inr (.inl (fun j => lN (xa j))))), (q 13, .inl (cL, 169, .inr (.inl (fun j => lN (xb j))))), (q 14, .inl (cI, 4, .inl (fun j => nI (en j)))), (q 15, .inl (cI, 4, .inl (fun j => nI (bs j))))] sz) (va_A [(q 0, .inr (6, (mF q th F nt ab be))), (q 1, .inl (cI, 13, .inl (fun j => nI (pp j)))), (q 2, .inl (cI, 13, .inl (fun j => nI (hh j)))), (q 4, .inl (cI, 6, .inl (fun j => nI (rm j)))), (q 5, .inl (cI, 6, .inl (fun j => nI (sd j)))), (q 6, .inl (cI, 6, .inl (fun j => nI (dr j)))), (q 7, .inl (cI, 6, .inl (fun j => nI (pe j)))), (q 12, .inl (cL, 169, .inr (.inl (fun j => lN (xa j))))), (q 13, .inl (cL, 169, .inr (.inl (fun j => lN (xb j))))), (q 14, .inl (cI, 4, .inl (fun j => nI (en j)))), (q 15, .inl (cI, 4, .inl (fun j => nI (bs j))))] sz)) 0 0 (va_A [(q 0, .inr (6, (mF q th F nt ab be))), (q 1, .inl (cI, 13, .inl (fun j => nI (pp j)))), (q 2, .inl (cI, 13, .inl (fun j => nI (hh j)))), (q 4, .inl (cI, 6, .inl (fun j => nI (rm j)))), (q 5, .inl (cI, 6, .inl (fun j => nI (sd j)))), (q 6, .inl (cI, 6, .inl (fun j => nI (dr j)))), (q 7, .inl (cI, 6, .inl (fun j => nI (pe j)))), (q 12, .inl (cL, 169, .inr (.inl (fun j => lN (xa j))))), (q 13, .inl (cL, 169, .inr (.inl (fun j => lN (xb j))))), (q 14, .inl (cI, 4, .inl (fun j => nI (en j)))), (q 15, .inl (cI, 4, .inl (fun j => nI (bs j))))] sz) := by
  refine Met.ofW (cc := b_M_split) (maxL := 8) (ret := (some .int)) (by decide) rfl ?_
  intro p e s m args below meth c s₁ B hml hv
  obtain ⟨rfl, hsz, hC, hP, hD0⟩ := hv
  have hx := B.exec
  have hb := B.bytes
  have hr := B.returns
  have hts : ∀ w ∈ gw, w.before ([.ref (q 0), .int (nI t0), .int (nI k), .int (nI jj)] : List Value).toArray s = true := fun w hw => atoms_spec (ws := Cond.code y_M_split b_M_split 8 (some .int) :: gw) B.pre w (List.mem_cons_of_mem _ hw)
  have hown : s.vm.findClass R_M = some m.cls := findClass_of_methodNamed B.named
  have hlocks := B.notSynchronized
  have hK := hC.1
  have hfr : 5 ≤ (headSpec (Cond.code y_M_split b_M_split 8 (some .int) :: gw) ({ frames := 5, cells := 0, slots := 0, locals := 200 } : Room)).room.frames := Nat.le_refl _
  have hlo : 200 ≤ (headSpec (Cond.code y_M_split b_M_split 8 (some .int) :: gw) ({ frames := 5, cells := 0, slots := 0, locals := 200 } : Room)).room.locals := Nat.le_refl _
  have hce : 0 ≤ (headSpec (Cond.code y_M_split b_M_split 8 (some .int) :: gw) ({ frames := 5, cells := 0, slots := 0, locals := 200 } : Room)).room.cells := Nat.zero_le _
  have hsl : 0 ≤ (headSpec (Cond.code y_M_split b_M_split 8 (some .int) :: gw) ({ frames := 5, cells := 0, slots := 0, locals := 200 } : Room)).room.slots := Nat.zero_le _
  subst hsz
  have hD := hD0.self (sz := s.heap.size)
  unfold wB
  generalize hAe : va_A [(q 0, .inr (6, (mF q th F nt ab be))), (q 1, .inl (cI, 13, .inl (fun j => nI (pp j)))), (q 2, .inl (cI, 13, .inl (fun j => nI (hh j)))), (q 4, .inl (cI, 6, .inl (fun j => nI (rm j)))), (q 5, .inl (cI, 6, .inl (fun j => nI (sd j)))), (q 6, .inl (cI, 6, .inl (fun j => nI (dr j)))), (q 7, .inl (cI, 6, .inl (fun j => nI (pe j)))), (q 12, .inl (cL, 169, .inr (.inl (fun j => lN (xa j))))), (q 13, .inl (cL, 169, .inr (.inl (fun j => lN (xb j))))), (q 14, .inl (cI, 4, .inl (fun j => nI (en j)))), (q 15, .inl (cI, 4, .inl (fun j => nI (bs j))))] s.heap.size = A at hD ⊢
  have hA : ∀ q : Nat, s.heap.size ≤ q → A q := fun q h => by rw [← hAe]; exact Or.inr h
  have hS : va_S A s.heap s.heap [] := va_S.rf
  have hl := lv_entry ([.ref (q 0), .int (nI t0), .int (nI k), .int (nI jj)]) (n := 8) (Nat.le_of_ble_eq_true rfl)
  rw [lg_entry_eq]
  generalize (lg_sl ([.ref (q 0), .int (nI t0), .int (nI k), .int (nI jj)]) ++ List.replicate (8 - (lg_sl ([.ref (q 0), .int (nI t0), .int (nI k), .int (nI jj)])).length) Slot.unset).toArray = ls at hl ⊢
  have hl : lv_has ls 8 [(0, .ref (q 0)), (1, .int (nI t0)), (2, .int (nI k)), (3, .int (nI jj))] := hl
  have hkk := hk1
  have hty := okTy_N ht0 hn6
  refine lv_aload_n hx hb d_M_split_0 rfl (lv_at hl 0 rfl) ?_
  refine lv_iload_n hx hb d_M_split_1 rfl (lv_at hl 1 rfl) ?_
  refine lv_iconst (v := nI 0) hx hb d_M_split_2 (by decide) ?_
  refine lv_aload_n hx hb d_M_split_3 rfl (lv_at hl 0 rfl) ?_
  refine va_get (D := (dC, dI)) (ci := 6) (v := .int (nI nt)) (C := R_M) (T := F_M) (N := 17) hx hb hts i_M hown hK hP 0 rfl rfl 9 (by decide) (hts _ k_486) (fun _ h9 => h9) rfl d_M_split_4 ?_
  refine lv_iconst (v := nI 1) hx hb d_M_split_7 (by decide) ?_
  refine lv_isub hx hb d_M_split_8 ?_
  refine ro_calli (va_runS (As := [.int (nI t0), .int (nI 0), .int (nI nt - nI 1)]) (rest := [.ref (q 0)]) ⟨hx, hb, hml, hown, hts⟩ (c_M_isIn l (nI t0) (nI 0) (nI nt - nI 1) 0 ((nt : Int) - 1) (nI_toInt (by decide)) (by rw [pk_sub_toInt (by omega) (by decide)]; rfl)) (cwS 3 hts (gw_S k_539 k_537 k_538 k_6) rfl rfl rfl (by decide +kernel) ⟨Nat.le_trans (Nat.le_of_ble_eq_true rfl) hfr, Nat.le_trans (Nat.le_of_ble_eq_true rfl) hlo⟩) ⟨pr_blind, pr_at hC (fun k q h => by simp at h)⟩ rfl rfl hl.1 rfl (lv_room (Nat.le_of_ble_eq_true rfl)) d_M_split_9 ⟨hce, hsl⟩) (fun r9 h9 => ?_)
  subst h9
  refine nx_b_eq (tgt := 35) hx hb d_M_split_12 (by decide) (fun h1 => ?_) (fun h1 => ?_)
  · exact absurd (by unfold okTy at hty; omega) h1
  · refine lv_iload_n hx hb d_M_split_15 rfl (lv_at hl 2 rfl) ?_
    refine lv_iconst (v := nI 1) hx hb d_M_split_16 (by decide) ?_
    refine lv_iconst (v := nI 4) hx hb d_M_split_17 (by decide) ?_
    refine ro_calli (va_runS (As := [.int (nI k), .int (nI 1), .int (nI 4)]) (rest := [.ref (q 0)]) ⟨hx, hb, hml, hown, hts⟩ (c_M_isInN l k 1 4 (by omega) (by decide) (by decide)) (cwS 3 hts (gw_S k_539 k_537 k_538 k_6) rfl rfl rfl (by decide +kernel) ⟨Nat.le_trans (Nat.le_of_ble_eq_true rfl) hfr, Nat.le_trans (Nat.le_of_ble_eq_true rfl) hlo⟩) ⟨pr_blind, pr_at hC (fun k q h => by simp at h)⟩ rfl rfl hl.1 rfl (lv_room (Nat.le_of_ble_eq_true rfl)) d_M_split_18 ⟨hce, hsl⟩) (fun r9 h9 => ?_)
    subst h9
    refine nx_b_eq (tgt := 35) hx hb d_M_split_21 (by decide) (fun h2 => ?_) (fun h2 => ?_)
    · exact absurd (show 1 ≤ k ∧ k ≤ 4 by omega) h2
    · refine lv_iload_n hx hb d_M_split_24 rfl (lv_at hl 3 rfl) ?_
      refine lv_iconst (v := nI 0) hx hb d_M_split_25 (by decide) ?_
      refine lv_iload_n hx hb d_M_split_26 rfl (lv_at hl 2 rfl) ?_
      refine lv_iconst (v := nI 1) hx hb d_M_split_27 (by decide) ?_
      refine nx_isub hx hb d_M_split_28 (by omega) ?_
      refine ro_calli (va_runS (As := [.int (nI jj), .int (nI 0), .int (nI (k - 1))]) (rest := [.ref (q 0)]) ⟨hx, hb, hml, hown, hts⟩ (c_M_isInN l jj 0 (k - 1) (by omega) (by decide) (by omega)) (cwS 3 hts (gw_S k_539 k_537 k_538 k_6) rfl rfl rfl (by decide +kernel) ⟨Nat.le_trans (Nat.le_of_ble_eq_true rfl) hfr, Nat.le_trans (Nat.le_of_ble_eq_true rfl) hlo⟩) ⟨pr_blind, pr_at hC (fun k q h => by simp at h)⟩ rfl rfl hl.1 rfl (lv_room (Nat.le_of_ble_eq_true rfl)) d_M_split_29 ⟨hce, hsl⟩) (fun r9 h9 => ?_)
      subst h9
      refine nx_b_ne (tgt := 39) hx hb d_M_split_32 (by decide) (fun h3 => ?_) (fun h3 => ?_)
      · refine lv_aload_n hx hb d_M_split_39 rfl (lv_at hl 0 rfl) ?_
        refine va_get (D := (dC, dI)) (ci := 6) (v := .int (nI F)) (C := R_M) (T := F_M) (N := 17) hx hb hts i_M hown hK hP 0 rfl rfl 3 (by decide) (hts _ k_480) (fun _ h9 => h9) rfl d_M_split_40 ?_
        refine lv_iload_n hx hb d_M_split_43 rfl (lv_at hl 2 rfl) ?_
        refine nx_icmp_ge (tgt := 51) hx hb d_M_split_44 (by decide) (by omega) (by omega) (fun h4 => ?_) (fun h4 => ?_)
        · exact absurd h4 (by omega)
        · refine lv_iconst (v := nI 2) hx hb d_M_split_47 (by decide) ?_
          refine lv_goto (tgt := 52) hx hb d_M_split_48 (by decide) ?_
          refine va_put (D := (dC, dI)) (ci := 6) (v := .int (nI 2)) (ty := (.int)) (C := R_M) (T := F_M) (N := 17) hx hb hts i_M ft_M ft_M_ok n_M hown hK hP hD hS 0 rfl rfl 0 (by decide) (hts _ k_477) (fun _ h9 => h9) rfl (by decide +kernel) rfl rfl (Nat.le_of_ble_eq_true rfl) d_M_split_52 (fun H locs hP hD hS => ?_)
          have hP : va_P (dC, dI) vwCl [(q 0, .inr (6, (mF q (nI 2) F nt ab be))), (q 1, .inl (cI, 13, .inl (fun j => nI (pp j)))), (q 2, .inl (cI, 13, .inl (fun j => nI (hh j)))), (q 4, .inl (cI, 6, .inl (fun j => nI (rm j)))), (q 5, .inl (cI, 6, .inl (fun j => nI (sd j)))), (q 6, .inl (cI, 6, .inl (fun j => nI (dr j)))), (q 7, .inl (cI, 6, .inl (fun j => nI (pe j)))), (q 12, .inl (cL, 169, .inr (.inl (fun j => lN (xa j))))), (q 13, .inl (cL, 169, .inr (.inl (fun j => lN (xb j))))), (q 14, .inl (cI, 4, .inl (fun j => nI (en j)))), (q 15, .inl (cI, 4, .inl (fun j => nI (bs j))))] H := hP
          have hD : va_D A [(q 0, .inr (6, (mF q (nI 2) F nt ab be))), (q 1, .inl (cI, 13, .inl (fun j => nI (pp j)))), (q 2, .inl (cI, 13, .inl (fun j => nI (hh j)))), (q 4, .inl (cI, 6, .inl (fun j => nI (rm j)))), (q 5, .inl (cI, 6, .inl (fun j => nI (sd j)))), (q 6, .inl (cI, 6, .inl (fun j => nI (dr j)))), (q 7, .inl (cI, 6, .inl (fun j => nI (pe j)))), (q 12, .inl (cL, 169, .inr (.inl (fun j => lN (xa j))))), (q 13, .inl (cL, 169, .inr (.inl (fun j => lN (xb j))))), (q 14, .inl (cI, 4, .inl (fun j => nI (en j)))), (q 15, .inl (cI, 4, .inl (fun j => nI (bs j))))] := hD
          refine lv_aload_n hx hb d_M_split_55 rfl (lv_at hl 0 rfl) ?_
          refine va_get (D := (dC, dI)) (ci := 6) (v := .int (nI 2)) (C := R_M) (T := F_M) (N := 17) hx hb hts i_M hown hK hP 0 rfl rfl 0 (by decide) (hts _ k_477) (fun _ h9 => h9) rfl d_M_split_56 ?_
          refine nx_if_le (tgt := 64) hx hb d_M_split_59 (by decide) (by omega) (fun h9 => ?_) (fun h9 => ?_)
          · exact absurd h9 (by omega)
          · refine lv_iconst (v := nI 0) hx hb d_M_split_62 (by decide) ?_
            exact W.iret hx hb hr (fun t ht hW => ⟨⟨_, (), rfl, rfl, by rw [ht]; exact hP, hD⟩, hS.F ht⟩) hS.2.2 d_M_split_63
      · exact absurd (show 0 ≤ jj ∧ jj ≤ k - 1 by omega) h3
set_option maxHeartbeats 4000000 in
set_option maxRecDepth 100000 in
theorem c_M_split (l : Launch) {dC : Nat → ClassId} {dI : Nat → Nat → Nat} {cI cL cT : ClassId} {sa : Nat → Nat} (sz : Nat) (q : Nat → Nat) (th : Int32) (F nt : Nat) (ab be : Int64) (pp hh rm sd dr pe xa xb en bs : Nat → Nat) (t0 k jj : Nat) (hF12 : F ≤ 12) (hU2 : sm pp 1 F ≤ 200) (hhh : ∀ k, k < F → hh (1 + k) ≤ 1200) (hn6 : nt ≤ 6) (ht0 : t0 < nt) (hk1 : 1 ≤ k) (hk4 : k ≤ 4) (hj : jj ≤ k - 1) (hkF : k ≤ F) (hrm : 1 ≤ rm t0 ∧ rm t0 ≤ 5) (hsd : 1 ≤ sd t0 ∧ sd t0 ≤ 100) (hdr : dr t0 ≤ 30) (hpe : pe t0 ≤ 10) : Met l y_M_split (Cond.code y_M_split b_M_split 8 (some .int) :: gw) ({ frames := 5, cells := 0, slots := 0, locals := 200 } : Room) (wr dC dI cI cL cT sa [.ref (q 0), .int (nI t0), .int (nI k), .int (nI jj)] [(q 0, .inr (6, (mF q th F nt ab be))), (q 1, .inl (cI, 13, .inl (fun j => nI (pp j)))), (q 2, .inl (cI, 13, .inl (fun j => nI (hh j)))), (q 4, .inl (cI, 6, .inl (fun j => nI (rm j)))), (q 5, .inl (cI, 6, .inl (fun j => nI (sd j)))), (q 6, .inl (cI, 6, .inl (fun j => nI (dr j)))), (q 7, .inl (cI, 6, .inl (fun j => nI (pe j)))), (q 12, .inl (cL, 169, .inr (.inl (fun j => lN (xa j))))), (q 13, .inl (cL, 169, .inr (.inl (fun j => lN (xb j))))), (q 14, .inl (cI, 4, .inl (fun j => nI (en j)))), (q 15, .inl (cI, 4, .inl (fun j => nI (bs j))))] sz) (va_Qi (fun r (u : (Nat → Nat) × (Nat → Nat) × (Int64 × Int64) × (Nat → Nat) × (Nat → Nat)) => ∃ be bl, isBst (zA pp hh (rm t0) (sd t0) (dr t0) (pe t0)) (zB pp (rm t0) (sd t0)) k (vs F k) be bl ∧ r = nI (be jj)) (fun (u : (Nat → Nat) × (Nat → Nat) × (Int64 × Int64) × (Nat → Nat) × (Nat → Nat)) => wB dC dI [(q 0, .inr (6, (mF q th F nt ab be))), (q 1, .inl (cI, 13, .inl (fun j => nI (pp j)))), (q 2, .inl (cI, 13, .inl (fun j => nI (hh j)))), (q 4, .inl (cI, 6, .inl (fun j => nI (rm j)))), (q 5, .inl (cI, 6, .inl (fun j => nI (sd j)))), (q 6, .inl (cI, 6, .inl (fun j => nI (dr j)))), (q 7, .inl (cI, 6, .inl (fun j => nI (pe j)))), (q 12, .inl (cL, 169, .inr (.inl (fun j => lN (xa j))))), (q 13, .inl (cL, 169, .inr (.inl (fun j => lN (xb j))))), (q 14, .inl (cI, 4, .inl (fun j => nI (en j)))), (q 15, .inl (cI, 4, .inl (fun j => nI (bs j))))] [(q 0, .inr (6, (mF q (nI 0) F nt (u.2.2.1.1) (u.2.2.1.2)))), (q 1, .inl (cI, 13, .inl (fun j => nI (pp j)))), (q 2, .inl (cI, 13, .inl (fun j => nI (hh j)))), (q 4, .inl (cI, 6, .inl (fun j => nI (rm j)))), (q 5, .inl (cI, 6, .inl (fun j => nI (sd j)))), (q 6, .inl (cI, 6, .inl (fun j => nI (dr j)))), (q 7, .inl (cI, 6, .inl (fun j => nI (pe j)))), (q 12, .inl (cL, 169, .inr (.inl (fun j => lN ((u.1) j))))), (q 13, .inl (cL, 169, .inr (.inl (fun j => lN ((u.2.1) j))))), (q 14, .inl (cI, 4, .inl (fun j => nI ((u.2.2.2.1) j)))), (q 15, .inl (cI, 4, .inl (fun j => nI ((u.2.2.2.2) j))))] sz ()) (va_A [(q 0, .inr (6, (mF q th F nt ab be))), (q 1, .inl (cI, 13, .inl (fun j => nI (pp j)))), (q 2, .inl (cI, 13, .inl (fun j => nI (hh j)))), (q 4, .inl (cI, 6, .inl (fun j => nI (rm j)))), (q 5, .inl (cI, 6, .inl (fun j => nI (sd j)))), (q 6, .inl (cI, 6, .inl (fun j => nI (dr j)))), (q 7, .inl (cI, 6, .inl (fun j => nI (pe j)))), (q 12, .inl (cL, 169, .inr (.inl (fun j => lN (xa j))))), (q 13, .inl (cL, 169, .inr (.inl (fun j => lN (xb j))))), (q 14, .inl (cI, 4, .inl (fun j => nI (en j)))), (q 15, .inl (cI, 4, .inl (fun j => nI (bs j))))] sz)) 0 0 (va_A [(q 0, .inr (6, (mF q th F nt ab be))), (q 1, .inl (cI, 13, .inl (fun j => nI (pp j)))), (q 2, .inl (cI, 13, .inl (fun j => nI (hh j)))), (q 4, .inl (cI, 6, .inl (fun j => nI (rm j)))), (q 5, .inl (cI, 6, .inl (fun j => nI (sd j)))), (q 6, .inl (cI, 6, .inl (fun j => nI (dr j)))), (q 7, .inl (cI, 6, .inl (fun j => nI (pe j)))), (q 12, .inl (cL, 169, .inr (.inl (fun j => lN (xa j))))), (q 13, .inl (cL, 169, .inr (.inl (fun j => lN (xb j))))), (q 14, .inl (cI, 4, .inl (fun j => nI (en j)))), (q 15, .inl (cI, 4, .inl (fun j => nI (bs j))))] sz) := by
  refine Met.ofW (cc := b_M_split) (maxL := 8) (ret := (some .int)) (by decide) rfl ?_
  intro p e s m args below meth c s₁ B hml hv
  obtain ⟨rfl, hsz, hC, hP, hD0⟩ := hv
  have hx := B.exec
  have hb := B.bytes
  have hr := B.returns
  have hts : ∀ w ∈ gw, w.before ([.ref (q 0), .int (nI t0), .int (nI k), .int (nI jj)] : List Value).toArray s = true := fun w hw => atoms_spec (ws := Cond.code y_M_split b_M_split 8 (some .int) :: gw) B.pre w (List.mem_cons_of_mem _ hw)
  have hown : s.vm.findClass R_M = some m.cls := findClass_of_methodNamed B.named
  have hlocks := B.notSynchronized
  have hK := hC.1
  have hfr : 5 ≤ (headSpec (Cond.code y_M_split b_M_split 8 (some .int) :: gw) ({ frames := 5, cells := 0, slots := 0, locals := 200 } : Room)).room.frames := Nat.le_refl _
  have hlo : 200 ≤ (headSpec (Cond.code y_M_split b_M_split 8 (some .int) :: gw) ({ frames := 5, cells := 0, slots := 0, locals := 200 } : Room)).room.locals := Nat.le_refl _
  have hce : 0 ≤ (headSpec (Cond.code y_M_split b_M_split 8 (some .int) :: gw) ({ frames := 5, cells := 0, slots := 0, locals := 200 } : Room)).room.cells := Nat.zero_le _
  have hsl : 0 ≤ (headSpec (Cond.code y_M_split b_M_split 8 (some .int) :: gw) ({ frames := 5, cells := 0, slots := 0, locals := 200 } : Room)).room.slots := Nat.zero_le _
  subst hsz
  have hD := hD0.self (sz := s.heap.size)
  unfold wB
  generalize hAe : va_A [(q 0, .inr (6, (mF q th F nt ab be))), (q 1, .inl (cI, 13, .inl (fun j => nI (pp j)))), (q 2, .inl (cI, 13, .inl (fun j => nI (hh j)))), (q 4, .inl (cI, 6, .inl (fun j => nI (rm j)))), (q 5, .inl (cI, 6, .inl (fun j => nI (sd j)))), (q 6, .inl (cI, 6, .inl (fun j => nI (dr j)))), (q 7, .inl (cI, 6, .inl (fun j => nI (pe j)))), (q 12, .inl (cL, 169, .inr (.inl (fun j => lN (xa j))))), (q 13, .inl (cL, 169, .inr (.inl (fun j => lN (xb j))))), (q 14, .inl (cI, 4, .inl (fun j => nI (en j)))), (q 15, .inl (cI, 4, .inl (fun j => nI (bs j))))] s.heap.size = A at hD ⊢
  have hA : ∀ q : Nat, s.heap.size ≤ q → A q := fun q h => by rw [← hAe]; exact Or.inr h
  have hS : va_S A s.heap s.heap [] := va_S.rf
  have hl := lv_entry ([.ref (q 0), .int (nI t0), .int (nI k), .int (nI jj)]) (n := 8) (Nat.le_of_ble_eq_true rfl)
  rw [lg_entry_eq]
  generalize (lg_sl ([.ref (q 0), .int (nI t0), .int (nI k), .int (nI jj)]) ++ List.replicate (8 - (lg_sl ([.ref (q 0), .int (nI t0), .int (nI k), .int (nI jj)])).length) Slot.unset).toArray = ls at hl ⊢
  have hl : lv_has ls 8 [(0, .ref (q 0)), (1, .int (nI t0)), (2, .int (nI k)), (3, .int (nI jj))] := hl
  have hkk := hk1
  have hty := okTy_N ht0 hn6
  refine lv_aload_n hx hb d_M_split_0 rfl (lv_at hl 0 rfl) ?_
  refine lv_iload_n hx hb d_M_split_1 rfl (lv_at hl 1 rfl) ?_
  refine lv_iconst (v := nI 0) hx hb d_M_split_2 (by decide) ?_
  refine lv_aload_n hx hb d_M_split_3 rfl (lv_at hl 0 rfl) ?_
  refine va_get (D := (dC, dI)) (ci := 6) (v := .int (nI nt)) (C := R_M) (T := F_M) (N := 17) hx hb hts i_M hown hK hP 0 rfl rfl 9 (by decide) (hts _ k_486) (fun _ h9 => h9) rfl d_M_split_4 ?_
  refine lv_iconst (v := nI 1) hx hb d_M_split_7 (by decide) ?_
  refine lv_isub hx hb d_M_split_8 ?_
  refine ro_calli (va_runS (As := [.int (nI t0), .int (nI 0), .int (nI nt - nI 1)]) (rest := [.ref (q 0)]) ⟨hx, hb, hml, hown, hts⟩ (c_M_isIn l (nI t0) (nI 0) (nI nt - nI 1) 0 ((nt : Int) - 1) (nI_toInt (by decide)) (by rw [pk_sub_toInt (by omega) (by decide)]; rfl)) (cwS 3 hts (gw_S k_539 k_537 k_538 k_6) rfl rfl rfl (by decide +kernel) ⟨Nat.le_trans (Nat.le_of_ble_eq_true rfl) hfr, Nat.le_trans (Nat.le_of_ble_eq_true rfl) hlo⟩) ⟨pr_blind, pr_at hC (fun k q h => by simp at h)⟩ rfl rfl hl.1 rfl (lv_room (Nat.le_of_ble_eq_true rfl)) d_M_split_9 ⟨hce, hsl⟩) (fun r9 h9 => ?_)
  subst h9
  refine nx_b_eq (tgt := 35) hx hb d_M_split_12 (by decide) (fun h1 => ?_) (fun h1 => ?_)
  · exact absurd (by unfold okTy at hty; omega) h1
  · refine lv_iload_n hx hb d_M_split_15 rfl (lv_at hl 2 rfl) ?_
    refine lv_iconst (v := nI 1) hx hb d_M_split_16 (by decide) ?_
    refine lv_iconst (v := nI 4) hx hb d_M_split_17 (by decide) ?_
    refine ro_calli (va_runS (As := [.int (nI k), .int (nI 1), .int (nI 4)]) (rest := [.ref (q 0)]) ⟨hx, hb, hml, hown, hts⟩ (c_M_isInN l k 1 4 (by omega) (by decide) (by decide)) (cwS 3 hts (gw_S k_539 k_537 k_538 k_6) rfl rfl rfl (by decide +kernel) ⟨Nat.le_trans (Nat.le_of_ble_eq_true rfl) hfr, Nat.le_trans (Nat.le_of_ble_eq_true rfl) hlo⟩) ⟨pr_blind, pr_at hC (fun k q h => by simp at h)⟩ rfl rfl hl.1 rfl (lv_room (Nat.le_of_ble_eq_true rfl)) d_M_split_18 ⟨hce, hsl⟩) (fun r9 h9 => ?_)
    subst h9
    refine nx_b_eq (tgt := 35) hx hb d_M_split_21 (by decide) (fun h2 => ?_) (fun h2 => ?_)
    · exact absurd (show 1 ≤ k ∧ k ≤ 4 by omega) h2
    · refine lv_iload_n hx hb d_M_split_24 rfl (lv_at hl 3 rfl) ?_
      refine lv_iconst (v := nI 0) hx hb d_M_split_25 (by decide) ?_
      refine lv_iload_n hx hb d_M_split_26 rfl (lv_at hl 2 rfl) ?_
      refine lv_iconst (v := nI 1) hx hb d_M_split_27 (by decide) ?_
      refine nx_isub hx hb d_M_split_28 (by omega) ?_
      refine ro_calli (va_runS (As := [.int (nI jj), .int (nI 0), .int (nI (k - 1))]) (rest := [.ref (q 0)]) ⟨hx, hb, hml, hown, hts⟩ (c_M_isInN l jj 0 (k - 1) (by omega) (by decide) (by omega)) (cwS 3 hts (gw_S k_539 k_537 k_538 k_6) rfl rfl rfl (by decide +kernel) ⟨Nat.le_trans (Nat.le_of_ble_eq_true rfl) hfr, Nat.le_trans (Nat.le_of_ble_eq_true rfl) hlo⟩) ⟨pr_blind, pr_at hC (fun k q h => by simp at h)⟩ rfl rfl hl.1 rfl (lv_room (Nat.le_of_ble_eq_true rfl)) d_M_split_29 ⟨hce, hsl⟩) (fun r9 h9 => ?_)
      subst h9
      refine nx_b_ne (tgt := 39) hx hb d_M_split_32 (by decide) (fun h3 => ?_) (fun h3 => ?_)
      · refine lv_aload_n hx hb d_M_split_39 rfl (lv_at hl 0 rfl) ?_
        refine va_get (D := (dC, dI)) (ci := 6) (v := .int (nI F)) (C := R_M) (T := F_M) (N := 17) hx hb hts i_M hown hK hP 0 rfl rfl 3 (by decide) (hts _ k_480) (fun _ h9 => h9) rfl d_M_split_40 ?_
        refine lv_iload_n hx hb d_M_split_43 rfl (lv_at hl 2 rfl) ?_
        refine nx_icmp_ge (tgt := 51) hx hb d_M_split_44 (by decide) (by omega) (by omega) (fun h4 => ?_) (fun h4 => ?_)
        · refine lv_iconst (v := nI 0) hx hb d_M_split_51 (by decide) ?_
          refine va_put (D := (dC, dI)) (ci := 6) (v := .int (nI 0)) (ty := (.int)) (C := R_M) (T := F_M) (N := 17) hx hb hts i_M ft_M ft_M_ok n_M hown hK hP hD hS 0 rfl rfl 0 (by decide) (hts _ k_477) (fun _ h9 => h9) rfl (by decide +kernel) rfl rfl (Nat.le_of_ble_eq_true rfl) d_M_split_52 (fun H locs hP hD hS => ?_)
          have hP : va_P (dC, dI) vwCl [(q 0, .inr (6, (mF q (nI 0) F nt ab be))), (q 1, .inl (cI, 13, .inl (fun j => nI (pp j)))), (q 2, .inl (cI, 13, .inl (fun j => nI (hh j)))), (q 4, .inl (cI, 6, .inl (fun j => nI (rm j)))), (q 5, .inl (cI, 6, .inl (fun j => nI (sd j)))), (q 6, .inl (cI, 6, .inl (fun j => nI (dr j)))), (q 7, .inl (cI, 6, .inl (fun j => nI (pe j)))), (q 12, .inl (cL, 169, .inr (.inl (fun j => lN (xa j))))), (q 13, .inl (cL, 169, .inr (.inl (fun j => lN (xb j))))), (q 14, .inl (cI, 4, .inl (fun j => nI (en j)))), (q 15, .inl (cI, 4, .inl (fun j => nI (bs j))))] H := hP
          have hD : va_D A [(q 0, .inr (6, (mF q (nI 0) F nt ab be))), (q 1, .inl (cI, 13, .inl (fun j => nI (pp j)))), (q 2, .inl (cI, 13, .inl (fun j => nI (hh j)))), (q 4, .inl (cI, 6, .inl (fun j => nI (rm j)))), (q 5, .inl (cI, 6, .inl (fun j => nI (sd j)))), (q 6, .inl (cI, 6, .inl (fun j => nI (dr j)))), (q 7, .inl (cI, 6, .inl (fun j => nI (pe j)))), (q 12, .inl (cL, 169, .inr (.inl (fun j => lN (xa j))))), (q 13, .inl (cL, 169, .inr (.inl (fun j => lN (xb j))))), (q 14, .inl (cI, 4, .inl (fun j => nI (en j)))), (q 15, .inl (cI, 4, .inl (fun j => nI (bs j))))] := hD
          refine lv_aload_n hx hb d_M_split_55 rfl (lv_at hl 0 rfl) ?_
          refine va_get (D := (dC, dI)) (ci := 6) (v := .int (nI 0)) (C := R_M) (T := F_M) (N := 17) hx hb hts i_M hown hK hP 0 rfl rfl 0 (by decide) (hts _ k_477) (fun _ h9 => h9) rfl d_M_split_56 ?_
          refine nx_if_le (tgt := 64) hx hb d_M_split_59 (by decide) (by omega) (fun h9 => ?_) (fun h9 => ?_)
          · refine lv_iconst (v := nI 1) hx hb d_M_split_64 (by decide) ?_
            refine lv_istore (lv' := [(4, .int (nI 1)), (0, .ref (q 0)), (1, .int (nI t0)), (2, .int (nI k)), (3, .int (nI jj))]) hx hb d_M_split_65 hl (by decide) rfl (fun ls hl => ?_)
            refine l_M_meas ⟨hx, hb, hml, hown, hts⟩ hC hF12 hU2 hhh (by omega) hrm hsd hdr hpe hfr hlo hce hsl hA (fun xa xb ab be hM H locs ls hP hD hS hl => ?_) (F + 1) 1 (by omega) (by omega) (by omega) xa xb ab be isM_0 _ _ ls hP hD hS (lv_sub hl [1, 2, 3, 4, 0] rfl)
            have hX := isM_end hM
            refine lv_iconst (v := nI 0) hx hb d_M_split_144 (by decide) ?_
            refine lv_istore (lv' := [(4, .int (nI 0)), (0, .ref (q 0)), (1, .int (nI t0)), (2, .int (nI k)), (3, .int (nI jj))]) hx hb d_M_split_145 hl (by decide) rfl (fun ls hl => ?_)
            rw [← fil_0 (en := en)] at hP hD
            refine l_M_fill ⟨hx, hb, hml, hown, hts⟩ hC hkk hk4 hfr hlo hce hsl (fun H locs ls hP hD hS hl => ?_) k 0 (by omega) (by omega) H locs ls hP hD hS (lv_sub hl [1, 2, 3, 4, 0] rfl)
            refine lv_aload_n hx hb d_M_split_172 rfl (lv_at hl 0 rfl) ?_
            refine va_get (D := (dC, dI)) (ci := 6) (v := .ref (q 14)) (C := R_M) (T := F_M) (N := 17) hx hb hts i_M hown hK hP 0 rfl rfl 14 (by decide) (hts _ k_491) (fun _ h9 => h9) rfl d_M_split_173 ?_
            refine lv_iload_n hx hb d_M_split_176 rfl (lv_at hl 2 rfl) ?_
            refine lv_iconst (v := nI 1) hx hb d_M_split_177 (by decide) ?_
            refine nx_isub hx hb d_M_split_178 (by omega) ?_
            refine lv_aload_n hx hb d_M_split_179 rfl (lv_at hl 0 rfl) ?_
            refine va_get (D := (dC, dI)) (ci := 6) (v := .int (nI F)) (C := R_M) (T := F_M) (N := 17) hx hb hts i_M hown hK hP 0 rfl rfl 3 (by decide) (hts _ k_480) (fun _ h9 => h9) rfl d_M_split_180 ?_
            refine nx_iast hx hb hK hP hD hS 9 0 rfl rfl (k := k - 1) (x := nI F) (by omega) (by decide) d_M_split_183 (fun H locs hP hD hS => ?_)
            have hP : va_P (dC, dI) vwCl [(q 0, .inr (6, (mF q (nI 0) F nt ab be))), (q 1, .inl (cI, 13, .inl (fun j => nI (pp j)))), (q 2, .inl (cI, 13, .inl (fun j => nI (hh j)))), (q 4, .inl (cI, 6, .inl (fun j => nI (rm j)))), (q 5, .inl (cI, 6, .inl (fun j => nI (sd j)))), (q 6, .inl (cI, 6, .inl (fun j => nI (dr j)))), (q 7, .inl (cI, 6, .inl (fun j => nI (pe j)))), (q 12, .inl (cL, 169, .inr (.inl (fun j => lN (xa j))))), (q 13, .inl (cL, 169, .inr (.inl (fun j => lN (xb j))))), (q 14, .inl (cI, 4, .inl (upd (fun j => nI ((fil en ((k - 1))) j)) (k - 1) (nI F)))), (q 15, .inl (cI, 4, .inl (fun j => nI (bs j))))] H := hP
            have hD : va_D A [(q 0, .inr (6, (mF q (nI 0) F nt ab be))), (q 1, .inl (cI, 13, .inl (fun j => nI (pp j)))), (q 2, .inl (cI, 13, .inl (fun j => nI (hh j)))), (q 4, .inl (cI, 6, .inl (fun j => nI (rm j)))), (q 5, .inl (cI, 6, .inl (fun j => nI (sd j)))), (q 6, .inl (cI, 6, .inl (fun j => nI (dr j)))), (q 7, .inl (cI, 6, .inl (fun j => nI (pe j)))), (q 12, .inl (cL, 169, .inr (.inl (fun j => lN (xa j))))), (q 13, .inl (cL, 169, .inr (.inl (fun j => lN (xb j))))), (q 14, .inl (cI, 4, .inl (upd (fun j => nI ((fil en ((k - 1))) j)) (k - 1) (nI F)))), (q 15, .inl (cI, 4, .inl (fun j => nI (bs j))))] := hD
            rw [up_eq] at hP hD
            refine lv_iconst (v := -1) hx hb d_M_split_184 (by decide) ?_
            refine lv_istore (lv' := [(4, .int ((-1))), (0, .ref (q 0)), (1, .int (nI t0)), (2, .int (nI k)), (3, .int (nI jj))]) hx hb d_M_split_185 hl (by decide) rfl (fun ls hl => ?_)
            refine lv_iconst (v := nI 1) hx hb d_M_split_187 (by decide) ?_
            refine lv_istore (lv' := [(5, .int (nI 1)), (4, .int ((-1))), (0, .ref (q 0)), (1, .int (nI t0)), (2, .int (nI k)), (3, .int (nI jj))]) hx hb d_M_split_188 hl (by decide) rfl (fun ls hl => ?_)
            refine l_M_split (TA := (zA pp hh (rm t0) (sd t0) (dr t0) (pe t0))) (TB := (zB pp (rm t0) (sd t0))) ⟨hx, hb, hml, hown, hts⟩ hC hF12 (zB_pos hsd.1) hX (z_lim hF12 hU2 hhh hrm.2 hsd.2 hdr hpe) hkk hk4 hkF hfr hlo hce hsl hA (fun en bs o hBs H locs ls hP hD hS hl => ?_) (28561 - rk k (en0 F k en) + 1) (en0 F k en) bs none (by omega) (en0_vs hkk hkF) (fun e => PA_first hkk) H locs ls hP hD hS (lv_sub hl [2, 3, 4, 5, 1, 0] rfl)
            refine lv_iload hx hb d_M_split_190 (lv_at hl 5 rfl) ?_
            refine nx_if_eq (tgt := 285) hx hb d_M_split_192 (by decide) (by omega) (fun h8 => ?_) (fun h8 => ?_)
            · obtain ⟨b1, e1⟩ : ∃ b1, o = some b1 := by cases o with | none => exact absurd (vs_ex hkk hkF) (hBs _) | some b1 => exact ⟨b1, rfl⟩
              subst e1
              refine lv_aload_n hx hb d_M_split_285 rfl (lv_at hl 0 rfl) ?_
              refine va_get (D := (dC, dI)) (ci := 6) (v := .ref (q 15)) (C := R_M) (T := F_M) (N := 17) hx hb hts i_M hown hK hP 0 rfl rfl 15 (by decide) (hts _ k_492) (fun _ h9 => h9) rfl d_M_split_286 ?_
              refine lv_iload_n hx hb d_M_split_289 rfl (lv_at hl 3 rfl) ?_
              refine nx_iald hx hb hK hP 10 0 rfl rfl (k := jj) (v := nI (bs jj)) (by omega) (by decide) rfl d_M_split_290 ?_
              exact W.iret hx hb hr (fun t ht hW => ⟨⟨_, (xa, xb, (ab, be), en, bs), rfl, ⟨bs, b1, hBs, rfl⟩, by rw [ht]; exact hP, hD⟩, hS.F ht⟩) hS.2.2 d_M_split_291
            · exact absurd h8 (by omega)
          · exact absurd h9 (by omega)
        · exact absurd h4 (by omega)
      · exact absurd (show 0 ≤ jj ∧ jj ≤ k - 1 by omega) h3
