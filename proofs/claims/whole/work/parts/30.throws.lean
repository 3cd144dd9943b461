/-! METHODS OF THE CLASS THAT THROW: nothing that was there changes; one object is new. -/
abbrev xnames : List String := ["java/lang/RuntimeException", "java/lang/Exception"]
theorem xa_in : ∀ w ∈ (vx_atS R_T 140 E_arg xnames).filter goodWord, w ∈ lw_tbl := by decide +kernel
theorem xs_in : ∀ w ∈ (vx_atS R_T 58 E_sta xnames).filter goodWord, w ∈ lw_tbl := by decide +kernel
theorem xa_not : ∀ w ∈ (vx_atS R_T 140 E_arg xnames).filter (fun w => !goodWord w), w ∈ [Cond.castable E_arg E_arg, .declares x_rt, .declares x_ex, .declares x_th] := by decide +kernel
theorem xs_not : ∀ w ∈ (vx_atS R_T 58 E_sta xnames).filter (fun w => !goodWord w), w ∈ [Cond.castable E_sta E_sta, .declares x_rt, .declares x_ex, .declares x_th] := by decide +kernel
theorem xa_ot : ∀ w ∈ Cond.classLink R_T 136 E_arg :: Cond.initialized E_arg :: vx_atS R_T 140 E_arg xnames, vx_ot w = true := by decide +kernel
theorem xs_ot : ∀ w ∈ Cond.classLink R_T 54 E_sta :: Cond.initialized E_sta :: vx_atS R_T 58 E_sta xnames, vx_ot w = true := by decide +kernel
theorem xa_fit : Bundle.fit E_arg = true := by decide +kernel
theorem xs_fit : Bundle.fit E_sta = true := by decide +kernel
theorem xn_fit : ∀ n ∈ xnames, Bundle.fit n = true := by decide +kernel
section XHA
variable {dC : Nat → ClassId} {dI : Nat → Nat → Nat} {cI cL cT : ClassId} {sa : Nat → Nat} {args : Array Value} {s : State}
theorem xa_hat (hts : ∀ w ∈ gw, w.before args s = true) (hC : CT dC dI cI cL cT sa s) : ∀ w ∈ vx_atS R_T 140 E_arg xnames, w.before args s = true :=
  vx_hat (fun w hw => hts w (List.mem_filter.mpr ⟨xa_in w hw, (List.mem_filter.mp hw).2⟩)) xa_not (vx_c (va_Nw.use rfl (hC.2.1 _ (by simp [ct_nest]))) (vx_c (va_Nw.use rfl (hC.2.1 _ (by simp [ct_nest]))) (vx_c (va_Nw.use rfl (hC.2.1 _ (by simp [ct_nest]))) (vx_c (va_Nw.use rfl (hC.2.1 _ (by simp [ct_nest]))) vx_n))))
theorem xs_hat (hts : ∀ w ∈ gw, w.before args s = true) (hC : CT dC dI cI cL cT sa s) : ∀ w ∈ vx_atS R_T 58 E_sta xnames, w.before args s = true :=
  vx_hat (fun w hw => hts w (List.mem_filter.mpr ⟨xs_in w hw, (List.mem_filter.mp hw).2⟩)) xs_not (vx_c (va_Nw.use rfl (hC.2.1 _ (by simp [ct_nest]))) (vx_c (va_Nw.use rfl (hC.2.1 _ (by simp [ct_nest]))) (vx_c (va_Nw.use rfl (hC.2.1 _ (by simp [ct_nest]))) (vx_c (va_Nw.use rfl (hC.2.1 _ (by simp [ct_nest]))) vx_n))))
/-- the two statics that a Throwable's making reads are there, and are no new cells -/
def TH (U : State) : Prop := vx_Zq Bundle.tN "UNASSIGNED_STACK" Bundle.steD (fun q => U.heap.size ≤ q) U U.heap ∧ vx_Zq Bundle.tN "SUPPRESSED_SENTINEL" Bundle.listD (fun q => U.heap.size ≤ q) U U.heap
theorem TH.warm {s U : State} (hU : U.heap = s.heap) (hW : s.WarmedH U.vm) (h : TH s) : TH U := by
  unfold TH
  rw [hU]
  exact ⟨vx_Zq.moved hW.alike h.1, vx_Zq.moved hW.alike h.2⟩
theorem TH.call {U : State} {g : JFrame} {mk : MethodId} {a : Array Value} (h : TH U) : TH (U.calling g mk a) :=
  ⟨vx_Zq.moved (u := U) (U := U.calling g mk a) (Vm.Alike.refl U.vm) h.1, vx_Zq.moved (u := U) (U := U.calling g mk a) (Vm.Alike.refl U.vm) h.2⟩
def px (dC : Nat → ClassId) (dI : Nat → Nat → Nat) (cI cL cT : ClassId) (sa : Nat → Nat) (av : List Value) (ws : va_W) : Array Value → State → Prop :=
  va_Pc av (fun U => CT dC dI cI cL cT sa U ∧ va_P (dC, dI) vwCl ws U.heap ∧ TH U)
theorem px_blind {av : List Value} {ws : va_W} : FrameBlind (px dC dI cI cL cT sa av ws) := fun a U g mk h => ⟨h.1, h.2.1.call, h.2.2.1, h.2.2.2.call⟩
theorem px_at {av : List Value} {ws : va_W} (hC : CT dC dI cI cL cT sa s) (hP : va_P (dC, dI) vwCl ws s.heap) (hT : TH s) : ∀ U : State, U.heap = s.heap → s.WarmedH U.vm → px dC dI cI cL cT sa av ws av.toArray U :=
  fun U hU hW => ⟨rfl, hC.warm hW, by rw [hU]; exact hP, TH.warm hU hW hT⟩
end XHA
def xX (E : String) : String → State → State → Prop := fun E' st t => E' = E ∧ va_F (fun q => st.heap.size ≤ q) st t
abbrev xQ : Array Value → State → Outcome → State → Prop := fun _ _ _ _ => False
abbrev xF : Addr → Prop := fun _ => False
/-- a method that changes nothing and answers nothing, or a reference -/
def pv : Array Value → State → Outcome → State → Prop := fun _ st o t => o = .returned none ∧ t.heap = st.heap
def pf (a : Nat) : Array Value → State → Outcome → State → Prop := fun _ st o t => o = .returned (some (.ref a)) ∧ t.heap = st.heap
/-- the types' row: the first n places hold cars -/
def tq (ca : Nat → Nat) (n : Nat) : Nat → Option Nat := fun j => if j < n then some (ca j) else none
section XTR
variable {p : Program} {l : Launch} {e : Env} {R : Room} {s : State} {m : MethodId} {args : Array Value} {below : List Frame} {meth : Method} {c : Code} {H : Heap} {locs : List Loc} {cells slots : Nat} {Q : State → Prop}
variable {cc : ByteArray} {pc : Nat} {ls : Array Slot} {rest st0 : List Value} {a : Array Value} {mc ms : Nat} {E : String}
theorem tx_call (hr : vx_Run p l e R s m args below meth c H locs cells slots mc ms (F0 m pc ls st0) rest (fun _ _ _ => False) (xX E) xF)
    (kx : ∀ (ce : Cell) (q9 : Addr) (H1 : Heap), H.size ≤ H1.size → (∀ q : Nat, q < H.size → H1[q]? = H[q]?) → H1[q9]? = some ce → ce.vm = .none → s.vm.findClass E = some ce.cls → vx_W p l e R s m args below meth c H1 locs (cells + mc) (slots + ms) Q (F0 m pc ls rest) q9) : W p l e R s m args below meth c H locs cells slots Q (F0 m pc ls st0) := by
  intro T hT X
  rcases hr T hT X with ⟨v, st₀, t, T', L, h0, X', hL, e1, e2, hF, st⟩ | ⟨q, st₀, t, T', L, E', ce, h0, X', hL, e1, e2, ⟨hE, hz, hk⟩, hce, hcv, hcl, st⟩
  · exact hF.elim
  · subst hE
    have hL0 : L = [] := List.eq_nil_iff_forall_not_mem.mpr fun q hq => hL q hq
    subst hL0
    rw [List.append_nil] at X'
    rw [h0] at hz hk
    obtain ⟨t2, a1, b1⟩ := kx ce q T'.heap (by rw [e1]; exact hz) (fun z h => by rw [e1]; exact hk z h (Nat.not_le.mpr h)) (by rw [e1]; exact hce) hcv hcl T' rfl X'
    exact ⟨t2, st.trans a1, b1⟩
/-- not caught: the method ends with it -/
theorem tx_out {Qc : Array Value → State → Outcome → State → Prop} {H1 : Heap} {ce : Cell} {q9 : Addr} (ht : ∀ x ∈ c.exceptionTable.toList, False) (hlocks : meth.locks = false) (hz : s.heap.size ≤ H1.size) (hk : ∀ q : Nat, q < s.heap.size → H1[q]? = s.heap[q]?) (hce : H1[q9]? = some ce) (hv : ce.vm = .none) (hcl : s.vm.findClass E = some ce.cls) (hc : cells ≤ mc) (hs : slots ≤ ms) :
    vx_W p l e R s m args below meth c H1 [] cells slots (vx_MQ below Qc (xX E) args s mc ms xF) (F0 m pc ls rest) q9 :=
  vx_out (fun x hx => (ht x hx).elim) hlocks hce hv hcl (fun t h _ => ⟨rfl, by rw [h]; exact hz, fun q h1 _ => by rw [h]; exact hk q h1⟩) (fun z hz => by cases hz) hc hs
theorem ro_callv (hr : va_Run p l e R s m args below meth c H locs cells slots mc ms (F0 m pc ls st0) rest (pv a) xF)
    (kk : W p l e R s m args below meth c H locs (cells + mc) (slots + ms) Q (F0 m (pc + 3) ls rest)) : W p l e R s m args below meth c H locs cells slots Q (F0 m pc ls st0) := by
  intro T hT X
  obtain ⟨v, st₀, t, T', L, h0, X', hL, e1, e2, ⟨hv, hb⟩, st⟩ := hr T hT X
  cases hv
  have hL0 : L = [] := List.eq_nil_iff_forall_not_mem.mpr fun q hq => hL q hq
  subst hL0
  rw [List.append_nil] at X'
  obtain ⟨t2, a1, b1⟩ := kk T' (by rw [e1, hb, h0]) X'
  exact ⟨t2, st t2 a1, b1⟩
theorem ro_callr {ad : Nat} (hr : va_Run p l e R s m args below meth c H locs cells slots mc ms (F0 m pc ls st0) rest (pf ad a) xF)
    (kk : W p l e R s m args below meth c H locs (cells + mc) (slots + ms) Q (F0 m (pc + 3) ls (.ref ad :: rest))) : W p l e R s m args below meth c H locs cells slots Q (F0 m pc ls st0) := by
  intro T hT X
  obtain ⟨v, st₀, t, T', L, h0, X', hL, e1, e2, ⟨hv, hb⟩, st⟩ := hr T hT X
  cases hv
  have hL0 : L = [] := List.eq_nil_iff_forall_not_mem.mpr fun q hq => hL q hq
  subst hL0
  rw [List.append_nil] at X'
  obtain ⟨t2, a1, b1⟩ := kk T' (by rw [e1, hb, h0]) X'
  exact ⟨t2, st t2 a1, b1⟩
end XTR
section XAL
variable {p : Program} {l : Launch} {e : Env} {R : Room} {s : State} {m : MethodId} {args : Array Value} {below : List Frame} {meth : Method} {c : Code} {H : Heap} {locs : List Loc} {cells slots : Nat} {Q : State → Prop}
variable {cc : ByteArray} {pc : Nat} {ls : Array Slot} {rest : List Value} {D : va_G} {cl : List vw_C} {a : Nat} {tys : List (ClassId × FieldType)} {ws : va_W}
theorem nx_aaldS (hexec : p.tables.exec = Jvm.exec) (hb : c.code = cc) (hK : va_K D cl tys s) (hP : va_P D cl ws H) (q0 t0 : Nat) {cA : ClassId} {C : String} {ca : Nat → Nat} {n k : Nat} (ha : ws[q0]? = some (a, .inl (cA, 6, .inr (.inr (.inr (.inr (tq ca n))))))) (ht : tys[t0]? = some (cA, .object C)) (hk : k < n) (h6 : k < 6) (hdg : decode cc pc = .ok (.aaload, 1))
    (kk : W p l e R s m args below meth c H locs cells slots Q (F0 m (pc + 1) ls (.ref (ca k) :: rest))) : W p l e R s m args below meth c H locs cells slots Q (F0 m pc ls (.int (nI k) :: .ref a :: rest)) :=
  va_aldq hexec hb hK hP q0 t0 ha ht (vp_in_nI h6 (by decide)) hdg (by rw [nI_clamp (by omega), tq, if_pos hk]; exact kk)
theorem nx_aaldN (hexec : p.tables.exec = Jvm.exec) (hb : c.code = cc) (hK : va_K D cl tys s) (hP : va_P D cl ws H) (q0 t0 : Nat) {cA : ClassId} {C : String} {ca : Nat → Nat} {n k : Nat} (ha : ws[q0]? = some (a, .inl (cA, 6, .inr (.inr (.inr (.inr (tq ca n))))))) (ht : tys[t0]? = some (cA, .object C)) (hk : n ≤ k) (h6 : k < 6) (hdg : decode cc pc = .ok (.aaload, 1))
    (kk : W p l e R s m args below meth c H locs cells slots Q (F0 m (pc + 1) ls (.null :: rest))) : W p l e R s m args below meth c H locs cells slots Q (F0 m pc ls (.int (nI k) :: .ref a :: rest)) :=
  va_aldq hexec hb hK hP q0 t0 ha ht (vp_in_nI h6 (by decide)) hdg (by rw [nI_clamp (by omega), tq, if_neg (by omega)]; exact kk)
end XAL
