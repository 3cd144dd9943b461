/-! WHAT EVERY METHOD IS GIVEN: the classes' numbers and slots, the array classes, the words that are no good words, the texts. -/
abbrev E_arg : String := "java/lang/IllegalArgumentException"
abbrev E_sta : String := "java/lang/IllegalStateException"
abbrev vwTy (cI cL cT : ClassId) : List (ClassId × FieldType) := [(cI, .int), (cL, .long), (cT, .object "RoundTrips$CarType")]
abbrev x_rt : MethodName := ⟨"java/lang/RuntimeException", "<init>", "(Ljava/lang/String;)V"⟩
abbrev x_ex : MethodName := ⟨"java/lang/Exception", "<init>", "(Ljava/lang/String;)V"⟩
abbrev x_th : MethodName := ⟨"java/lang/Throwable", "<init>", "(Ljava/lang/String;)V"⟩
def ct_nest : List Cond := [.methodLinkNest R_T 9 y_B_init R_T, .methodLinkNest R_T 28 y_O_init R_T, .methodLinkNest R_T 42 y_A_init R_T, .methodLinkNest R_S 80 y_T_orderOfFractions R_T, .castable E_arg E_arg, .castable E_sta E_sta, .declares x_rt, .declares x_ex, .declares x_th]
def ct_str : List (Nat × String) := [(178, "a number is out of its bounds"), (56, "there are 12 floors"), (188, "all floors have more than 200 persons together"), (180, "there is no such floor"), (80, "there are 6 types"), (184, "there is no such type"), (182, "a zone ends below its begin"), (186, "there is no floor"), (138, "persons is below 0"), (148, "there are fewer floors than zones")]
theorem ct_nest_warm {s U : State} (hW : s.WarmedH U.vm) : ∀ w ∈ ct_nest, va_Nw w s → va_Nw w U := by
  intro w hw h
  simp only [ct_nest, List.mem_cons, List.not_mem_nil, or_false] at hw
  rcases hw with rfl | rfl | rfl | rfl | rfl | rfl | rfl | rfl | rfl
  · exact va_Nw.warmM hW h
  · exact va_Nw.warmM hW h
  · exact va_Nw.warmM hW h
  · exact va_Nw.warmM hW h
  · exact va_tabs rfl (rfl : (s.setVm U.vm).vm = U.vm) (by rw [Cond.castable_setVm hW.alike]; exact h)
  · exact va_tabs rfl (rfl : (s.setVm U.vm).vm = U.vm) (by rw [Cond.castable_setVm hW.alike]; exact h)
  · exact va_Nw.warmD hW h
  · exact va_Nw.warmD hW h
  · exact va_Nw.warmD hW h
theorem ct_nest_same {u U : State} (hv : u.vm = U.vm) : ∀ w ∈ ct_nest, va_Nw w u → va_Nw w U := by
  intro w hw h
  simp only [ct_nest, List.mem_cons, List.not_mem_nil, or_false] at hw
  rcases hw with rfl | rfl | rfl | rfl | rfl | rfl | rfl | rfl | rfl <;> exact va_Nw.same rfl hv h
section CTA
variable {dC : Nat → ClassId} {dI : Nat → Nat → Nat} {cI cL cT : ClassId} {sa : Nat → Nat}
def CT (dC : Nat → ClassId) (dI : Nat → Nat → Nat) (cI cL cT : ClassId) (sa : Nat → Nat) (U : State) : Prop :=
  va_K (dC, dI) vwCl (vwTy cI cL cT) U ∧ (∀ w ∈ ct_nest, va_Nw w U) ∧ (∀ q ∈ ct_str, vk_R R_T q.1 q.2 (sa q.1) U) ∧ va_AO "RoundTrips$CarType" U
theorem CT.warm {s U : State} (hW : s.WarmedH U.vm) (h : CT dC dI cI cL cT sa s) : CT dC dI cI cL cT sa U :=
  ⟨va_K.moved hW.alike h.1, fun w hw => ct_nest_warm hW w hw (h.2.1 w hw), fun q hq => vk_R.warm hW (h.2.2.1 q hq), va_AO.moved hW.alike h.2.2.2⟩
theorem CT.call {U : State} {g : JFrame} {mk : MethodId} {a : Array Value} (h : CT dC dI cI cL cT sa U) : CT dC dI cI cL cT sa (U.calling g mk a) :=
  ⟨va_K.moved (u := U) (U := U.calling g mk a) (Vm.Alike.refl U.vm) h.1, fun w hw => ct_nest_same (u := U) (U := U.calling g mk a) rfl w hw (h.2.1 w hw), fun q hq => vk_R.same (u := U) (U := U.calling g mk a) rfl (h.2.2.1 q hq), va_AO.moved (u := U) (U := U.calling g mk a) (Vm.Alike.refl U.vm) h.2.2.2⟩
/-- a method that changes nothing: where it starts -/
def pr (dC : Nat → ClassId) (dI : Nat → Nat → Nat) (cI cL cT : ClassId) (sa : Nat → Nat) (av : List Value) (ws : va_W) : Array Value → State → Prop :=
  va_Pc av (fun U => CT dC dI cI cL cT sa U ∧ va_P (dC, dI) vwCl ws U.heap)
theorem pr_blind {av : List Value} {ws : va_W} : FrameBlind (pr dC dI cI cL cT sa av ws) := fun a U g mk h => ⟨h.1, h.2.1.call, h.2.2⟩
theorem pr_at {s : State} {H : Heap} {av : List Value} {ws : va_W} (hC : CT dC dI cI cL cT sa s) (hP : va_P (dC, dI) vwCl ws H) : ∀ U : State, U.heap = H → s.WarmedH U.vm → pr dC dI cI cL cT sa av ws av.toArray U :=
  fun U hU hW => ⟨rfl, hC.warm hW, by rw [hU]; exact hP⟩
end CTA
section ROA
variable {p : Program} {l : Launch} {e : Env} {R : Room} {s : State} {m : MethodId} {args : Array Value} {below : List Frame} {meth : Method} {c : Code} {H : Heap} {locs : List Loc} {cells slots : Nat} {Q : State → Prop}
variable {pc : Nat} {ls : Array Slot} {rest st0 : List Value} {a : Array Value} {mc ms : Nat}
/-- behind a call that changes nothing -/
theorem ro_calli {post : Int32 → Prop} (hr : va_Run p l e R s m args below meth c H locs cells slots mc ms (F0 m pc ls st0) rest (vp_Si post a) (fun _ => False))
    (kk : ∀ r : Int32, post r → W p l e R s m args below meth c H locs (cells + mc) (slots + ms) Q (F0 m (pc + 3) ls (.int r :: rest))) : W p l e R s m args below meth c H locs cells slots Q (F0 m pc ls st0) := by
  intro T hT X
  obtain ⟨v, st₀, t, T', L, h0, X', hL, e1, e2, ⟨r, hv, hp, hb⟩, st⟩ := hr T hT X
  cases hv
  have hL0 : L = [] := List.eq_nil_iff_forall_not_mem.mpr fun q hq => hL q hq
  subst hL0
  rw [List.append_nil] at X'
  obtain ⟨t2, a1, b1⟩ := kk r hp T' (by rw [e1, hb, h0]) X'
  exact ⟨t2, st t2 a1, b1⟩
theorem ro_calll {post : Int64 → Prop} (hr : va_Run p l e R s m args below meth c H locs cells slots mc ms (F0 m pc ls st0) rest (vp_Sl post a) (fun _ => False))
    (kk : ∀ r : Int64, post r → W p l e R s m args below meth c H locs (cells + mc) (slots + ms) Q (F0 m (pc + 3) ls (.long r :: rest))) : W p l e R s m args below meth c H locs cells slots Q (F0 m pc ls st0) := by
  intro T hT X
  obtain ⟨v, st₀, t, T', L, h0, X', hL, e1, e2, ⟨r, hv, hp, hb⟩, st⟩ := hr T hT X
  cases hv
  have hL0 : L = [] := List.eq_nil_iff_forall_not_mem.mpr fun q hq => hL q hq
  subst hL0
  rw [List.append_nil] at X'
  obtain ⟨t2, a1, b1⟩ := kk r hp T' (by rw [e1, hb, h0]) X'
  exact ⟨t2, st t2 a1, b1⟩
end ROA
section NXC
variable {p : Program} {l : Launch} {e : Env} {R : Room} {s : State} {m : MethodId} {args : Array Value} {below : List Frame} {meth : Method} {c : Code} {H : Heap} {locs : List Loc} {cells slots : Nat} {Q : State → Prop}
variable {cc : ByteArray} {pc : Nat} {ls : Array Slot} {rest : List Value}
theorem nx_inc (hexec : p.tables.exec = Jvm.exec) (hb : c.code = cc) {i nL k a : Nat} {lv lv' : List (Nat × Value)} (hdg : decode cc pc = .ok (.iinc i 1, 3)) (h : lv_has ls nL lv) (hk : lv[k]? = some (i, .int (nI a))) (hn : i < nL) (hl : (i, Value.int (nI (a + 1))) :: lv.filter (fun q => !(q.1 == i) && !(q.1 + 1 == i && q.2.category == 2)) = lv')
    (kk : ∀ ls' : Array Slot, lv_has ls' nL lv' → W p l e R s m args below meth c H locs cells slots Q (F0 m (pc + 3) ls' rest)) : W p l e R s m args below meth c H locs cells slots Q (F0 m pc ls rest) :=
  lv_iinc hexec hb hdg h hk (by rw [← nI_1]; rfl) hn hl kk
end NXC
