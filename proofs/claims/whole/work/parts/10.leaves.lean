section PWO
variable {p : Program} {l : Launch} {e : Env} {R : Room} {s : State} {m : MethodId} {args : Array Value} {below : List Frame} {meth : Method} {c : Code} {H : Heap} {locs : List Loc} {cells slots : Nat} {Q : State → Prop}
set_option maxHeartbeats 4000000 in
set_option maxRecDepth 100000 in
theorem l_O_power (hF : CallFix p m c b_O_power 6 s args gw R_O) {bb ee : Nat} (he : ee ≤ 5) (kend : ∀ ls : Array Slot, lv_has ls 6 [(0, .long (lN bb)), (2, .int (nI ee)), (3, .long (lN (bb ^ ee))), (5, .int (nI ee))] → W p l e R s m args below meth c H locs cells slots Q (F0 m 21 ls [])) : ∀ n i : Nat, ee - i < n → i ≤ ee → ∀ ls : Array Slot, lv_has ls 6 [(0, .long (lN bb)), (2, .int (nI ee)), (3, .long (lN (bb ^ i))), (5, .int (nI i))] → W p l e R s m args below meth c H locs cells slots Q (F0 m 5 ls []) := by
  obtain ⟨hx, hb, hml, hown, hts⟩ := id hF
  intro n
  induction n with
  | zero => intro i hn; omega
  | succ n ih =>
    intro i hn hi ls hl
    refine lv_iload hx hb d_O_power_5 (lv_at hl 3 rfl) ?_
    refine lv_iload_n hx hb d_O_power_7 rfl (lv_at hl 1 rfl) ?_
    refine nx_icmp_ge (tgt := 21) hx hb d_O_power_8 (by decide) (by omega) (by omega) (fun h => ?_) (fun h => ?_)
    · have hie : i = ee := by omega
      subst hie
      exact kend ls hl
    · refine lv_lload_n hx hb d_O_power_11 rfl (lv_at hl 2 rfl) ?_
      refine lv_lload_n hx hb d_O_power_12 rfl (lv_at hl 0 rfl) ?_
      refine nx_lmul hx hb d_O_power_13 ?_
      refine lv_lstore_n (lv' := [(3, .long (lN ((bb ^ i) * bb))), (0, .long (lN bb)), (2, .int (nI ee)), (5, .int (nI i))]) hx hb d_O_power_14 rfl hl (by decide) rfl (fun ls hl => ?_)
      refine nx_inc (lv' := [(5, .int (nI (i + 1))), (3, .long (lN ((bb ^ i) * bb))), (0, .long (lN bb)), (2, .int (nI ee))]) hx hb d_O_power_15 hl (k := 3) rfl (by decide) rfl (fun ls hl => ?_)
      refine lv_goto (tgt := 5) hx hb d_O_power_18 (by decide) ?_
      exact ih (i + 1) (by omega) (by omega) ls (lv_sub hl [2, 3, 1, 0] rfl)
end PWO
set_option maxHeartbeats 4000000 in
set_option maxRecDepth 100000 in
theorem c_O_power (l : Launch) {dC : Nat → ClassId} {dI : Nat → Nat → Nat} {cI cL cT : ClassId} {sa : Nat → Nat} (bb ee : Nat) (he : ee ≤ 5) : Met l y_O_power (Cond.code y_O_power b_O_power 6 (some .long) :: gw) ({ frames := 0, cells := 0, slots := 0, locals := 0 } : Room) (pr dC dI cI cL cT sa [.long (lN bb), .int (nI ee)] []) (vp_Sl (fun r => r = lN (bb ^ ee))) 0 0 (fun _ => False) := by
  refine Met.ofW (cc := b_O_power) (maxL := 6) (ret := (some .long)) (by decide) rfl ?_
  intro p e s m args below meth c s₁ B hml hv
  obtain ⟨rfl, hC, hP⟩ := hv
  have hx := B.exec
  have hb := B.bytes
  have hr := B.returns
  have hts : ∀ w ∈ gw, w.before ([.long (lN bb), .int (nI ee)] : List Value).toArray s = true := fun w hw => atoms_spec (ws := Cond.code y_O_power b_O_power 6 (some .long) :: gw) B.pre w (List.mem_cons_of_mem _ hw)
  have hown : s.vm.findClass R_O = some m.cls := findClass_of_methodNamed B.named
  have hlocks := B.notSynchronized
  have hK := hC.1
  have hfr : 0 ≤ (headSpec (Cond.code y_O_power b_O_power 6 (some .long) :: gw) ({ frames := 0, cells := 0, slots := 0, locals := 0 } : Room)).room.frames := Nat.le_refl _
  have hlo : 0 ≤ (headSpec (Cond.code y_O_power b_O_power 6 (some .long) :: gw) ({ frames := 0, cells := 0, slots := 0, locals := 0 } : Room)).room.locals := Nat.le_refl _
  have hce : 0 ≤ (headSpec (Cond.code y_O_power b_O_power 6 (some .long) :: gw) ({ frames := 0, cells := 0, slots := 0, locals := 0 } : Room)).room.cells := Nat.zero_le _
  have hsl : 0 ≤ (headSpec (Cond.code y_O_power b_O_power 6 (some .long) :: gw) ({ frames := 0, cells := 0, slots := 0, locals := 0 } : Room)).room.slots := Nat.zero_le _
  have hl := lv_entry ([.long (lN bb), .int (nI ee)]) (n := 6) (Nat.le_of_ble_eq_true rfl)
  rw [lg_entry_eq]
  generalize (lg_sl ([.long (lN bb), .int (nI ee)]) ++ List.replicate (6 - (lg_sl ([.long (lN bb), .int (nI ee)])).length) Slot.unset).toArray = ls at hl ⊢
  have hl : lv_has ls 6 [(0, .long (lN bb)), (2, .int (nI ee))] := hl
  refine lv_lconst (v := lN 1) hx hb d_O_power_0 (by decide) ?_
  refine lv_lstore_n (lv' := [(3, .long (lN 1)), (0, .long (lN bb)), (2, .int (nI ee))]) hx hb d_O_power_1 rfl hl (by decide) rfl (fun ls hl => ?_)
  refine lv_iconst (v := nI 0) hx hb d_O_power_2 (by decide) ?_
  refine lv_istore (lv' := [(5, .int (nI 0)), (3, .long (lN 1)), (0, .long (lN bb)), (2, .int (nI ee))]) hx hb d_O_power_3 hl (by decide) rfl (fun ls hl => ?_)
  refine l_O_power ⟨hx, hb, hml, hown, hts⟩ he (fun ls hl => ?_) (ee + 1) 0 (by omega) (by omega) ls (lv_sub hl [2, 3, 1, 0] rfl)
  refine lv_lload_n hx hb d_O_power_21 rfl (lv_at hl 2 rfl) ?_
  exact W.lret hx hb hr (fun t ht hW => ⟨_, rfl, rfl, ht⟩) (fun q h => by cases h) d_O_power_22
section PWM
variable {p : Program} {l : Launch} {e : Env} {R : Room} {s : State} {m : MethodId} {args : Array Value} {below : List Frame} {meth : Method} {c : Code} {H : Heap} {locs : List Loc} {cells slots : Nat} {Q : State → Prop}
set_option maxHeartbeats 4000000 in
set_option maxRecDepth 100000 in
theorem l_M_power (hF : CallFix p m c b_M_power 6 s args gw R_M) {bb ee : Nat} (he : ee ≤ 5) (kend : ∀ ls : Array Slot, lv_has ls 6 [(0, .long (lN bb)), (2, .int (nI ee)), (3, .long (lN (bb ^ ee))), (5, .int (nI ee))] → W p l e R s m args below meth c H locs cells slots Q (F0 m 21 ls [])) : ∀ n i : Nat, ee - i < n → i ≤ ee → ∀ ls : Array Slot, lv_has ls 6 [(0, .long (lN bb)), (2, .int (nI ee)), (3, .long (lN (bb ^ i))), (5, .int (nI i))] → W p l e R s m args below meth c H locs cells slots Q (F0 m 5 ls []) := by
  obtain ⟨hx, hb, hml, hown, hts⟩ := id hF
  intro n
  induction n with
  | zero => intro i hn; omega
  | succ n ih =>
    intro i hn hi ls hl
    refine lv_iload hx hb d_M_power_5 (lv_at hl 3 rfl) ?_
    refine lv_iload_n hx hb d_M_power_7 rfl (lv_at hl 1 rfl) ?_
    refine nx_icmp_ge (tgt := 21) hx hb d_M_power_8 (by decide) (by omega) (by omega) (fun h => ?_) (fun h => ?_)
    · have hie : i = ee := by omega
      subst hie
      exact kend ls hl
    · refine lv_lload_n hx hb d_M_power_11 rfl (lv_at hl 2 rfl) ?_
      refine lv_lload_n hx hb d_M_power_12 rfl (lv_at hl 0 rfl) ?_
      refine nx_lmul hx hb d_M_power_13 ?_
      refine lv_lstore_n (lv' := [(3, .long (lN ((bb ^ i) * bb))), (0, .long (lN bb)), (2, .int (nI ee)), (5, .int (nI i))]) hx hb d_M_power_14 rfl hl (by decide) rfl (fun ls hl => ?_)
      refine nx_inc (lv' := [(5, .int (nI (i + 1))), (3, .long (lN ((bb ^ i) * bb))), (0, .long (lN bb)), (2, .int (nI ee))]) hx hb d_M_power_15 hl (k := 3) rfl (by decide) rfl (fun ls hl => ?_)
      refine lv_goto (tgt := 5) hx hb d_M_power_18 (by decide) ?_
      exact ih (i + 1) (by omega) (by omega) ls (lv_sub hl [2, 3, 1, 0] rfl)
end PWM
set_option maxHeartbeats 4000000 in
set_option maxRecDepth 100000 in
theorem c_M_power (l : Launch) {dC : Nat → ClassId} {dI : Nat → Nat → Nat} {cI cL cT : ClassId} {sa : Nat → Nat} (bb ee : Nat) (he : ee ≤ 5) : Met l y_M_power (Cond.code y_M_power b_M_power 6 (some .long) :: gw) ({ frames := 0, cells := 0, slots := 0, locals := 0 } : Room) (pr dC dI cI cL cT sa [.long (lN bb), .int (nI ee)] []) (vp_Sl (fun r => r = lN (bb ^ ee))) 0 0 (fun _ => False) := by
  refine Met.ofW (cc := b_M_power) (maxL := 6) (ret := (some .long)) (by decide) rfl ?_
  intro p e s m args below meth c s₁ B hml hv
  obtain ⟨rfl, hC, hP⟩ := hv
  have hx := B.exec
  have hb := B.bytes
  have hr := B.returns
  have hts : ∀ w ∈ gw, w.before ([.long (lN bb), .int (nI ee)] : List Value).toArray s = true := fun w hw => atoms_spec (ws := Cond.code y_M_power b_M_power 6 (some .long) :: gw) B.pre w (List.mem_cons_of_mem _ hw)
  have hown : s.vm.findClass R_M = some m.cls := findClass_of_methodNamed B.named
  have hlocks := B.notSynchronized
  have hK := hC.1
  have hfr : 0 ≤ (headSpec (Cond.code y_M_power b_M_power 6 (some .long) :: gw) ({ frames := 0, cells := 0, slots := 0, locals := 0 } : Room)).room.frames := Nat.le_refl _
  have hlo : 0 ≤ (headSpec (Cond.code y_M_power b_M_power 6 (some .long) :: gw) ({ frames := 0, cells := 0, slots := 0, locals := 0 } : Room)).room.locals := Nat.le_refl _
  have hce : 0 ≤ (headSpec (Cond.code y_M_power b_M_power 6 (some .long) :: gw) ({ frames := 0, cells := 0, slots := 0, locals := 0 } : Room)).room.cells := Nat.zero_le _
  have hsl : 0 ≤ (headSpec (Cond.code y_M_power b_M_power 6 (some .long) :: gw) ({ frames := 0, cells := 0, slots := 0, locals := 0 } : Room)).room.slots := Nat.zero_le _
  have hl := lv_entry ([.long (lN bb), .int (nI ee)]) (n := 6) (Nat.le_of_ble_eq_true rfl)
  rw [lg_entry_eq]
  generalize (lg_sl ([.long (lN bb), .int (nI ee)]) ++ List.replicate (6 - (lg_sl ([.long (lN bb), .int (nI ee)])).length) Slot.unset).toArray = ls at hl ⊢
  have hl : lv_has ls 6 [(0, .long (lN bb)), (2, .int (nI ee))] := hl
  refine lv_lconst (v := lN 1) hx hb d_M_power_0 (by decide) ?_
  refine lv_lstore_n (lv' := [(3, .long (lN 1)), (0, .long (lN bb)), (2, .int (nI ee))]) hx hb d_M_power_1 rfl hl (by decide) rfl (fun ls hl => ?_)
  refine lv_iconst (v := nI 0) hx hb d_M_power_2 (by decide) ?_
  refine lv_istore (lv' := [(5, .int (nI 0)), (3, .long (lN 1)), (0, .long (lN bb)), (2, .int (nI ee))]) hx hb d_M_power_3 hl (by decide) rfl (fun ls hl => ?_)
  refine l_M_power ⟨hx, hb, hml, hown, hts⟩ he (fun ls hl => ?_) (ee + 1) 0 (by omega) (by omega) ls (lv_sub hl [2, 3, 1, 0] rfl)
  refine lv_lload_n hx hb d_M_power_21 rfl (lv_at hl 2 rfl) ?_
  exact W.lret hx hb hr (fun t ht hW => ⟨_, rfl, rfl, ht⟩) (fun q h => by cases h) d_M_power_22
