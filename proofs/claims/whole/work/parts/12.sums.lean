section
variable {p : Program} {l : Launch} {e : Env} {R : Room} {s : State} {m : MethodId} {args : Array Value} {below : List Frame} {meth : Method} {c : Code} {H : Heap} {locs : List Loc} {cells slots : Nat} {Q : State → Prop}
variable {dC : Nat → ClassId} {dI : Nat → Nat → Nat} {cI cL cT : ClassId} {sa : Nat → Nat}
set_option maxHeartbeats 4000000 in
set_option maxRecDepth 100000 in
theorem l_B_personsBetween (hF : CallFix p m c b_B_personsBetween 5 s args gw R_B) (hK : va_K (dC, dI) vwCl (vwTy cI cL cT) s) {g : Nat → Nat} {F E : Nat} {pp : Nat → Nat} {fr to n : Nat} (hn : to + 1 = fr + n) (ht : to ≤ 12) (hP : va_P (dC, dI) vwCl [(g 1, .inr (0, [.ref (g 2), .ref (g 3), .int (nI F), .int (nI E)])), (g 2, .inl (cI, 13, .inl (fun j => nI (pp j))))] H) (kend : ∀ ls : Array Slot, lv_has ls 5 [(0, .ref (g 1)), (1, .int (nI fr)), (2, .int (nI to)), (3, .int (nI (sm pp fr n))), (4, .int (nI (fr + n)))] → W p l e R s m args below meth c H locs cells slots Q (F0 m 27 ls [])) : ∀ j k : Nat, n - k < j → k ≤ n → ∀ ls : Array Slot, lv_has ls 5 [(0, .ref (g 1)), (1, .int (nI fr)), (2, .int (nI to)), (3, .int (nI (sm pp fr k))), (4, .int (nI (fr + k)))] → W p l e R s m args below meth c H locs cells slots Q (F0 m 5 ls []) := by
  obtain ⟨hx, hb, hml, hown, hts⟩ := id hF
  intro j
  induction j with
  | zero => intro k hj; omega
  | succ j ih =>
    intro k hj hk ls hl
    refine lv_iload hx hb d_B_personsBetween_5 (lv_at hl 4 rfl) ?_
    refine lv_iload_n hx hb d_B_personsBetween_7 rfl (lv_at hl 2 rfl) ?_
    refine nx_icmp_gt (tgt := 27) hx hb d_B_personsBetween_8 (by decide) (by omega) (by omega) (fun h => ?_) (fun h => ?_)
    · have hke : k = n := by omega
      subst hke
      exact kend ls hl
    · refine lv_iload_n hx hb d_B_personsBetween_11 rfl (lv_at hl 3 rfl) ?_
      refine lv_aload_n hx hb d_B_personsBetween_12 rfl (lv_at hl 0 rfl) ?_
      refine va_get (D := (dC, dI)) (ci := 0) (v := .ref (g 2)) (C := R_B) (T := F_B) (N := 4) hx hb hts i_B hown hK hP 0 rfl rfl 0 (by decide) (hts _ k_29) (fun _ h9 => h9) rfl d_B_personsBetween_13 ?_
      refine lv_iload hx hb d_B_personsBetween_16 (lv_at hl 4 rfl) ?_
      refine nx_iald hx hb hK hP 1 0 rfl rfl (k := fr + k) (v := nI (pp (fr + k))) (by omega) (by decide) rfl d_B_personsBetween_18 ?_
      refine nx_iadd hx hb d_B_personsBetween_19 ?_
      refine lv_istore_n (lv' := [(3, .int (nI ((sm pp fr k) + (pp (fr + k))))), (0, .ref (g 1)), (1, .int (nI fr)), (2, .int (nI to)), (4, .int (nI (fr + k)))]) hx hb d_B_personsBetween_20 rfl hl (by decide) rfl (fun ls hl => ?_)
      refine nx_inc (lv' := [(4, .int (nI (fr + k + 1))), (3, .int (nI ((sm pp fr k) + (pp (fr + k))))), (0, .ref (g 1)), (1, .int (nI fr)), (2, .int (nI to))]) hx hb d_B_personsBetween_21 hl (k := 4) rfl (by decide) rfl (fun ls hl => ?_)
      refine lv_goto (tgt := 5) hx hb d_B_personsBetween_24 (by decide) ?_
      exact ih (k + 1) (by omega) (by omega) ls (lv_sub hl [2, 3, 4, 1, 0] rfl)
end
set_option maxHeartbeats 4000000 in
set_option maxRecDepth 100000 in
theorem c_B_personsBetween (l : Launch) {dC : Nat → ClassId} {dI : Nat → Nat → Nat} {cI cL cT : ClassId} {sa : Nat → Nat} (g : Nat → Nat) (F E : Nat) (pp : Nat → Nat) (fr to n : Nat) (hn : to + 1 = fr + n) (ht : to ≤ 12) : Met l y_B_personsBetween (Cond.code y_B_personsBetween b_B_personsBetween 5 (some .int) :: gw) ({ frames := 0, cells := 0, slots := 0, locals := 0 } : Room) (pr dC dI cI cL cT sa [.ref (g 1), .int (nI fr), .int (nI to)] [(g 1, .inr (0, [.ref (g 2), .ref (g 3), .int (nI F), .int (nI E)])), (g 2, .inl (cI, 13, .inl (fun j => nI (pp j))))]) (vp_Si (fun r => r = nI (sm pp fr n))) 0 0 (fun _ => False) := by
  refine Met.ofW (cc := b_B_personsBetween) (maxL := 5) (ret := (some .int)) (by decide) rfl ?_
  intro p e s m args below meth c s₁ B hml hv
  obtain ⟨rfl, hC, hP⟩ := hv
  have hx := B.exec
  have hb := B.bytes
  have hr := B.returns
  have hts : ∀ w ∈ gw, w.before ([.ref (g 1), .int (nI fr), .int (nI to)] : List Value).toArray s = true := fun w hw => atoms_spec (ws := Cond.code y_B_personsBetween b_B_personsBetween 5 (some .int) :: gw) B.pre w (List.mem_cons_of_mem _ hw)
  have hown : s.vm.findClass R_B = some m.cls := findClass_of_methodNamed B.named
  have hlocks := B.notSynchronized
  have hK := hC.1
  have hfr : 0 ≤ (headSpec (Cond.code y_B_personsBetween b_B_personsBetween 5 (some .int) :: gw) ({ frames := 0, cells := 0, slots := 0, locals := 0 } : Room)).room.frames := Nat.le_refl _
  have hlo : 0 ≤ (headSpec (Cond.code y_B_personsBetween b_B_personsBetween 5 (some .int) :: gw) ({ frames := 0, cells := 0, slots := 0, locals := 0 } : Room)).room.locals := Nat.le_refl _
  have hce : 0 ≤ (headSpec (Cond.code y_B_personsBetween b_B_personsBetween 5 (some .int) :: gw) ({ frames := 0, cells := 0, slots := 0, locals := 0 } : Room)).room.cells := Nat.zero_le _
  have hsl : 0 ≤ (headSpec (Cond.code y_B_personsBetween b_B_personsBetween 5 (some .int) :: gw) ({ frames := 0, cells := 0, slots := 0, locals := 0 } : Room)).room.slots := Nat.zero_le _
  have hl := lv_entry ([.ref (g 1), .int (nI fr), .int (nI to)]) (n := 5) (Nat.le_of_ble_eq_true rfl)
  rw [lg_entry_eq]
  generalize (lg_sl ([.ref (g 1), .int (nI fr), .int (nI to)]) ++ List.replicate (5 - (lg_sl ([.ref (g 1), .int (nI fr), .int (nI to)])).length) Slot.unset).toArray = ls at hl ⊢
  have hl : lv_has ls 5 [(0, .ref (g 1)), (1, .int (nI fr)), (2, .int (nI to))] := hl
  refine lv_iconst (v := nI 0) hx hb d_B_personsBetween_0 (by decide) ?_
  refine lv_istore_n (lv' := [(3, .int (nI 0)), (0, .ref (g 1)), (1, .int (nI fr)), (2, .int (nI to))]) hx hb d_B_personsBetween_1 rfl hl (by decide) rfl (fun ls hl => ?_)
  refine lv_iload_n hx hb d_B_personsBetween_2 rfl (lv_at hl 2 rfl) ?_
  refine lv_istore (lv' := [(4, .int (nI fr)), (3, .int (nI 0)), (0, .ref (g 1)), (1, .int (nI fr)), (2, .int (nI to))]) hx hb d_B_personsBetween_3 hl (by decide) rfl (fun ls hl => ?_)
  refine l_B_personsBetween ⟨hx, hb, hml, hown, hts⟩ hK hn ht hP (fun ls hl => ?_) (n + 1) 0 (by omega) (by omega) ls (lv_sub hl [2, 3, 4, 1, 0] rfl)
  refine lv_iload_n hx hb d_B_personsBetween_27 rfl (lv_at hl 3 rfl) ?_
  exact W.iret hx hb hr (fun t ht hW => ⟨_, rfl, rfl, ht⟩) (fun q h => by cases h) d_B_personsBetween_28
section
variable {p : Program} {l : Launch} {e : Env} {R : Room} {s : State} {m : MethodId} {args : Array Value} {below : List Frame} {meth : Method} {c : Code} {H : Heap} {locs : List Loc} {cells slots : Nat} {Q : State → Prop}
variable {dC : Nat → ClassId} {dI : Nat → Nat → Nat} {cI cL cT : ClassId} {sa : Nat → Nat}
set_option maxHeartbeats 4000000 in
set_option maxRecDepth 100000 in
theorem l_M_zonePersons (hF : CallFix p m c b_M_zonePersons 5 s args gw R_M) (hK : va_K (dC, dI) vwCl (vwTy cI cL cT) s) {q : Nat → Nat} {th : Int32} {F nt : Nat} {ab be : Int64} {pp : Nat → Nat} {fr to n : Nat} (hn : to + 1 = fr + n) (ht : to ≤ 12) (hP : va_P (dC, dI) vwCl [(q 0, .inr (6, (mF q th F nt ab be))), (q 1, .inl (cI, 13, .inl (fun j => nI (pp j))))] H) (kend : ∀ ls : Array Slot, lv_has ls 5 [(0, .ref (q 0)), (1, .int (nI fr)), (2, .int (nI to)), (3, .int (nI (sm pp fr n))), (4, .int (nI (fr + n)))] → W p l e R s m args below meth c H locs cells slots Q (F0 m 27 ls [])) : ∀ j k : Nat, n - k < j → k ≤ n → ∀ ls : Array Slot, lv_has ls 5 [(0, .ref (q 0)), (1, .int (nI fr)), (2, .int (nI to)), (3, .int (nI (sm pp fr k))), (4, .int (nI (fr + k)))] → W p l e R s m args below meth c H locs cells slots Q (F0 m 5 ls []) := by
  obtain ⟨hx, hb, hml, hown, hts⟩ := id hF
  intro j
  induction j with
  | zero => intro k hj; omega
  | succ j ih =>
    intro k hj hk ls hl
    refine lv_iload hx hb d_M_zonePersons_5 (lv_at hl 4 rfl) ?_
    refine lv_iload_n hx hb d_M_zonePersons_7 rfl (lv_at hl 2 rfl) ?_
    refine nx_icmp_gt (tgt := 27) hx hb d_M_zonePersons_8 (by decide) (by omega) (by omega) (fun h => ?_) (fun h => ?_)
    · have hke : k = n := by omega
      subst hke
      exact kend ls hl
    · refine lv_iload_n hx hb d_M_zonePersons_11 rfl (lv_at hl 3 rfl) ?_
      refine lv_aload_n hx hb d_M_zonePersons_12 rfl (lv_at hl 0 rfl) ?_
      refine va_get (D := (dC, dI)) (ci := 6) (v := .ref (q 1)) (C := R_M) (T := F_M) (N := 17) hx hb hts i_M hown hK hP 0 rfl rfl 1 (by decide) (hts _ k_478) (fun _ h9 => h9) rfl d_M_zonePersons_13 ?_
      refine lv_iload hx hb d_M_zonePersons_16 (lv_at hl 4 rfl) ?_
      refine nx_iald hx hb hK hP 1 0 rfl rfl (k := fr + k) (v := nI (pp (fr + k))) (by omega) (by decide) rfl d_M_zonePersons_18 ?_
      refine nx_iadd hx hb d_M_zonePersons_19 ?_
      refine lv_istore_n (lv' := [(3, .int (nI ((sm pp fr k) + (pp (fr + k))))), (0, .ref (q 0)), (1, .int (nI fr)), (2, .int (nI to)), (4, .int (nI (fr + k)))]) hx hb d_M_zonePersons_20 rfl hl (by decide) rfl (fun ls hl => ?_)
      refine nx_inc (lv' := [(4, .int (nI (fr + k + 1))), (3, .int (nI ((sm pp fr k) + (pp (fr + k))))), (0, .ref (q 0)), (1, .int (nI fr)), (2, .int (nI to))]) hx hb d_M_zonePersons_21 hl (k := 4) rfl (by decide) rfl (fun ls hl => ?_)
      refine lv_goto (tgt := 5) hx hb d_M_zonePersons_24 (by decide) ?_
      exact ih (k + 1) (by omega) (by omega) ls (lv_sub hl [2, 3, 4, 1, 0] rfl)
end
set_option maxHeartbeats 4000000 in
set_option maxRecDepth 100000 in
theorem c_M_zonePersons (l : Launch) {dC : Nat → ClassId} {dI : Nat → Nat → Nat} {cI cL cT : ClassId} {sa : Nat → Nat} (q : Nat → Nat) (th : Int32) (F nt : Nat) (ab be : Int64) (pp : Nat → Nat) (fr to n : Nat) (hn : to + 1 = fr + n) (ht : to ≤ 12) : Met l y_M_zonePersons (Cond.code y_M_zonePersons b_M_zonePersons 5 (some .int) :: gw) ({ frames := 0, cells := 0, slots := 0, locals := 0 } : Room) (pr dC dI cI cL cT sa [.ref (q 0), .int (nI fr), .int (nI to)] [(q 0, .inr (6, (mF q th F nt ab be))), (q 1, .inl (cI, 13, .inl (fun j => nI (pp j))))]) (vp_Si (fun r => r = nI (sm pp fr n))) 0 0 (fun _ => False) := by
  refine Met.ofW (cc := b_M_zonePersons) (maxL := 5) (ret := (some .int)) (by decide) rfl ?_
  intro p e s m args below meth c s₁ B hml hv
  obtain ⟨rfl, hC, hP⟩ := hv
  have hx := B.exec
  have hb := B.bytes
  have hr := B.returns
  have hts : ∀ w ∈ gw, w.before ([.ref (q 0), .int (nI fr), .int (nI to)] : List Value).toArray s = true := fun w hw => atoms_spec (ws := Cond.code y_M_zonePersons b_M_zonePersons 5 (some .int) :: gw) B.pre w (List.mem_cons_of_mem _ hw)
  have hown : s.vm.findClass R_M = some m.cls := findClass_of_methodNamed B.named
  have hlocks := B.notSynchronized
  have hK := hC.1
  have hfr : 0 ≤ (headSpec (Cond.code y_M_zonePersons b_M_zonePersons 5 (some .int) :: gw) ({ frames := 0, cells := 0, slots := 0, locals := 0 } : Room)).room.frames := Nat.le_refl _
  have hlo : 0 ≤ (headSpec (Cond.code y_M_zonePersons b_M_zonePersons 5 (some .int) :: gw) ({ frames := 0, cells := 0, slots := 0, locals := 0 } : Room)).room.locals := Nat.le_refl _
  have hce : 0 ≤ (headSpec (Cond.code y_M_zonePersons b_M_zonePersons 5 (some .int) :: gw) ({ frames := 0, cells := 0, slots := 0, locals := 0 } : Room)).room.cells := Nat.zero_le _
  have hsl : 0 ≤ (headSpec (Cond.code y_M_zonePersons b_M_zonePersons 5 (some .int) :: gw) ({ frames := 0, cells := 0, slots := 0, locals := 0 } : Room)).room.slots := Nat.zero_le _
  have hl := lv_entry ([.ref (q 0), .int (nI fr), .int (nI to)]) (n := 5) (Nat.le_of_ble_eq_true rfl)
  rw [lg_entry_eq]
  generalize (lg_sl ([.ref (q 0), .int (nI fr), .int (nI to)]) ++ List.replicate (5 - (lg_sl ([.ref (q 0), .int (nI fr), .int (nI to)])).length) Slot.unset).toArray = ls at hl ⊢
  have hl : lv_has ls 5 [(0, .ref (q 0)), (1, .int (nI fr)), (2, .int (nI to))] := hl
  refine lv_iconst (v := nI 0) hx hb d_M_zonePersons_0 (by decide) ?_
  refine lv_istore_n (lv' := [(3, .int (nI 0)), (0, .ref (q 0)), (1, .int (nI fr)), (2, .int (nI to))]) hx hb d_M_zonePersons_1 rfl hl (by decide) rfl (fun ls hl => ?_)
  refine lv_iload_n hx hb d_M_zonePersons_2 rfl (lv_at hl 2 rfl) ?_
  refine lv_istore (lv' := [(4, .int (nI fr)), (3, .int (nI 0)), (0, .ref (q 0)), (1, .int (nI fr)), (2, .int (nI to))]) hx hb d_M_zonePersons_3 hl (by decide) rfl (fun ls hl => ?_)
  refine l_M_zonePersons ⟨hx, hb, hml, hown, hts⟩ hK hn ht hP (fun ls hl => ?_) (n + 1) 0 (by omega) (by omega) ls (lv_sub hl [2, 3, 4, 1, 0] rfl)
  refine lv_iload_n hx hb d_M_zonePersons_27 rfl (lv_at hl 3 rfl) ?_
  exact W.iret hx hb hr (fun t ht hW => ⟨_, rfl, rfl, ht⟩) (fun q h => by cases h) d_M_zonePersons_28
section
variable {p : Program} {l : Launch} {e : Env} {R : Room} {s : State} {m : MethodId} {args : Array Value} {below : List Frame} {meth : Method} {c : Code} {H : Heap} {locs : List Loc} {cells slots : Nat} {Q : State → Prop}
variable {dC : Nat → ClassId} {dI : Nat → Nat → Nat} {cI cL cT : ClassId} {sa : Nat → Nat}
set_option maxHeartbeats 4000000 in
set_option maxRecDepth 100000 in
theorem l_M_allPersons (hF : CallFix p m c b_M_allPersons 3 s args gw R_M) (hK : va_K (dC, dI) vwCl (vwTy cI cL cT) s) {q : Nat → Nat} {th : Int32} {F nt : Nat} {ab be : Int64} {pp : Nat → Nat} (hF12 : F ≤ 12) (hP : va_P (dC, dI) vwCl [(q 0, .inr (6, (mF q th F nt ab be))), (q 1, .inl (cI, 13, .inl (fun j => nI (pp j))))] H) (kend : ∀ ls : Array Slot, lv_has ls 3 [(0, .ref (q 0)), (1, .int (nI (sm pp 1 F))), (2, .int (nI (1 + F)))] → W p l e R s m args below meth c H locs cells slots Q (F0 m 27 ls [])) : ∀ j k : Nat, F - k < j → k ≤ F → ∀ ls : Array Slot, lv_has ls 3 [(0, .ref (q 0)), (1, .int (nI (sm pp 1 k))), (2, .int (nI (1 + k)))] → W p l e R s m args below meth c H locs cells slots Q (F0 m 4 ls []) := by
  obtain ⟨hx, hb, hml, hown, hts⟩ := id hF
  intro j
  induction j with
  | zero => intro k hj; omega
  | succ j ih =>
    intro k hj hk ls hl
    refine lv_iload_n hx hb d_M_allPersons_4 rfl (lv_at hl 2 rfl) ?_
    refine lv_aload_n hx hb d_M_allPersons_5 rfl (lv_at hl 0 rfl) ?_
    refine va_get (D := (dC, dI)) (ci := 6) (v := .int (nI F)) (C := R_M) (T := F_M) (N := 17) hx hb hts i_M hown hK hP 0 rfl rfl 3 (by decide) (hts _ k_480) (fun _ h9 => h9) rfl d_M_allPersons_6 ?_
    refine nx_icmp_gt (tgt := 27) hx hb d_M_allPersons_9 (by decide) (by omega) (by omega) (fun h => ?_) (fun h => ?_)
    · have hke : k = F := by omega
      subst hke
      exact kend ls hl
    · refine lv_iload_n hx hb d_M_allPersons_12 rfl (lv_at hl 1 rfl) ?_
      refine lv_aload_n hx hb d_M_allPersons_13 rfl (lv_at hl 0 rfl) ?_
      refine va_get (D := (dC, dI)) (ci := 6) (v := .ref (q 1)) (C := R_M) (T := F_M) (N := 17) hx hb hts i_M hown hK hP 0 rfl rfl 1 (by decide) (hts _ k_478) (fun _ h9 => h9) rfl d_M_allPersons_14 ?_
      refine lv_iload_n hx hb d_M_allPersons_17 rfl (lv_at hl 2 rfl) ?_
      refine nx_iald hx hb hK hP 1 0 rfl rfl (k := 1 + k) (v := nI (pp (1 + k))) (by omega) (by decide) rfl d_M_allPersons_18 ?_
      refine nx_iadd hx hb d_M_allPersons_19 ?_
      refine lv_istore_n (lv' := [(1, .int (nI ((sm pp 1 k) + (pp (1 + k))))), (0, .ref (q 0)), (2, .int (nI (1 + k)))]) hx hb d_M_allPersons_20 rfl hl (by decide) rfl (fun ls hl => ?_)
      refine nx_inc (lv' := [(2, .int (nI (1 + k + 1))), (1, .int (nI ((sm pp 1 k) + (pp (1 + k))))), (0, .ref (q 0))]) hx hb d_M_allPersons_21 hl (k := 2) rfl (by decide) rfl (fun ls hl => ?_)
      refine lv_goto (tgt := 4) hx hb d_M_allPersons_24 (by decide) ?_
      exact ih (k + 1) (by omega) (by omega) ls (lv_sub hl [2, 1, 0] rfl)
end
set_option maxHeartbeats 4000000 in
set_option maxRecDepth 100000 in
theorem c_M_allPersons (l : Launch) {dC : Nat → ClassId} {dI : Nat → Nat → Nat} {cI cL cT : ClassId} {sa : Nat → Nat} (q : Nat → Nat) (th : Int32) (F nt : Nat) (ab be : Int64) (pp : Nat → Nat) (hF12 : F ≤ 12) : Met l y_M_allPersons (Cond.code y_M_allPersons b_M_allPersons 3 (some .int) :: gw) ({ frames := 0, cells := 0, slots := 0, locals := 0 } : Room) (pr dC dI cI cL cT sa [.ref (q 0)] [(q 0, .inr (6, (mF q th F nt ab be))), (q 1, .inl (cI, 13, .inl (fun j => nI (pp j))))]) (vp_Si (fun r => r = nI (sm pp 1 F))) 0 0 (fun _ => False) := by
  refine Met.ofW (cc := b_M_allPersons) (maxL := 3) (ret := (some .int)) (by decide) rfl ?_
  intro p e s m args below meth c s₁ B hml hv
  obtain ⟨rfl, hC, hP⟩ := hv
  have hx := B.exec
  have hb := B.bytes
  have hr := B.returns
  have hts : ∀ w ∈ gw, w.before ([.ref (q 0)] : List Value).toArray s = true := fun w hw => atoms_spec (ws := Cond.code y_M_allPersons b_M_allPersons 3 (some .int) :: gw) B.pre w (List.mem_cons_of_mem _ hw)
  have hown : s.vm.findClass R_M = some m.cls := findClass_of_methodNamed B.named
  have hlocks := B.notSynchronized
  have hK := hC.1
  have hfr : 0 ≤ (headSpec (Cond.code y_M_allPersons b_M_allPersons 3 (some .int) :: gw) ({ frames := 0, cells := 0, slots := 0, locals := 0 } : Room)).room.frames := Nat.le_refl _
  have hlo : 0 ≤ (headSpec (Cond.code y_M_allPersons b_M_allPersons 3 (some .int) :: gw) ({ frames := 0, cells := 0, slots := 0, locals := 0 } : Room)).room.locals := Nat.le_refl _
  have hce : 0 ≤ (headSpec (Cond.code y_M_allPersons b_M_allPersons 3 (some .int) :: gw) ({ frames := 0, cells := 0, slots := 0, locals := 0 } : Room)).room.cells := Nat.zero_le _
  have hsl : 0 ≤ (headSpec (Cond.code y_M_allPersons b_M_allPersons 3 (some .int) :: gw) ({ frames := 0, cells := 0, slots := 0, locals := 0 } : Room)).room.slots := Nat.zero_le _
  have hl := lv_entry ([.ref (q 0)]) (n := 3) (Nat.le_of_ble_eq_true rfl)
  rw [lg_entry_eq]
  generalize (lg_sl ([.ref (q 0)]) ++ List.replicate (3 - (lg_sl ([.ref (q 0)])).length) Slot.unset).toArray = ls at hl ⊢
  have hl : lv_has ls 3 [(0, .ref (q 0))] := hl
  refine lv_iconst (v := nI 0) hx hb d_M_allPersons_0 (by decide) ?_
  refine lv_istore_n (lv' := [(1, .int (nI 0)), (0, .ref (q 0))]) hx hb d_M_allPersons_1 rfl hl (by decide) rfl (fun ls hl => ?_)
  refine lv_iconst (v := nI 1) hx hb d_M_allPersons_2 (by decide) ?_
  refine lv_istore_n (lv' := [(2, .int (nI 1)), (1, .int (nI 0)), (0, .ref (q 0))]) hx hb d_M_allPersons_3 rfl hl (by decide) rfl (fun ls hl => ?_)
  refine l_M_allPersons ⟨hx, hb, hml, hown, hts⟩ hK hF12 hP (fun ls hl => ?_) (F + 1) 0 (by omega) (by omega) ls (lv_sub hl [2, 1, 0] rfl)
  refine lv_iload_n hx hb d_M_allPersons_27 rfl (lv_at hl 1 rfl) ?_
  exact W.iret hx hb hr (fun t ht hW => ⟨_, rfl, rfl, ht⟩) (fun q h => by cases h) d_M_allPersons_28
section
variable {p : Program} {l : Launch} {e : Env} {R : Room} {s : State} {m : MethodId} {args : Array Value} {below : List Frame} {meth : Method} {c : Code} {H : Heap} {locs : List Loc} {cells slots : Nat} {Q : State → Prop}
variable {dC : Nat → ClassId} {dI : Nat → Nat → Nat} {cI cL cT : ClassId} {sa : Nat → Nat}
set_option maxHeartbeats 4000000 in
set_option maxRecDepth 100000 in
theorem l_M_inside (hF : CallFix p m c b_M_inside 3 s args gw R_M) (hK : va_K (dC, dI) vwCl (vwTy cI cL cT) s) {q : Nat → Nat} {th : Int32} {F nt : Nat} {ab be : Int64} {aa : Nat → Nat} (hF12 : F ≤ 12) (hP : va_P (dC, dI) vwCl [(q 0, .inr (6, (mF q th F nt ab be))), (q 16, .inl (cI, 13, .inl (fun j => nI (aa j))))] H) (kend : ∀ ls : Array Slot, lv_has ls 3 [(0, .ref (q 0)), (1, .int (nI (sm aa 1 F))), (2, .int (nI (1 + F)))] → W p l e R s m args below meth c H locs cells slots Q (F0 m 27 ls [])) : ∀ j k : Nat, F - k < j → k ≤ F → ∀ ls : Array Slot, lv_has ls 3 [(0, .ref (q 0)), (1, .int (nI (sm aa 1 k))), (2, .int (nI (1 + k)))] → W p l e R s m args below meth c H locs cells slots Q (F0 m 4 ls []) := by
  obtain ⟨hx, hb, hml, hown, hts⟩ := id hF
  intro j
  induction j with
  | zero => intro k hj; omega
  | succ j ih =>
    intro k hj hk ls hl
    refine lv_iload_n hx hb d_M_inside_4 rfl (lv_at hl 2 rfl) ?_
    refine lv_aload_n hx hb d_M_inside_5 rfl (lv_at hl 0 rfl) ?_
    refine va_get (D := (dC, dI)) (ci := 6) (v := .int (nI F)) (C := R_M) (T := F_M) (N := 17) hx hb hts i_M hown hK hP 0 rfl rfl 3 (by decide) (hts _ k_480) (fun _ h9 => h9) rfl d_M_inside_6 ?_
    refine nx_icmp_gt (tgt := 27) hx hb d_M_inside_9 (by decide) (by omega) (by omega) (fun h => ?_) (fun h => ?_)
    · have hke : k = F := by omega
      subst hke
      exact kend ls hl
    · refine lv_iload_n hx hb d_M_inside_12 rfl (lv_at hl 1 rfl) ?_
      refine lv_aload_n hx hb d_M_inside_13 rfl (lv_at hl 0 rfl) ?_
      refine va_get (D := (dC, dI)) (ci := 6) (v := .ref (q 16)) (C := R_M) (T := F_M) (N := 17) hx hb hts i_M hown hK hP 0 rfl rfl 16 (by decide) (hts _ k_493) (fun _ h9 => h9) rfl d_M_inside_14 ?_
      refine lv_iload_n hx hb d_M_inside_17 rfl (lv_at hl 2 rfl) ?_
      refine nx_iald hx hb hK hP 1 0 rfl rfl (k := 1 + k) (v := nI (aa (1 + k))) (by omega) (by decide) rfl d_M_inside_18 ?_
      refine nx_iadd hx hb d_M_inside_19 ?_
      refine lv_istore_n (lv' := [(1, .int (nI ((sm aa 1 k) + (aa (1 + k))))), (0, .ref (q 0)), (2, .int (nI (1 + k)))]) hx hb d_M_inside_20 rfl hl (by decide) rfl (fun ls hl => ?_)
      refine nx_inc (lv' := [(2, .int (nI (1 + k + 1))), (1, .int (nI ((sm aa 1 k) + (aa (1 + k))))), (0, .ref (q 0))]) hx hb d_M_inside_21 hl (k := 2) rfl (by decide) rfl (fun ls hl => ?_)
      refine lv_goto (tgt := 4) hx hb d_M_inside_24 (by decide) ?_
      exact ih (k + 1) (by omega) (by omega) ls (lv_sub hl [2, 1, 0] rfl)
end
set_option maxHeartbeats 4000000 in
set_option maxRecDepth 100000 in
theorem c_M_inside (l : Launch) {dC : Nat → ClassId} {dI : Nat → Nat → Nat} {cI cL cT : ClassId} {sa : Nat → Nat} (q : Nat → Nat) (th : Int32) (F nt : Nat) (ab be : Int64) (aa : Nat → Nat) (hF12 : F ≤ 12) : Met l y_M_inside (Cond.code y_M_inside b_M_inside 3 (some .int) :: gw) ({ frames := 0, cells := 0, slots := 0, locals := 0 } : Room) (pr dC dI cI cL cT sa [.ref (q 0)] [(q 0, .inr (6, (mF q th F nt ab be))), (q 16, .inl (cI, 13, .inl (fun j => nI (aa j))))]) (vp_Si (fun r => r = nI (sm aa 1 F))) 0 0 (fun _ => False) := by
  refine Met.ofW (cc := b_M_inside) (maxL := 3) (ret := (some .int)) (by decide) rfl ?_
  intro p e s m args below meth c s₁ B hml hv
  obtain ⟨rfl, hC, hP⟩ := hv
  have hx := B.exec
  have hb := B.bytes
  have hr := B.returns
  have hts : ∀ w ∈ gw, w.before ([.ref (q 0)] : List Value).toArray s = true := fun w hw => atoms_spec (ws := Cond.code y_M_inside b_M_inside 3 (some .int) :: gw) B.pre w (List.mem_cons_of_mem _ hw)
  have hown : s.vm.findClass R_M = some m.cls := findClass_of_methodNamed B.named
  have hlocks := B.notSynchronized
  have hK := hC.1
  have hfr : 0 ≤ (headSpec (Cond.code y_M_inside b_M_inside 3 (some .int) :: gw) ({ frames := 0, cells := 0, slots := 0, locals := 0 } : Room)).room.frames := Nat.le_refl _
  have hlo : 0 ≤ (headSpec (Cond.code y_M_inside b_M_inside 3 (some .int) :: gw) ({ frames := 0, cells := 0, slots := 0, locals := 0 } : Room)).room.locals := Nat.le_refl _
  have hce : 0 ≤ (headSpec (Cond.code y_M_inside b_M_inside 3 (some .int) :: gw) ({ frames := 0, cells := 0, slots := 0, locals := 0 } : Room)).room.cells := Nat.zero_le _
  have hsl : 0 ≤ (headSpec (Cond.code y_M_inside b_M_inside 3 (some .int) :: gw) ({ frames := 0, cells := 0, slots := 0, locals := 0 } : Room)).room.slots := Nat.zero_le _
  have hl := lv_entry ([.ref (q 0)]) (n := 3) (Nat.le_of_ble_eq_true rfl)
  rw [lg_entry_eq]
  generalize (lg_sl ([.ref (q 0)]) ++ List.replicate (3 - (lg_sl ([.ref (q 0)])).length) Slot.unset).toArray = ls at hl ⊢
  have hl : lv_has ls 3 [(0, .ref (q 0))] := hl
  refine lv_iconst (v := nI 0) hx hb d_M_inside_0 (by decide) ?_
  refine lv_istore_n (lv' := [(1, .int (nI 0)), (0, .ref (q 0))]) hx hb d_M_inside_1 rfl hl (by decide) rfl (fun ls hl => ?_)
  refine lv_iconst (v := nI 1) hx hb d_M_inside_2 (by decide) ?_
  refine lv_istore_n (lv' := [(2, .int (nI 1)), (1, .int (nI 0)), (0, .ref (q 0))]) hx hb d_M_inside_3 rfl hl (by decide) rfl (fun ls hl => ?_)
  refine l_M_inside ⟨hx, hb, hml, hown, hts⟩ hK hF12 hP (fun ls hl => ?_) (F + 1) 0 (by omega) (by omega) ls (lv_sub hl [2, 1, 0] rfl)
  refine lv_iload_n hx hb d_M_inside_27 rfl (lv_at hl 1 rfl) ?_
  exact W.iret hx hb hr (fun t ht hW => ⟨_, rfl, rfl, ht⟩) (fun q h => by cases h) d_M_inside_28
set_option maxHeartbeats 4000000 in
set_option maxRecDepth 100000 in
theorem c_S_zone (l : Launch) {dC : Nat → ClassId} {dI : Nat → Nat → Nat} {cI cL cT : ClassId} {sa : Nat → Nat} (fr to : Nat)  : Met l y_S_zone (Cond.code y_S_zone b_S_zone 2 (some .int) :: gw) ({ frames := 0, cells := 0, slots := 0, locals := 0 } : Room) (pr dC dI cI cL cT sa [.int (nI fr), .int (nI to)] []) (vp_Si (fun r => r = nI (fr * 13 + to))) 0 0 (fun _ => False) := by
  refine Met.ofW (cc := b_S_zone) (maxL := 2) (ret := (some .int)) (by decide) rfl ?_
  intro p e s m args below meth c s₁ B hml hv
  obtain ⟨rfl, hC, hP⟩ := hv
  have hx := B.exec
  have hb := B.bytes
  have hr := B.returns
  have hts : ∀ w ∈ gw, w.before ([.int (nI fr), .int (nI to)] : List Value).toArray s = true := fun w hw => atoms_spec (ws := Cond.code y_S_zone b_S_zone 2 (some .int) :: gw) B.pre w (List.mem_cons_of_mem _ hw)
  have hown : s.vm.findClass R_S = some m.cls := findClass_of_methodNamed B.named
  have hlocks := B.notSynchronized
  have hK := hC.1
  have hfr : 0 ≤ (headSpec (Cond.code y_S_zone b_S_zone 2 (some .int) :: gw) ({ frames := 0, cells := 0, slots := 0, locals := 0 } : Room)).room.frames := Nat.le_refl _
  have hlo : 0 ≤ (headSpec (Cond.code y_S_zone b_S_zone 2 (some .int) :: gw) ({ frames := 0, cells := 0, slots := 0, locals := 0 } : Room)).room.locals := Nat.le_refl _
  have hce : 0 ≤ (headSpec (Cond.code y_S_zone b_S_zone 2 (some .int) :: gw) ({ frames := 0, cells := 0, slots := 0, locals := 0 } : Room)).room.cells := Nat.zero_le _
  have hsl : 0 ≤ (headSpec (Cond.code y_S_zone b_S_zone 2 (some .int) :: gw) ({ frames := 0, cells := 0, slots := 0, locals := 0 } : Room)).room.slots := Nat.zero_le _
  have hl := lv_entry ([.int (nI fr), .int (nI to)]) (n := 2) (Nat.le_of_ble_eq_true rfl)
  rw [lg_entry_eq]
  generalize (lg_sl ([.int (nI fr), .int (nI to)]) ++ List.replicate (2 - (lg_sl ([.int (nI fr), .int (nI to)])).length) Slot.unset).toArray = ls at hl ⊢
  have hl : lv_has ls 2 [(0, .int (nI fr)), (1, .int (nI to))] := hl
  refine lv_iload_n hx hb d_S_zone_0 rfl (lv_at hl 0 rfl) ?_
  refine lv_bipush (v := nI 13) hx hb d_S_zone_1 (by decide) ?_
  refine nx_imul hx hb d_S_zone_3 ?_
  refine lv_iload_n hx hb d_S_zone_4 rfl (lv_at hl 1 rfl) ?_
  refine nx_iadd hx hb d_S_zone_5 ?_
  exact W.iret hx hb hr (fun t ht hW => ⟨_, rfl, rfl, ht⟩) (fun q h => by cases h) d_S_zone_6
set_option maxHeartbeats 4000000 in
set_option maxRecDepth 100000 in
theorem c_M_isIn (l : Launch) {dC : Nat → ClassId} {dI : Nat → Nat → Nat} {cI cL cT : ClassId} {sa : Nat → Nat} (v0 lo0 hi0 : Int32) (lo hi : Int) (e1 : lo0.toInt = lo) (e2 : hi0.toInt = hi) : Met l y_M_isIn (Cond.code y_M_isIn b_M_isIn 3 (some .boolean) :: gw) ({ frames := 0, cells := 0, slots := 0, locals := 0 } : Room) (pr dC dI cI cL cT sa [.int v0, .int lo0, .int hi0] []) (vp_Si (fun r => r = bI (lo ≤ v0.toInt ∧ v0.toInt ≤ hi))) 0 0 (fun _ => False) := by
  refine Met.ofW (cc := b_M_isIn) (maxL := 3) (ret := (some .boolean)) (by decide) rfl ?_
  intro p e s m args below meth c s₁ B hml hv
  obtain ⟨rfl, hC, hP⟩ := hv
  have hx := B.exec
  have hb := B.bytes
  have hr := B.returns
  have hts : ∀ w ∈ gw, w.before ([.int v0, .int lo0, .int hi0] : List Value).toArray s = true := fun w hw => atoms_spec (ws := Cond.code y_M_isIn b_M_isIn 3 (some .boolean) :: gw) B.pre w (List.mem_cons_of_mem _ hw)
  have hown : s.vm.findClass R_M = some m.cls := findClass_of_methodNamed B.named
  have hlocks := B.notSynchronized
  have hK := hC.1
  have hfr : 0 ≤ (headSpec (Cond.code y_M_isIn b_M_isIn 3 (some .boolean) :: gw) ({ frames := 0, cells := 0, slots := 0, locals := 0 } : Room)).room.frames := Nat.le_refl _
  have hlo : 0 ≤ (headSpec (Cond.code y_M_isIn b_M_isIn 3 (some .boolean) :: gw) ({ frames := 0, cells := 0, slots := 0, locals := 0 } : Room)).room.locals := Nat.le_refl _
  have hce : 0 ≤ (headSpec (Cond.code y_M_isIn b_M_isIn 3 (some .boolean) :: gw) ({ frames := 0, cells := 0, slots := 0, locals := 0 } : Room)).room.cells := Nat.zero_le _
  have hsl : 0 ≤ (headSpec (Cond.code y_M_isIn b_M_isIn 3 (some .boolean) :: gw) ({ frames := 0, cells := 0, slots := 0, locals := 0 } : Room)).room.slots := Nat.zero_le _
  have hl := lv_entry ([.int v0, .int lo0, .int hi0]) (n := 3) (Nat.le_of_ble_eq_true rfl)
  rw [lg_entry_eq]
  generalize (lg_sl ([.int v0, .int lo0, .int hi0]) ++ List.replicate (3 - (lg_sl ([.int v0, .int lo0, .int hi0])).length) Slot.unset).toArray = ls at hl ⊢
  have hl : lv_has ls 3 [(0, .int v0), (1, .int lo0), (2, .int hi0)] := hl
  refine lv_iload_n hx hb d_M_isIn_0 rfl (lv_at hl 0 rfl) ?_
  refine lv_iload_n hx hb d_M_isIn_1 rfl (lv_at hl 1 rfl) ?_
  refine lv_icmp_lt (tgt := 14) hx hb d_M_isIn_2 (by decide) (fun h1 => ?_) (fun h1 => ?_)
  · refine lv_iconst (v := nI 0) hx hb d_M_isIn_14 (by decide) ?_
    exact W.zret hx hb hr (v := nI 0) (by decide) (fun t ht hW => ⟨_, rfl, (bI_f (fun q => by have := Int32.lt_iff_toInt_lt.mp h1; omega)).symm, ht⟩) (fun q h => by cases h) d_M_isIn_15
  · refine lv_iload_n hx hb d_M_isIn_5 rfl (lv_at hl 0 rfl) ?_
    refine lv_iload_n hx hb d_M_isIn_6 rfl (lv_at hl 2 rfl) ?_
    refine lv_icmp_gt (tgt := 14) hx hb d_M_isIn_7 (by decide) (fun h2 => ?_) (fun h2 => ?_)
    · refine lv_iconst (v := nI 0) hx hb d_M_isIn_14 (by decide) ?_
      exact W.zret hx hb hr (v := nI 0) (by decide) (fun t ht hW => ⟨_, rfl, (bI_f (fun q => by have := Int32.lt_iff_toInt_lt.mp h2; omega)).symm, ht⟩) (fun q h => by cases h) d_M_isIn_15
    · refine lv_iconst (v := nI 1) hx hb d_M_isIn_10 (by decide) ?_
      refine lv_goto (tgt := 15) hx hb d_M_isIn_11 (by decide) ?_
      exact W.zret hx hb hr (v := nI 1) (by decide) (fun t ht hW => ⟨_, rfl, (bI_t (by have := mt Int32.lt_iff_toInt_lt.mpr h1; have := mt Int32.lt_iff_toInt_lt.mpr h2; omega)).symm, ht⟩) (fun q h => by cases h) d_M_isIn_15
set_option maxHeartbeats 4000000 in
set_option maxRecDepth 100000 in
theorem c_M_noFloor (l : Launch) {dC : Nat → ClassId} {dI : Nat → Nat → Nat} {cI cL cT : ClassId} {sa : Nat → Nat} (q : Nat → Nat) (th : Int32) (F nt : Nat) (ab be : Int64) (v0 : Int32) (hF12 : F ≤ 12) : Met l y_M_noFloor (Cond.code y_M_noFloor b_M_noFloor 2 (some .boolean) :: gw) ({ frames := 1, cells := 0, slots := 0, locals := 22 } : Room) (pr dC dI cI cL cT sa [.ref (q 0), .int v0] [(q 0, .inr (6, (mF q th F nt ab be)))]) (vp_Si (fun r => r = bI (¬ okFl F v0))) 0 0 (fun _ => False) := by
  refine Met.ofW (cc := b_M_noFloor) (maxL := 2) (ret := (some .boolean)) (by decide) rfl ?_
  intro p e s m args below meth c s₁ B hml hv
  obtain ⟨rfl, hC, hP⟩ := hv
  have hx := B.exec
  have hb := B.bytes
  have hr := B.returns
  have hts : ∀ w ∈ gw, w.before ([.ref (q 0), .int v0] : List Value).toArray s = true := fun w hw => atoms_spec (ws := Cond.code y_M_noFloor b_M_noFloor 2 (some .boolean) :: gw) B.pre w (List.mem_cons_of_mem _ hw)
  have hown : s.vm.findClass R_M = some m.cls := findClass_of_methodNamed B.named
  have hlocks := B.notSynchronized
  have hK := hC.1
  have hfr : 1 ≤ (headSpec (Cond.code y_M_noFloor b_M_noFloor 2 (some .boolean) :: gw) ({ frames := 1, cells := 0, slots := 0, locals := 22 } : Room)).room.frames := Nat.le_refl _
  have hlo : 22 ≤ (headSpec (Cond.code y_M_noFloor b_M_noFloor 2 (some .boolean) :: gw) ({ frames := 1, cells := 0, slots := 0, locals := 22 } : Room)).room.locals := Nat.le_refl _
  have hce : 0 ≤ (headSpec (Cond.code y_M_noFloor b_M_noFloor 2 (some .boolean) :: gw) ({ frames := 1, cells := 0, slots := 0, locals := 22 } : Room)).room.cells := Nat.zero_le _
  have hsl : 0 ≤ (headSpec (Cond.code y_M_noFloor b_M_noFloor 2 (some .boolean) :: gw) ({ frames := 1, cells := 0, slots := 0, locals := 22 } : Room)).room.slots := Nat.zero_le _
  have hl := lv_entry ([.ref (q 0), .int v0]) (n := 2) (Nat.le_of_ble_eq_true rfl)
  rw [lg_entry_eq]
  generalize (lg_sl ([.ref (q 0), .int v0]) ++ List.replicate (2 - (lg_sl ([.ref (q 0), .int v0])).length) Slot.unset).toArray = ls at hl ⊢
  have hl : lv_has ls 2 [(0, .ref (q 0)), (1, .int v0)] := hl
  refine lv_iload_n hx hb d_M_noFloor_0 rfl (lv_at hl 1 rfl) ?_
  refine lv_iconst (v := nI 1) hx hb d_M_noFloor_1 (by decide) ?_
  refine lv_aload_n hx hb d_M_noFloor_2 rfl (lv_at hl 0 rfl) ?_
  refine va_get (D := (dC, dI)) (ci := 6) (v := .int (nI F)) (C := R_M) (T := F_M) (N := 17) hx hb hts i_M hown hK hP 0 rfl rfl 3 (by decide) (hts _ k_480) (fun _ h9 => h9) rfl d_M_noFloor_3 ?_
  refine ro_calli (va_runS (As := [.int v0, .int (nI 1), .int (nI F)]) (rest := []) ⟨hx, hb, hml, hown, hts⟩ (c_M_isIn l v0 (nI 1) (nI F) 1 F (nI_toInt (by decide)) (nI_toInt (by omega))) (cwS 3 hts (gw_S k_539 k_537 k_538 k_6) rfl rfl rfl (by decide +kernel) ⟨Nat.le_trans (Nat.le_of_ble_eq_true rfl) hfr, Nat.le_trans (Nat.le_of_ble_eq_true rfl) hlo⟩) ⟨pr_blind, pr_at hC (fun k q h => by simp at h)⟩ rfl rfl hl.1 rfl (lv_room (Nat.le_of_ble_eq_true rfl)) d_M_noFloor_6 ⟨hce, hsl⟩) (fun r9 h9 => ?_)
  subst h9
  refine nx_b_ne (tgt := 16) hx hb d_M_noFloor_9 (by decide) (fun h1 => ?_) (fun h1 => ?_)
  · refine lv_iconst (v := nI 0) hx hb d_M_noFloor_16 (by decide) ?_
    exact W.zret hx hb hr (v := nI 0) (by decide) (fun t ht hW => ⟨_, rfl, (bI_f (fun q => q h1)).symm, ht⟩) (fun q h => by cases h) d_M_noFloor_17
  · refine lv_iconst (v := nI 1) hx hb d_M_noFloor_12 (by decide) ?_
    refine lv_goto (tgt := 17) hx hb d_M_noFloor_13 (by decide) ?_
    exact W.zret hx hb hr (v := nI 1) (by decide) (fun t ht hW => ⟨_, rfl, (bI_t h1).symm, ht⟩) (fun q h => by cases h) d_M_noFloor_17
set_option maxHeartbeats 4000000 in
set_option maxRecDepth 100000 in
theorem c_M_noZone (l : Launch) {dC : Nat → ClassId} {dI : Nat → Nat → Nat} {cI cL cT : ClassId} {sa : Nat → Nat} (q : Nat → Nat) (th : Int32) (F nt : Nat) (ab be : Int64) (ty fr to : Int32) (hF12 : F ≤ 12) (hn6 : nt ≤ 6) : Met l y_M_noZone (Cond.code y_M_noZone b_M_noZone 4 (some .boolean) :: gw) ({ frames := 2, cells := 0, slots := 0, locals := 43 } : Room) (pr dC dI cI cL cT sa [.ref (q 0), .int ty, .int fr, .int to] [(q 0, .inr (6, (mF q th F nt ab be)))]) (vp_Si (fun r => r = bI (¬ (okTy nt ty ∧ okFl F fr ∧ okFl F to ∧ fr.toInt ≤ to.toInt)))) 0 0 (fun _ => False) := by
  refine Met.ofW (cc := b_M_noZone) (maxL := 4) (ret := (some .boolean)) (by decide) rfl ?_
  intro p e s m args below meth c s₁ B hml hv
  obtain ⟨rfl, hC, hP⟩ := hv
  have hx := B.exec
  have hb := B.bytes
  have hr := B.returns
  have hts : ∀ w ∈ gw, w.before ([.ref (q 0), .int ty, .int fr, .int to] : List Value).toArray s = true := fun w hw => atoms_spec (ws := Cond.code y_M_noZone b_M_noZone 4 (some .boolean) :: gw) B.pre w (List.mem_cons_of_mem _ hw)
  have hown : s.vm.findClass R_M = some m.cls := findClass_of_methodNamed B.named
  have hlocks := B.notSynchronized
  have hK := hC.1
  have hfr : 2 ≤ (headSpec (Cond.code y_M_noZone b_M_noZone 4 (some .boolean) :: gw) ({ frames := 2, cells := 0, slots := 0, locals := 43 } : Room)).room.frames := Nat.le_refl _
  have hlo : 43 ≤ (headSpec (Cond.code y_M_noZone b_M_noZone 4 (some .boolean) :: gw) ({ frames := 2, cells := 0, slots := 0, locals := 43 } : Room)).room.locals := Nat.le_refl _
  have hce : 0 ≤ (headSpec (Cond.code y_M_noZone b_M_noZone 4 (some .boolean) :: gw) ({ frames := 2, cells := 0, slots := 0, locals := 43 } : Room)).room.cells := Nat.zero_le _
  have hsl : 0 ≤ (headSpec (Cond.code y_M_noZone b_M_noZone 4 (some .boolean) :: gw) ({ frames := 2, cells := 0, slots := 0, locals := 43 } : Room)).room.slots := Nat.zero_le _
  have hl := lv_entry ([.ref (q 0), .int ty, .int fr, .int to]) (n := 4) (Nat.le_of_ble_eq_true rfl)
  rw [lg_entry_eq]
  generalize (lg_sl ([.ref (q 0), .int ty, .int fr, .int to]) ++ List.replicate (4 - (lg_sl ([.ref (q 0), .int ty, .int fr, .int to])).length) Slot.unset).toArray = ls at hl ⊢
  have hl : lv_has ls 4 [(0, .ref (q 0)), (1, .int ty), (2, .int fr), (3, .int to)] := hl
  refine lv_iload_n hx hb d_M_noZone_0 rfl (lv_at hl 1 rfl) ?_
  refine lv_iconst (v := nI 0) hx hb d_M_noZone_1 (by decide) ?_
  refine lv_aload_n hx hb d_M_noZone_2 rfl (lv_at hl 0 rfl) ?_
  refine va_get (D := (dC, dI)) (ci := 6) (v := .int (nI nt)) (C := R_M) (T := F_M) (N := 17) hx hb hts i_M hown hK hP 0 rfl rfl 9 (by decide) (hts _ k_486) (fun _ h9 => h9) rfl d_M_noZone_3 ?_
  refine lv_iconst (v := nI 1) hx hb d_M_noZone_6 (by decide) ?_
  refine lv_isub hx hb d_M_noZone_7 ?_
  refine ro_calli (va_runS (As := [.int ty, .int (nI 0), .int (nI nt - nI 1)]) (rest := []) ⟨hx, hb, hml, hown, hts⟩ (c_M_isIn l ty (nI 0) (nI nt - nI 1) 0 ((nt : Int) - 1) (nI_toInt (by decide)) (by rw [pk_sub_toInt (by omega) (by decide)]; rfl)) (cwS 3 hts (gw_S k_539 k_537 k_538 k_6) rfl rfl rfl (by decide +kernel) ⟨Nat.le_trans (Nat.le_of_ble_eq_true rfl) hfr, Nat.le_trans (Nat.le_of_ble_eq_true rfl) hlo⟩) ⟨pr_blind, pr_at hC (fun k q h => by simp at h)⟩ rfl rfl hl.1 rfl (lv_room (Nat.le_of_ble_eq_true rfl)) d_M_noZone_8 ⟨hce, hsl⟩) (fun r9 h9 => ?_)
  subst h9
  refine nx_b_eq (tgt := 35) hx hb d_M_noZone_11 (by decide) (fun h1 => ?_) (fun h1 => ?_)
  · refine lv_iconst (v := nI 1) hx hb d_M_noZone_35 (by decide) ?_
    refine lv_goto (tgt := 40) hx hb d_M_noZone_36 (by decide) ?_
    exact W.zret hx hb hr (v := nI 1) (by decide) (fun t ht hW => ⟨_, rfl, (bI_t (fun q => h1 (by have := q.1; unfold okTy at this; omega))).symm, ht⟩) (fun q h => by cases h) d_M_noZone_40
  · refine lv_aload_n hx hb d_M_noZone_14 rfl (lv_at hl 0 rfl) ?_
    refine lv_iload_n hx hb d_M_noZone_15 rfl (lv_at hl 2 rfl) ?_
    refine ro_calli (va_runV (As := [.int fr]) (rest := []) ⟨hx, hb, hml, hown, hts⟩ (c_M_noFloor l q th F nt ab be fr hF12) (cwV 1 hts (gw_V k_551 k_548 k_550 ks_M_noFloor k_6) rfl rfl rfl (by decide +kernel) ⟨Nat.le_trans (Nat.le_of_ble_eq_true rfl) hfr, Nat.le_trans (Nat.le_of_ble_eq_true rfl) hlo⟩) ⟨pr_blind, va_recv hK hP (ci := 6) (q0 := 0) rfl rfl, pr_at hC (hP.sub (ws' := [(q 0, .inr (6, (mF q th F nt ab be)))]) [0] rfl)⟩ rfl rfl hl.1 rfl (lv_room (Nat.le_of_ble_eq_true rfl)) d_M_noZone_16 ⟨hce, hsl⟩) (fun r9 h9 => ?_)
    subst h9
    refine nx_b_ne (tgt := 35) hx hb d_M_noZone_19 (by decide) (fun h2 => ?_) (fun h2 => ?_)
    · refine lv_iconst (v := nI 1) hx hb d_M_noZone_35 (by decide) ?_
      refine lv_goto (tgt := 40) hx hb d_M_noZone_36 (by decide) ?_
      exact W.zret hx hb hr (v := nI 1) (by decide) (fun t ht hW => ⟨_, rfl, (bI_t (fun q => h2 q.2.1)).symm, ht⟩) (fun q h => by cases h) d_M_noZone_40
    · refine lv_aload_n hx hb d_M_noZone_22 rfl (lv_at hl 0 rfl) ?_
      refine lv_iload_n hx hb d_M_noZone_23 rfl (lv_at hl 3 rfl) ?_
      refine ro_calli (va_runV (As := [.int to]) (rest := []) ⟨hx, hb, hml, hown, hts⟩ (c_M_noFloor l q th F nt ab be to hF12) (cwV 1 hts (gw_V k_551 k_548 k_550 ks_M_noFloor k_6) rfl rfl rfl (by decide +kernel) ⟨Nat.le_trans (Nat.le_of_ble_eq_true rfl) hfr, Nat.le_trans (Nat.le_of_ble_eq_true rfl) hlo⟩) ⟨pr_blind, va_recv hK hP (ci := 6) (q0 := 0) rfl rfl, pr_at hC (hP.sub (ws' := [(q 0, .inr (6, (mF q th F nt ab be)))]) [0] rfl)⟩ rfl rfl hl.1 rfl (lv_room (Nat.le_of_ble_eq_true rfl)) d_M_noZone_24 ⟨hce, hsl⟩) (fun r9 h9 => ?_)
      subst h9
      refine nx_b_ne (tgt := 35) hx hb d_M_noZone_27 (by decide) (fun h3 => ?_) (fun h3 => ?_)
      · refine lv_iconst (v := nI 1) hx hb d_M_noZone_35 (by decide) ?_
        refine lv_goto (tgt := 40) hx hb d_M_noZone_36 (by decide) ?_
        exact W.zret hx hb hr (v := nI 1) (by decide) (fun t ht hW => ⟨_, rfl, (bI_t (fun q => h3 q.2.2.1)).symm, ht⟩) (fun q h => by cases h) d_M_noZone_40
      · refine lv_iload_n hx hb d_M_noZone_30 rfl (lv_at hl 3 rfl) ?_
        refine lv_iload_n hx hb d_M_noZone_31 rfl (lv_at hl 2 rfl) ?_
        refine lv_icmp_ge (tgt := 39) hx hb d_M_noZone_32 (by decide) (fun h4 => ?_) (fun h4 => ?_)
        · refine lv_iconst (v := nI 0) hx hb d_M_noZone_39 (by decide) ?_
          exact W.zret hx hb hr (v := nI 0) (by decide) (fun t ht hW => ⟨_, rfl, (bI_f (fun q => q ⟨by unfold okTy; omega, Classical.not_not.mp h2, Classical.not_not.mp h3, Int32.le_iff_toInt_le.mp h4⟩)).symm, ht⟩) (fun q h => by cases h) d_M_noZone_40
        · refine lv_iconst (v := nI 1) hx hb d_M_noZone_35 (by decide) ?_
          refine lv_goto (tgt := 40) hx hb d_M_noZone_36 (by decide) ?_
          exact W.zret hx hb hr (v := nI 1) (by decide) (fun t ht hW => ⟨_, rfl, (bI_t (fun q => h4 (Int32.le_iff_toInt_le.mpr q.2.2.2))).symm, ht⟩) (fun q h => by cases h) d_M_noZone_40
set_option maxHeartbeats 4000000 in
set_option maxRecDepth 100000 in
theorem c_M_thrown (l : Launch) {dC : Nat → ClassId} {dI : Nat → Nat → Nat} {cI cL cT : ClassId} {sa : Nat → Nat} (q : Nat → Nat) (th : Int32) (F nt : Nat) (ab be : Int64)  : Met l y_M_thrown (Cond.code y_M_thrown b_M_thrown 1 (some .int) :: gw) ({ frames := 0, cells := 0, slots := 0, locals := 0 } : Room) (pr dC dI cI cL cT sa [.ref (q 0)] [(q 0, .inr (6, (mF q th F nt ab be)))]) (vp_Si (fun r => r = th)) 0 0 (fun _ => False) := by
  refine Met.ofW (cc := b_M_thrown) (maxL := 1) (ret := (some .int)) (by decide) rfl ?_
  intro p e s m args below meth c s₁ B hml hv
  obtain ⟨rfl, hC, hP⟩ := hv
  have hx := B.exec
  have hb := B.bytes
  have hr := B.returns
  have hts : ∀ w ∈ gw, w.before ([.ref (q 0)] : List Value).toArray s = true := fun w hw => atoms_spec (ws := Cond.code y_M_thrown b_M_thrown 1 (some .int) :: gw) B.pre w (List.mem_cons_of_mem _ hw)
  have hown : s.vm.findClass R_M = some m.cls := findClass_of_methodNamed B.named
  have hlocks := B.notSynchronized
  have hK := hC.1
  have hfr : 0 ≤ (headSpec (Cond.code y_M_thrown b_M_thrown 1 (some .int) :: gw) ({ frames := 0, cells := 0, slots := 0, locals := 0 } : Room)).room.frames := Nat.le_refl _
  have hlo : 0 ≤ (headSpec (Cond.code y_M_thrown b_M_thrown 1 (some .int) :: gw) ({ frames := 0, cells := 0, slots := 0, locals := 0 } : Room)).room.locals := Nat.le_refl _
  have hce : 0 ≤ (headSpec (Cond.code y_M_thrown b_M_thrown 1 (some .int) :: gw) ({ frames := 0, cells := 0, slots := 0, locals := 0 } : Room)).room.cells := Nat.zero_le _
  have hsl : 0 ≤ (headSpec (Cond.code y_M_thrown b_M_thrown 1 (some .int) :: gw) ({ frames := 0, cells := 0, slots := 0, locals := 0 } : Room)).room.slots := Nat.zero_le _
  have hl := lv_entry ([.ref (q 0)]) (n := 1) (Nat.le_of_ble_eq_true rfl)
  rw [lg_entry_eq]
  generalize (lg_sl ([.ref (q 0)]) ++ List.replicate (1 - (lg_sl ([.ref (q 0)])).length) Slot.unset).toArray = ls at hl ⊢
  have hl : lv_has ls 1 [(0, .ref (q 0))] := hl
  refine lv_aload_n hx hb d_M_thrown_0 rfl (lv_at hl 0 rfl) ?_
  refine va_get (D := (dC, dI)) (ci := 6) (v := .int th) (C := R_M) (T := F_M) (N := 17) hx hb hts i_M hown hK hP 0 rfl rfl 0 (by decide) (hts _ k_477) (fun _ h9 => h9) rfl d_M_thrown_1 ?_
  exact W.iret hx hb hr (fun t ht hW => ⟨_, rfl, rfl, ht⟩) (fun q h => by cases h) d_M_thrown_4
set_option maxHeartbeats 4000000 in
set_option maxRecDepth 100000 in
theorem c_M_part (l : Launch) {dC : Nat → ClassId} {dI : Nat → Nat → Nat} {cI cL cT : ClassId} {sa : Nat → Nat} (q : Nat → Nat) (th : Int32) (F nt : Nat) (ab be : Int64) (pt : Nat) (hpt : pt ≤ 1) : Met l y_M_part (Cond.code y_M_part b_M_part 2 (some .long) :: gw) ({ frames := 0, cells := 0, slots := 0, locals := 0 } : Room) (pr dC dI cI cL cT sa [.ref (q 0), .int (nI pt)] [(q 0, .inr (6, (mF q th F nt ab be)))]) (vp_Sl (fun r => r = if pt = 0 then ab else be)) 0 0 (fun _ => False) := by
  refine Met.ofW (cc := b_M_part) (maxL := 2) (ret := (some .long)) (by decide) rfl ?_
  intro p e s m args below meth c s₁ B hml hv
  obtain ⟨rfl, hC, hP⟩ := hv
  have hx := B.exec
  have hb := B.bytes
  have hr := B.returns
  have hts : ∀ w ∈ gw, w.before ([.ref (q 0), .int (nI pt)] : List Value).toArray s = true := fun w hw => atoms_spec (ws := Cond.code y_M_part b_M_part 2 (some .long) :: gw) B.pre w (List.mem_cons_of_mem _ hw)
  have hown : s.vm.findClass R_M = some m.cls := findClass_of_methodNamed B.named
  have hlocks := B.notSynchronized
  have hK := hC.1
  have hfr : 0 ≤ (headSpec (Cond.code y_M_part b_M_part 2 (some .long) :: gw) ({ frames := 0, cells := 0, slots := 0, locals := 0 } : Room)).room.frames := Nat.le_refl _
  have hlo : 0 ≤ (headSpec (Cond.code y_M_part b_M_part 2 (some .long) :: gw) ({ frames := 0, cells := 0, slots := 0, locals := 0 } : Room)).room.locals := Nat.le_refl _
  have hce : 0 ≤ (headSpec (Cond.code y_M_part b_M_part 2 (some .long) :: gw) ({ frames := 0, cells := 0, slots := 0, locals := 0 } : Room)).room.cells := Nat.zero_le _
  have hsl : 0 ≤ (headSpec (Cond.code y_M_part b_M_part 2 (some .long) :: gw) ({ frames := 0, cells := 0, slots := 0, locals := 0 } : Room)).room.slots := Nat.zero_le _
  have hl := lv_entry ([.ref (q 0), .int (nI pt)]) (n := 2) (Nat.le_of_ble_eq_true rfl)
  rw [lg_entry_eq]
  generalize (lg_sl ([.ref (q 0), .int (nI pt)]) ++ List.replicate (2 - (lg_sl ([.ref (q 0), .int (nI pt)])).length) Slot.unset).toArray = ls at hl ⊢
  have hl : lv_has ls 2 [(0, .ref (q 0)), (1, .int (nI pt))] := hl
  refine lv_iload_n hx hb d_M_part_0 rfl (lv_at hl 1 rfl) ?_
  refine nx_if_ne (tgt := 11) hx hb d_M_part_1 (by decide) (by omega) (fun h1 => ?_) (fun h1 => ?_)
  · refine lv_aload_n hx hb d_M_part_11 rfl (lv_at hl 0 rfl) ?_
    refine va_get (D := (dC, dI)) (ci := 6) (v := .long be) (C := R_M) (T := F_M) (N := 17) hx hb hts i_M hown hK hP 0 rfl rfl 11 (by decide) (hts _ k_488) (fun _ h9 => h9) rfl d_M_part_12 ?_
    exact W.lret hx hb hr (fun t ht hW => ⟨_, rfl, by rw [if_neg (by omega)], ht⟩) (fun q h => by cases h) d_M_part_15
  · refine lv_aload_n hx hb d_M_part_4 rfl (lv_at hl 0 rfl) ?_
    refine va_get (D := (dC, dI)) (ci := 6) (v := .long ab) (C := R_M) (T := F_M) (N := 17) hx hb hts i_M hown hK hP 0 rfl rfl 10 (by decide) (hts _ k_487) (fun _ h9 => h9) rfl d_M_part_5 ?_
    refine lv_goto (tgt := 15) hx hb d_M_part_8 (by decide) ?_
    exact W.lret hx hb hr (fun t ht hW => ⟨_, rfl, by rw [if_pos h1], ht⟩) (fun q h => by cases h) d_M_part_15
