section
variable {p : Program} {l : Launch} {e : Env} {R : Room} {s : State} {m : MethodId} {args : Array Value} {below : List Frame} {meth : Method} {c : Code} {H : Heap} {locs : List Loc} {cells slots : Nat} {Q : State → Prop}
variable {dC : Nat → ClassId} {dI : Nat → Nat → Nat} {cI cL cT : ClassId} {sa : Nat → Nat}
set_option maxHeartbeats 4000000 in
set_option maxRecDepth 100000 in
theorem l_M_stopsOf (hF : CallFix p m c b_M_stopsOf 9 s args gw R_M) (hC : CT dC dI cI cL cT sa s) {q : Nat → Nat} {th : Int32} {F nt : Nat} {ab be : Int64} {pp : Nat → Nat} {fr to n U P : Nat} (hn : to + 1 = fr + n) (ht : to ≤ 12) (hU : ∀ k, k < n → pp (fr + k) ≤ U) (hU2 : U ≤ 200) (hP5 : P ≤ 5) (hfr : 1 ≤ R.frames) (hlo : 25 ≤ R.locals) (hce : cells ≤ R.cells) (hsl : slots ≤ R.slots) (hP : va_P (dC, dI) vwCl [(q 0, .inr (6, (mF q th F nt ab be))), (q 1, .inl (cI, 13, .inl (fun j => nI (pp j))))] H) (kend : ∀ ls : Array Slot, lv_has ls 9 [(0, .ref (q 0)), (1, .int (nI P)), (2, .int (nI fr)), (3, .int (nI to)), (4, .long (lN U)), (6, .long (lN (sp pp U P fr n))), (8, .int (nI (fr + n)))] → W p l e R s m args below meth c H locs cells slots Q (F0 m 54 ls [])) : ∀ j k : Nat, n - k < j → k ≤ n → ∀ ls : Array Slot, lv_has ls 9 [(0, .ref (q 0)), (1, .int (nI P)), (2, .int (nI fr)), (3, .int (nI to)), (4, .long (lN U)), (6, .long (lN (sp pp U P fr k))), (8, .int (nI (fr + k)))] → W p l e R s m args below meth c H locs cells slots Q (F0 m 15 ls []) := by
  obtain ⟨hx, hb, hml, hown, hts⟩ := id hF
  have hK := hC.1
  intro j
  induction j with
  | zero => intro k hj; omega
  | succ j ih =>
    intro k hj hk ls hl
    refine lv_iload hx hb d_M_stopsOf_15 (lv_at hl 6 rfl) ?_
    refine lv_iload_n hx hb d_M_stopsOf_17 rfl (lv_at hl 3 rfl) ?_
    refine nx_icmp_gt (tgt := 54) hx hb d_M_stopsOf_18 (by decide) (by omega) (by omega) (fun h => ?_) (fun h => ?_)
    · have hke : k = n := by omega
      subst hke
      exact kend ls hl
    · have hpk := hU k (by omega)
      refine lv_lload hx hb d_M_stopsOf_21 (lv_at hl 5 rfl) ?_
      refine lv_lload hx hb d_M_stopsOf_23 (lv_at hl 4 rfl) ?_
      refine lv_iload_n hx hb d_M_stopsOf_25 rfl (lv_at hl 1 rfl) ?_
      refine ro_calll (va_runS (As := [.long (lN U), .int (nI P)]) (rest := [.long (lN (sp pp U P fr k))]) ⟨hx, hb, hml, hown, hts⟩ (c_M_power l U P hP5) (cwS 2 hts (gw_S k_571 k_569 k_570 k_6) rfl rfl rfl (by decide +kernel) ⟨Nat.le_trans (Nat.le_of_ble_eq_true rfl) hfr, Nat.le_trans (Nat.le_of_ble_eq_true rfl) hlo⟩) ⟨pr_blind, pr_at hC (fun k q h => by simp at h)⟩ rfl rfl hl.1 rfl (lv_room (Nat.le_of_ble_eq_true rfl)) d_M_stopsOf_26 ⟨hce, hsl⟩) (fun r9 h9 => ?_)
      subst h9
      refine nx_ladd hx hb d_M_stopsOf_29 ?_
      refine lv_lload hx hb d_M_stopsOf_30 (lv_at hl 4 rfl) ?_
      refine lv_aload_n hx hb d_M_stopsOf_32 rfl (lv_at hl 0 rfl) ?_
      refine va_get (D := (dC, dI)) (ci := 6) (v := .ref (q 1)) (C := R_M) (T := F_M) (N := 17) hx hb hts i_M hown hK hP 0 rfl rfl 1 (by decide) (hts _ k_478) (fun _ h9 => h9) rfl d_M_stopsOf_33 ?_
      refine lv_iload hx hb d_M_stopsOf_36 (lv_at hl 6 rfl) ?_
      refine nx_iald hx hb hK hP 1 0 rfl rfl (k := fr + k) (v := nI (pp (fr + k))) (by omega) (by decide) rfl d_M_stopsOf_38 ?_
      refine nx_i2l hx hb d_M_stopsOf_39 (by omega) ?_
      refine nx_lsub hx hb d_M_stopsOf_40 (by omega) ?_
      refine lv_iload_n hx hb d_M_stopsOf_41 rfl (lv_at hl 1 rfl) ?_
      refine ro_calll (va_runS (As := [.long (lN (U - (pp (fr + k)))), .int (nI P)]) (rest := [.long (lN ((sp pp U P fr k) + (U ^ P)))]) ⟨hx, hb, hml, hown, hts⟩ (c_M_power l (U - pp (fr + k)) P hP5) (cwS 2 hts (gw_S k_571 k_569 k_570 k_6) rfl rfl rfl (by decide +kernel) ⟨Nat.le_trans (Nat.le_of_ble_eq_true rfl) hfr, Nat.le_trans (Nat.le_of_ble_eq_true rfl) hlo⟩) ⟨pr_blind, pr_at hC (fun k q h => by simp at h)⟩ rfl rfl hl.1 rfl (lv_room (Nat.le_of_ble_eq_true rfl)) d_M_stopsOf_42 ⟨hce, hsl⟩) (fun r9 h9 => ?_)
      subst h9
      have hle : (U - pp (fr + k)) ^ P ≤ U ^ P := Nat.pow_le_pow_left (Nat.sub_le _ _) _
      refine nx_lsub hx hb d_M_stopsOf_45 (by omega) ?_
      refine lv_lstore (lv' := [(6, .long (lN (((sp pp U P fr k) + (U ^ P)) - ((U - pp (fr + k)) ^ P)))), (0, .ref (q 0)), (1, .int (nI P)), (2, .int (nI fr)), (3, .int (nI to)), (4, .long (lN U)), (8, .int (nI (fr + k)))]) hx hb d_M_stopsOf_46 hl (by decide) rfl (fun ls hl => ?_)
      rw [Nat.add_sub_assoc hle] at hl
      refine nx_inc (lv' := [(8, .int (nI (fr + k + 1))), (6, .long (lN (sp pp U P fr k + (U ^ P - (U - pp (fr + k)) ^ P)))), (0, .ref (q 0)), (1, .int (nI P)), (2, .int (nI fr)), (3, .int (nI to)), (4, .long (lN U))]) hx hb d_M_stopsOf_48 hl (k := 6) rfl (by decide) rfl (fun ls hl => ?_)
      refine lv_goto (tgt := 15) hx hb d_M_stopsOf_51 (by decide) ?_
      exact ih (k + 1) (by omega) (by omega) ls (lv_sub hl [2, 3, 4, 5, 6, 1, 0] rfl)
end
set_option maxHeartbeats 4000000 in
set_option maxRecDepth 100000 in
theorem c_M_stopsOf (l : Launch) {dC : Nat → ClassId} {dI : Nat → Nat → Nat} {cI cL cT : ClassId} {sa : Nat → Nat} (q : Nat → Nat) (th : Int32) (F nt : Nat) (ab be : Int64) (pp : Nat → Nat) (fr to n P : Nat) (hn : to + 1 = fr + n) (ht : to ≤ 12) (hU2 : sm pp fr n ≤ 200) (hP5 : P ≤ 5) : Met l y_M_stopsOf (Cond.code y_M_stopsOf b_M_stopsOf 9 (some .long) :: gw) ({ frames := 1, cells := 0, slots := 0, locals := 25 } : Room) (pr dC dI cI cL cT sa [.ref (q 0), .int (nI P), .int (nI fr), .int (nI to)] [(q 0, .inr (6, (mF q th F nt ab be))), (q 1, .inl (cI, 13, .inl (fun j => nI (pp j))))]) (vp_Sl (fun r => r = lN (sp pp (sm pp fr n) P fr n))) 0 0 (fun _ => False) := by
  refine Met.ofW (cc := b_M_stopsOf) (maxL := 9) (ret := (some .long)) (by decide) rfl ?_
  intro p e s m args below meth c s₁ B hml hv
  obtain ⟨rfl, hC, hP⟩ := hv
  have hx := B.exec
  have hb := B.bytes
  have hr := B.returns
  have hts : ∀ w ∈ gw, w.before ([.ref (q 0), .int (nI P), .int (nI fr), .int (nI to)] : List Value).toArray s = true := fun w hw => atoms_spec (ws := Cond.code y_M_stopsOf b_M_stopsOf 9 (some .long) :: gw) B.pre w (List.mem_cons_of_mem _ hw)
  have hown : s.vm.findClass R_M = some m.cls := findClass_of_methodNamed B.named
  have hlocks := B.notSynchronized
  have hK := hC.1
  have hfr : 1 ≤ (headSpec (Cond.code y_M_stopsOf b_M_stopsOf 9 (some .long) :: gw) ({ frames := 1, cells := 0, slots := 0, locals := 25 } : Room)).room.frames := Nat.le_refl _
  have hlo : 25 ≤ (headSpec (Cond.code y_M_stopsOf b_M_stopsOf 9 (some .long) :: gw) ({ frames := 1, cells := 0, slots := 0, locals := 25 } : Room)).room.locals := Nat.le_refl _
  have hce : 0 ≤ (headSpec (Cond.code y_M_stopsOf b_M_stopsOf 9 (some .long) :: gw) ({ frames := 1, cells := 0, slots := 0, locals := 25 } : Room)).room.cells := Nat.zero_le _
  have hsl : 0 ≤ (headSpec (Cond.code y_M_stopsOf b_M_stopsOf 9 (some .long) :: gw) ({ frames := 1, cells := 0, slots := 0, locals := 25 } : Room)).room.slots := Nat.zero_le _
  have hl := lv_entry ([.ref (q 0), .int (nI P), .int (nI fr), .int (nI to)]) (n := 9) (Nat.le_of_ble_eq_true rfl)
  rw [lg_entry_eq]
  generalize (lg_sl ([.ref (q 0), .int (nI P), .int (nI fr), .int (nI to)]) ++ List.replicate (9 - (lg_sl ([.ref (q 0), .int (nI P), .int (nI fr), .int (nI to)])).length) Slot.unset).toArray = ls at hl ⊢
  have hl : lv_has ls 9 [(0, .ref (q 0)), (1, .int (nI P)), (2, .int (nI fr)), (3, .int (nI to))] := hl
  refine lv_aload_n hx hb d_M_stopsOf_0 rfl (lv_at hl 0 rfl) ?_
  refine lv_iload_n hx hb d_M_stopsOf_1 rfl (lv_at hl 2 rfl) ?_
  refine lv_iload_n hx hb d_M_stopsOf_2 rfl (lv_at hl 3 rfl) ?_
  refine ro_calli (va_runV (As := [.int (nI fr), .int (nI to)]) (rest := []) ⟨hx, hb, hml, hown, hts⟩ (c_M_zonePersons l q th F nt ab be pp fr to n hn ht) (cwV 2 hts (gw_V k_568 k_565 k_567 ks_M_zonePersons k_6) rfl rfl rfl (by decide +kernel) ⟨Nat.le_trans (Nat.le_of_ble_eq_true rfl) hfr, Nat.le_trans (Nat.le_of_ble_eq_true rfl) hlo⟩) ⟨pr_blind, va_recv hK hP (ci := 6) (q0 := 0) rfl rfl, pr_at hC (hP.sub (ws' := [(q 0, .inr (6, (mF q th F nt ab be))), (q 1, .inl (cI, 13, .inl (fun j => nI (pp j))))]) [0, 1] rfl)⟩ rfl rfl hl.1 rfl (lv_room (Nat.le_of_ble_eq_true rfl)) d_M_stopsOf_3 ⟨hce, hsl⟩) (fun r9 h9 => ?_)
  subst h9
  refine nx_i2l hx hb d_M_stopsOf_6 (by omega) ?_
  refine lv_lstore (lv' := [(4, .long (lN (sm pp fr n))), (0, .ref (q 0)), (1, .int (nI P)), (2, .int (nI fr)), (3, .int (nI to))]) hx hb d_M_stopsOf_7 hl (by decide) rfl (fun ls hl => ?_)
  refine lv_lconst (v := lN 0) hx hb d_M_stopsOf_9 (by decide) ?_
  refine lv_lstore (lv' := [(6, .long (lN 0)), (4, .long (lN (sm pp fr n))), (0, .ref (q 0)), (1, .int (nI P)), (2, .int (nI fr)), (3, .int (nI to))]) hx hb d_M_stopsOf_10 hl (by decide) rfl (fun ls hl => ?_)
  refine lv_iload_n hx hb d_M_stopsOf_12 rfl (lv_at hl 4 rfl) ?_
  refine lv_istore (lv' := [(8, .int (nI fr)), (6, .long (lN 0)), (4, .long (lN (sm pp fr n))), (0, .ref (q 0)), (1, .int (nI P)), (2, .int (nI fr)), (3, .int (nI to))]) hx hb d_M_stopsOf_13 hl (by decide) rfl (fun ls hl => ?_)
  refine l_M_stopsOf ⟨hx, hb, hml, hown, hts⟩ hC hn ht (fun k hk => sm_le hk) hU2 hP5 hfr hlo hce hsl hP (fun ls hl => ?_) (n + 1) 0 (by omega) (by omega) ls (lv_sub hl [3, 4, 5, 6, 2, 1, 0] rfl)
  refine lv_lload hx hb d_M_stopsOf_54 (lv_at hl 5 rfl) ?_
  exact W.lret hx hb hr (fun t ht hW => ⟨_, rfl, rfl, ht⟩) (fun q h => by cases h) d_M_stopsOf_56
section
variable {p : Program} {l : Launch} {e : Env} {R : Room} {s : State} {m : MethodId} {args : Array Value} {below : List Frame} {meth : Method} {c : Code} {H : Heap} {locs : List Loc} {cells slots : Nat} {Q : State → Prop}
variable {dC : Nat → ClassId} {dI : Nat → Nat → Nat} {cI cL cT : ClassId} {sa : Nat → Nat}
set_option maxHeartbeats 4000000 in
set_option maxRecDepth 100000 in
theorem l_M_highestOf (hF : CallFix p m c b_M_highestOf 11 s args gw R_M) (hC : CT dC dI cI cL cT sa s) {q : Nat → Nat} {th : Int32} {F nt : Nat} {ab be : Int64} {pp hh : Nat → Nat} {fr to n P : Nat} (hn : to + 1 = fr + n) (ht : to ≤ 12) (hpp : ∀ k, k < n → pp (fr + k) ≤ 200) (hhh : ∀ k, k < n → hh (fr + k) ≤ 1200) (hP5 : P ≤ 5) (hfr : 1 ≤ R.frames) (hlo : 25 ≤ R.locals) (hce : cells ≤ R.cells) (hsl : slots ≤ R.slots) (hP : va_P (dC, dI) vwCl [(q 0, .inr (6, (mF q th F nt ab be))), (q 1, .inl (cI, 13, .inl (fun j => nI (pp j)))), (q 2, .inl (cI, 13, .inl (fun j => nI (hh j))))] H) (kend : ∀ ls : Array Slot, lv_has ls 11 [(0, .ref (q 0)), (1, .int (nI P)), (2, .int (nI fr)), (3, .int (nI to)), (4, .long (lN (hp pp hh P fr n))), (6, .long (lN (sm pp fr n))), (8, .int (nI (fr + n)))] → W p l e R s m args below meth c H locs cells slots Q (F0 m 65 ls [])) : ∀ j k : Nat, n - k < j → k ≤ n → ∀ ls : Array Slot, lv_has ls 11 [(0, .ref (q 0)), (1, .int (nI P)), (2, .int (nI fr)), (3, .int (nI to)), (4, .long (lN (hp pp hh P fr k))), (6, .long (lN (sm pp fr k))), (8, .int (nI (fr + k)))] → W p l e R s m args below meth c H locs cells slots Q (F0 m 9 ls []) := by
  obtain ⟨hx, hb, hml, hown, hts⟩ := id hF
  have hK := hC.1
  intro j
  induction j with
  | zero => intro k hj; omega
  | succ j ih =>
    intro k hj hk ls hl
    refine lv_iload hx hb d_M_highestOf_9 (lv_at hl 6 rfl) ?_
    refine lv_iload_n hx hb d_M_highestOf_11 rfl (lv_at hl 3 rfl) ?_
    refine nx_icmp_gt (tgt := 65) hx hb d_M_highestOf_12 (by decide) (by omega) (by omega) (fun h => ?_) (fun h => ?_)
    · have hke : k = n := by omega
      subst hke
      exact kend ls hl
    · have hpk := hpp k (by omega)
      have hhk := hhh k (by omega)
      refine lv_lload hx hb d_M_highestOf_15 (lv_at hl 5 rfl) ?_
      refine lv_aload_n hx hb d_M_highestOf_17 rfl (lv_at hl 0 rfl) ?_
      refine va_get (D := (dC, dI)) (ci := 6) (v := .ref (q 1)) (C := R_M) (T := F_M) (N := 17) hx hb hts i_M hown hK hP 0 rfl rfl 1 (by decide) (hts _ k_478) (fun _ h9 => h9) rfl d_M_highestOf_18 ?_
      refine lv_iload hx hb d_M_highestOf_21 (lv_at hl 6 rfl) ?_
      refine nx_iald hx hb hK hP 1 0 rfl rfl (k := fr + k) (v := nI (pp (fr + k))) (by omega) (by decide) rfl d_M_highestOf_23 ?_
      refine nx_i2l hx hb d_M_highestOf_24 (by omega) ?_
      refine nx_ladd hx hb d_M_highestOf_25 ?_
      refine lv_lstore (lv' := [(9, .long (lN ((sm pp fr k) + (pp (fr + k))))), (0, .ref (q 0)), (1, .int (nI P)), (2, .int (nI fr)), (3, .int (nI to)), (4, .long (lN (hp pp hh P fr k))), (6, .long (lN (sm pp fr k))), (8, .int (nI (fr + k)))]) hx hb d_M_highestOf_26 hl (by decide) rfl (fun ls hl => ?_)
      refine lv_lload hx hb d_M_highestOf_28 (lv_at hl 5 rfl) ?_
      refine lv_aload_n hx hb d_M_highestOf_30 rfl (lv_at hl 1 rfl) ?_
      refine va_get (D := (dC, dI)) (ci := 6) (v := .ref (q 2)) (C := R_M) (T := F_M) (N := 17) hx hb hts i_M hown hK hP 0 rfl rfl 2 (by decide) (hts _ k_479) (fun _ h9 => h9) rfl d_M_highestOf_31 ?_
      refine lv_iload hx hb d_M_highestOf_34 (lv_at hl 7 rfl) ?_
      refine nx_iald hx hb hK hP 2 0 rfl rfl (k := fr + k) (v := nI (hh (fr + k))) (by omega) (by decide) rfl d_M_highestOf_36 ?_
      refine nx_i2l hx hb d_M_highestOf_37 (by omega) ?_
      refine lv_lload hx hb d_M_highestOf_38 (lv_at hl 0 rfl) ?_
      refine lv_iload_n hx hb d_M_highestOf_40 rfl (lv_at hl 2 rfl) ?_
      refine ro_calll (va_runS (As := [.long (lN ((sm pp fr k) + (pp (fr + k)))), .int (nI P)]) (rest := [.long (lN (hh (fr + k))), .long (lN (hp pp hh P fr k))]) ⟨hx, hb, hml, hown, hts⟩ (c_M_power l (sm pp fr k + pp (fr + k)) P hP5) (cwS 2 hts (gw_S k_571 k_569 k_570 k_6) rfl rfl rfl (by decide +kernel) ⟨Nat.le_trans (Nat.le_of_ble_eq_true rfl) hfr, Nat.le_trans (Nat.le_of_ble_eq_true rfl) hlo⟩) ⟨pr_blind, pr_at hC (fun k q h => by simp at h)⟩ rfl rfl hl.1 rfl (lv_room (Nat.le_of_ble_eq_true rfl)) d_M_highestOf_41 ⟨hce, hsl⟩) (fun r9 h9 => ?_)
      subst h9
      refine lv_lload hx hb d_M_highestOf_44 (lv_at hl 6 rfl) ?_
      refine lv_iload_n hx hb d_M_highestOf_46 rfl (lv_at hl 2 rfl) ?_
      refine ro_calll (va_runS (As := [.long (lN (sm pp fr k)), .int (nI P)]) (rest := [.long (lN ((sm pp fr k + pp (fr + k)) ^ P)), .long (lN (hh (fr + k))), .long (lN (hp pp hh P fr k))]) ⟨hx, hb, hml, hown, hts⟩ (c_M_power l (sm pp fr k) P hP5) (cwS 2 hts (gw_S k_571 k_569 k_570 k_6) rfl rfl rfl (by decide +kernel) ⟨Nat.le_trans (Nat.le_of_ble_eq_true rfl) hfr, Nat.le_trans (Nat.le_of_ble_eq_true rfl) hlo⟩) ⟨pr_blind, pr_at hC (fun k q h => by simp at h)⟩ rfl rfl hl.1 rfl (lv_room (Nat.le_of_ble_eq_true rfl)) d_M_highestOf_47 ⟨hce, hsl⟩) (fun r9 h9 => ?_)
      subst h9
      have hle : sm pp fr k ^ P ≤ (sm pp fr k + pp (fr + k)) ^ P := Nat.pow_le_pow_left (Nat.le_add_right _ _) _
      refine nx_lsub hx hb d_M_highestOf_50 hle ?_
      refine nx_lmul hx hb d_M_highestOf_51 ?_
      refine nx_ladd hx hb d_M_highestOf_52 ?_
      refine lv_lstore (lv' := [(4, .long (lN ((hp pp hh P fr k) + ((hh (fr + k)) * (((sm pp fr k + pp (fr + k)) ^ P) - (sm pp fr k ^ P)))))), (9, .long (lN ((sm pp fr k) + (pp (fr + k))))), (0, .ref (q 0)), (1, .int (nI P)), (2, .int (nI fr)), (3, .int (nI to)), (6, .long (lN (sm pp fr k))), (8, .int (nI (fr + k)))]) hx hb d_M_highestOf_53 hl (by decide) rfl (fun ls hl => ?_)
      refine lv_lload hx hb d_M_highestOf_55 (lv_at hl 1 rfl) ?_
      refine lv_lstore (lv' := [(6, .long (lN ((sm pp fr k) + (pp (fr + k))))), (4, .long (lN ((hp pp hh P fr k) + ((hh (fr + k)) * (((sm pp fr k + pp (fr + k)) ^ P) - (sm pp fr k ^ P)))))), (9, .long (lN ((sm pp fr k) + (pp (fr + k))))), (0, .ref (q 0)), (1, .int (nI P)), (2, .int (nI fr)), (3, .int (nI to)), (8, .int (nI (fr + k)))]) hx hb d_M_highestOf_57 hl (by decide) rfl (fun ls hl => ?_)
      refine nx_inc (lv' := [(8, .int (nI (fr + k + 1))), (6, .long (lN ((sm pp fr k) + (pp (fr + k))))), (4, .long (lN ((hp pp hh P fr k) + ((hh (fr + k)) * (((sm pp fr k + pp (fr + k)) ^ P) - (sm pp fr k ^ P)))))), (9, .long (lN ((sm pp fr k) + (pp (fr + k))))), (0, .ref (q 0)), (1, .int (nI P)), (2, .int (nI fr)), (3, .int (nI to))]) hx hb d_M_highestOf_59 hl (k := 7) rfl (by decide) rfl (fun ls hl => ?_)
      refine lv_goto (tgt := 9) hx hb d_M_highestOf_62 (by decide) ?_
      exact ih (k + 1) (by omega) (by omega) ls (lv_sub hl [4, 5, 6, 7, 2, 1, 0] rfl)
end
set_option maxHeartbeats 4000000 in
set_option maxRecDepth 100000 in
theorem c_M_highestOf (l : Launch) {dC : Nat → ClassId} {dI : Nat → Nat → Nat} {cI cL cT : ClassId} {sa : Nat → Nat} (q : Nat → Nat) (th : Int32) (F nt : Nat) (ab be : Int64) (pp hh : Nat → Nat) (fr to n P : Nat) (hn : to + 1 = fr + n) (ht : to ≤ 12) (hpp : ∀ k, k < n → pp (fr + k) ≤ 200) (hhh : ∀ k, k < n → hh (fr + k) ≤ 1200) (hP5 : P ≤ 5) : Met l y_M_highestOf (Cond.code y_M_highestOf b_M_highestOf 11 (some .long) :: gw) ({ frames := 1, cells := 0, slots := 0, locals := 25 } : Room) (pr dC dI cI cL cT sa [.ref (q 0), .int (nI P), .int (nI fr), .int (nI to)] [(q 0, .inr (6, (mF q th F nt ab be))), (q 1, .inl (cI, 13, .inl (fun j => nI (pp j)))), (q 2, .inl (cI, 13, .inl (fun j => nI (hh j))))]) (vp_Sl (fun r => r = lN (hp pp hh P fr n))) 0 0 (fun _ => False) := by
  refine Met.ofW (cc := b_M_highestOf) (maxL := 11) (ret := (some .long)) (by decide) rfl ?_
  intro p e s m args below meth c s₁ B hml hv
  obtain ⟨rfl, hC, hP⟩ := hv
  have hx := B.exec
  have hb := B.bytes
  have hr := B.returns
  have hts : ∀ w ∈ gw, w.before ([.ref (q 0), .int (nI P), .int (nI fr), .int (nI to)] : List Value).toArray s = true := fun w hw => atoms_spec (ws := Cond.code y_M_highestOf b_M_highestOf 11 (some .long) :: gw) B.pre w (List.mem_cons_of_mem _ hw)
  have hown : s.vm.findClass R_M = some m.cls := findClass_of_methodNamed B.named
  have hlocks := B.notSynchronized
  have hK := hC.1
  have hfr : 1 ≤ (headSpec (Cond.code y_M_highestOf b_M_highestOf 11 (some .long) :: gw) ({ frames := 1, cells := 0, slots := 0, locals := 25 } : Room)).room.frames := Nat.le_refl _
  have hlo : 25 ≤ (headSpec (Cond.code y_M_highestOf b_M_highestOf 11 (some .long) :: gw) ({ frames := 1, cells := 0, slots := 0, locals := 25 } : Room)).room.locals := Nat.le_refl _
  have hce : 0 ≤ (headSpec (Cond.code y_M_highestOf b_M_highestOf 11 (some .long) :: gw) ({ frames := 1, cells := 0, slots := 0, locals := 25 } : Room)).room.cells := Nat.zero_le _
  have hsl : 0 ≤ (headSpec (Cond.code y_M_highestOf b_M_highestOf 11 (some .long) :: gw) ({ frames := 1, cells := 0, slots := 0, locals := 25 } : Room)).room.slots := Nat.zero_le _
  have hl := lv_entry ([.ref (q 0), .int (nI P), .int (nI fr), .int (nI to)]) (n := 11) (Nat.le_of_ble_eq_true rfl)
  rw [lg_entry_eq]
  generalize (lg_sl ([.ref (q 0), .int (nI P), .int (nI fr), .int (nI to)]) ++ List.replicate (11 - (lg_sl ([.ref (q 0), .int (nI P), .int (nI fr), .int (nI to)])).length) Slot.unset).toArray = ls at hl ⊢
  have hl : lv_has ls 11 [(0, .ref (q 0)), (1, .int (nI P)), (2, .int (nI fr)), (3, .int (nI to))] := hl
  refine lv_lconst (v := lN 0) hx hb d_M_highestOf_0 (by decide) ?_
  refine lv_lstore (lv' := [(4, .long (lN 0)), (0, .ref (q 0)), (1, .int (nI P)), (2, .int (nI fr)), (3, .int (nI to))]) hx hb d_M_highestOf_1 hl (by decide) rfl (fun ls hl => ?_)
  refine lv_lconst (v := lN 0) hx hb d_M_highestOf_3 (by decide) ?_
  refine lv_lstore (lv' := [(6, .long (lN 0)), (4, .long (lN 0)), (0, .ref (q 0)), (1, .int (nI P)), (2, .int (nI fr)), (3, .int (nI to))]) hx hb d_M_highestOf_4 hl (by decide) rfl (fun ls hl => ?_)
  refine lv_iload_n hx hb d_M_highestOf_6 rfl (lv_at hl 4 rfl) ?_
  refine lv_istore (lv' := [(8, .int (nI fr)), (6, .long (lN 0)), (4, .long (lN 0)), (0, .ref (q 0)), (1, .int (nI P)), (2, .int (nI fr)), (3, .int (nI to))]) hx hb d_M_highestOf_7 hl (by decide) rfl (fun ls hl => ?_)
  refine l_M_highestOf ⟨hx, hb, hml, hown, hts⟩ hC hn ht hpp hhh hP5 hfr hlo hce hsl hP (fun ls hl => ?_) (n + 1) 0 (by omega) (by omega) ls (lv_sub hl [3, 4, 5, 6, 2, 1, 0] rfl)
  refine lv_lload hx hb d_M_highestOf_65 (lv_at hl 4 rfl) ?_
  exact W.lret hx hb hr (fun t ht hW => ⟨_, rfl, rfl, ht⟩) (fun q h => by cases h) d_M_highestOf_67
