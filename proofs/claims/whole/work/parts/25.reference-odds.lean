set_option maxHeartbeats 4000000 in
set_option maxRecDepth 100000 in
theorem c_M_stops_b1 (l : Launch) {dC : Nat → ClassId} {dI : Nat → Nat → Nat} {cI cL cT : ClassId} {sa : Nat → Nat} (sz : Nat) (q : Nat → Nat) (th : Int32) (F nt : Nat) (ab be : Int64) (pp rm : Nat → Nat) (p0 p1 p2 p3 : Int32) (hF12 : F ≤ 12) (hn6 : nt ≤ 6) (hbad : ¬ ((okTy nt p0 ∧ okFl F p1 ∧ okFl F p2 ∧ p1.toInt ≤ p2.toInt) ∧ (0 ≤ p3.toInt ∧ p3.toInt ≤ 1))) : Met l y_M_stops (Cond.code y_M_stops b_M_stops 7 (some .long) :: gw) ({ frames := 3, cells := 0, slots := 0, locals := 66 } : Room) (wr dC dI cI cL cT sa [.ref (q 0), .int p0, .int p1, .int p2, .int p3] [(q 0, .inr (6, (mF q th F nt ab be))), (q 1, .inl (cI, 13, .inl (fun j => nI (pp j)))), (q 4, .inl (cI, 6, .inl (fun j => nI (rm j))))] sz) (va_Ql (fun r (_ : Unit) => r = lN 0) (wB dC dI [(q 0, .inr (6, (mF q th F nt ab be))), (q 1, .inl (cI, 13, .inl (fun j => nI (pp j)))), (q 4, .inl (cI, 6, .inl (fun j => nI (rm j))))] [(q 0, .inr (6, (mF q (nI 1) F nt ab be))), (q 1, .inl (cI, 13, .inl (fun j => nI (pp j)))), (q 4, .inl (cI, 6, .inl (fun j => nI (rm j))))] sz) (va_A [(q 0, .inr (6, (mF q th F nt ab be))), (q 1, .inl (cI, 13, .inl (fun j => nI (pp j)))), (q 4, .inl (cI, 6, .inl (fun j => nI (rm j))))] sz)) 0 0 (va_A [(q 0, .inr (6, (mF q th F nt ab be))), (q 1, .inl (cI, 13, .inl (fun j => nI (pp j)))), (q 4, .inl (cI, 6, .inl (fun j => nI (rm j))))] sz) := by
  refine Met.ofW (cc := b_M_stops) (maxL := 7) (ret := (some .long)) (by decide) rfl ?_
  intro p e s m args below meth c s₁ B hml hv
  obtain ⟨rfl, hsz, hC, hP, hD0⟩ := hv
  have hx := B.exec
  have hb := B.bytes
  have hr := B.returns
  have hts : ∀ w ∈ gw, w.before ([.ref (q 0), .int p0, .int p1, .int p2, .int p3] : List Value).toArray s = true := fun w hw => atoms_spec (ws := Cond.code y_M_stops b_M_stops 7 (some .long) :: gw) B.pre w (List.mem_cons_of_mem _ hw)
  have hown : s.vm.findClass R_M = some m.cls := findClass_of_methodNamed B.named
  have hlocks := B.notSynchronized
  have hK := hC.1
  have hfr : 3 ≤ (headSpec (Cond.code y_M_stops b_M_stops 7 (some .long) :: gw) ({ frames := 3, cells := 0, slots := 0, locals := 66 } : Room)).room.frames := Nat.le_refl _
  have hlo : 66 ≤ (headSpec (Cond.code y_M_stops b_M_stops 7 (some .long) :: gw) ({ frames := 3, cells := 0, slots := 0, locals := 66 } : Room)).room.locals := Nat.le_refl _
  have hce : 0 ≤ (headSpec (Cond.code y_M_stops b_M_stops 7 (some .long) :: gw) ({ frames := 3, cells := 0, slots := 0, locals := 66 } : Room)).room.cells := Nat.zero_le _
  have hsl : 0 ≤ (headSpec (Cond.code y_M_stops b_M_stops 7 (some .long) :: gw) ({ frames := 3, cells := 0, slots := 0, locals := 66 } : Room)).room.slots := Nat.zero_le _
  subst hsz
  have hD := hD0.self (sz := s.heap.size)
  unfold wB
  generalize hAe : va_A [(q 0, .inr (6, (mF q th F nt ab be))), (q 1, .inl (cI, 13, .inl (fun j => nI (pp j)))), (q 4, .inl (cI, 6, .inl (fun j => nI (rm j))))] s.heap.size = A at hD ⊢
  have hA : ∀ q : Nat, s.heap.size ≤ q → A q := fun q h => by rw [← hAe]; exact Or.inr h
  have hS : va_S A s.heap s.heap [] := va_S.rf
  have hl := lv_entry ([.ref (q 0), .int p0, .int p1, .int p2, .int p3]) (n := 7) (Nat.le_of_ble_eq_true rfl)
  rw [lg_entry_eq]
  generalize (lg_sl ([.ref (q 0), .int p0, .int p1, .int p2, .int p3]) ++ List.replicate (7 - (lg_sl ([.ref (q 0), .int p0, .int p1, .int p2, .int p3])).length) Slot.unset).toArray = ls at hl ⊢
  have hl : lv_has ls 7 [(0, .ref (q 0)), (1, .int p0), (2, .int p1), (3, .int p2), (4, .int p3)] := hl
  refine lv_aload_n hx hb d_M_stops_0 rfl (lv_at hl 0 rfl) ?_
  refine lv_aload_n hx hb d_M_stops_1 rfl (lv_at hl 0 rfl) ?_
  refine lv_iload_n hx hb d_M_stops_2 rfl (lv_at hl 1 rfl) ?_
  refine lv_iload_n hx hb d_M_stops_3 rfl (lv_at hl 2 rfl) ?_
  refine lv_iload_n hx hb d_M_stops_4 rfl (lv_at hl 3 rfl) ?_
  refine ro_calli (va_runV (As := [.int p0, .int p1, .int p2]) (rest := [.ref (q 0)]) ⟨hx, hb, hml, hown, hts⟩ (c_M_noZone l q th F nt ab be p0 p1 p2 hF12 hn6) (cwV 3 hts (gw_V k_564 k_561 k_563 ks_M_noZone k_6) rfl rfl rfl (by decide +kernel) ⟨Nat.le_trans (Nat.le_of_ble_eq_true rfl) hfr, Nat.le_trans (Nat.le_of_ble_eq_true rfl) hlo⟩) ⟨pr_blind, va_recv hK hP (ci := 6) (q0 := 0) rfl rfl, pr_at hC (hP.sub (ws' := [(q 0, .inr (6, (mF q th F nt ab be)))]) [0] rfl)⟩ rfl rfl hl.1 rfl (lv_room (Nat.le_of_ble_eq_true rfl)) d_M_stops_5 ⟨hce, hsl⟩) (fun r9 h9 => ?_)
  subst h9
  refine nx_b_ne (tgt := 21) hx hb d_M_stops_8 (by decide) (fun h1 => ?_) (fun h1 => ?_)
  · refine lv_iconst (v := nI 1) hx hb d_M_stops_21 (by decide) ?_
    refine lv_goto (tgt := 26) hx hb d_M_stops_22 (by decide) ?_
    refine va_put (D := (dC, dI)) (ci := 6) (v := .int (nI 1)) (ty := (.int)) (C := R_M) (T := F_M) (N := 17) hx hb hts i_M ft_M ft_M_ok n_M hown hK hP hD hS 0 rfl rfl 0 (by decide) (hts _ k_477) (fun _ h9 => h9) rfl (by decide +kernel) rfl rfl (Nat.le_of_ble_eq_true rfl) d_M_stops_26 (fun H locs hP hD hS => ?_)
    have hP : va_P (dC, dI) vwCl [(q 0, .inr (6, (mF q (nI 1) F nt ab be))), (q 1, .inl (cI, 13, .inl (fun j => nI (pp j)))), (q 4, .inl (cI, 6, .inl (fun j => nI (rm j))))] H := hP
    have hD : va_D A [(q 0, .inr (6, (mF q (nI 1) F nt ab be))), (q 1, .inl (cI, 13, .inl (fun j => nI (pp j)))), (q 4, .inl (cI, 6, .inl (fun j => nI (rm j))))] := hD
    refine lv_aload_n hx hb d_M_stops_29 rfl (lv_at hl 0 rfl) ?_
    refine va_get (D := (dC, dI)) (ci := 6) (v := .int (nI 1)) (C := R_M) (T := F_M) (N := 17) hx hb hts i_M hown hK hP 0 rfl rfl 0 (by decide) (hts _ k_477) (fun _ h9 => h9) rfl d_M_stops_30 ?_
    refine nx_if_le (tgt := 38) hx hb d_M_stops_33 (by decide) (by omega) (fun h9 => ?_) (fun h9 => ?_)
    · exact absurd h9 (by omega)
    · refine lv_lconst (v := lN 0) hx hb d_M_stops_36 (by decide) ?_
      exact W.lret hx hb hr (fun t ht hW => ⟨⟨_, (), rfl, rfl, by rw [ht]; exact hP, hD⟩, hS.F ht⟩) hS.2.2 d_M_stops_37
  · refine lv_iload hx hb d_M_stops_11 (lv_at hl 4 rfl) ?_
    refine lv_iconst (v := nI 0) hx hb d_M_stops_13 (by decide) ?_
    refine lv_iconst (v := nI 1) hx hb d_M_stops_14 (by decide) ?_
    refine ro_calli (va_runS (As := [.int p3, .int (nI 0), .int (nI 1)]) (rest := [.ref (q 0)]) ⟨hx, hb, hml, hown, hts⟩ (c_M_isIn l p3 (nI 0) (nI 1) 0 1 (nI_toInt (by decide)) (nI_toInt (by decide))) (cwS 3 hts (gw_S k_539 k_537 k_538 k_6) rfl rfl rfl (by decide +kernel) ⟨Nat.le_trans (Nat.le_of_ble_eq_true rfl) hfr, Nat.le_trans (Nat.le_of_ble_eq_true rfl) hlo⟩) ⟨pr_blind, pr_at hC (fun k q h => by simp at h)⟩ rfl rfl hl.1 rfl (lv_room (Nat.le_of_ble_eq_true rfl)) d_M_stops_15 ⟨hce, hsl⟩) (fun r9 h9 => ?_)
    subst h9
    refine nx_b_ne (tgt := 25) hx hb d_M_stops_18 (by decide) (fun h2 => ?_) (fun h2 => ?_)
    · exact absurd ⟨Classical.not_not.mp h1, h2⟩ hbad
    · refine lv_iconst (v := nI 1) hx hb d_M_stops_21 (by decide) ?_
      refine lv_goto (tgt := 26) hx hb d_M_stops_22 (by decide) ?_
      refine va_put (D := (dC, dI)) (ci := 6) (v := .int (nI 1)) (ty := (.int)) (C := R_M) (T := F_M) (N := 17) hx hb hts i_M ft_M ft_M_ok n_M hown hK hP hD hS 0 rfl rfl 0 (by decide) (hts _ k_477) (fun _ h9 => h9) rfl (by decide +kernel) rfl rfl (Nat.le_of_ble_eq_true rfl) d_M_stops_26 (fun H locs hP hD hS => ?_)
      have hP : va_P (dC, dI) vwCl [(q 0, .inr (6, (mF q (nI 1) F nt ab be))), (q 1, .inl (cI, 13, .inl (fun j => nI (pp j)))), (q 4, .inl (cI, 6, .inl (fun j => nI (rm j))))] H := hP
      have hD : va_D A [(q 0, .inr (6, (mF q (nI 1) F nt ab be))), (q 1, .inl (cI, 13, .inl (fun j => nI (pp j)))), (q 4, .inl (cI, 6, .inl (fun j => nI (rm j))))] := hD
      refine lv_aload_n hx hb d_M_stops_29 rfl (lv_at hl 0 rfl) ?_
      refine va_get (D := (dC, dI)) (ci := 6) (v := .int (nI 1)) (C := R_M) (T := F_M) (N := 17) hx hb hts i_M hown hK hP 0 rfl rfl 0 (by decide) (hts _ k_477) (fun _ h9 => h9) rfl d_M_stops_30 ?_
      refine nx_if_le (tgt := 38) hx hb d_M_stops_33 (by decide) (by omega) (fun h9 => ?_) (fun h9 => ?_)
      · exact absurd h9 (by omega)
      · refine lv_lconst (v := lN 0) hx hb d_M_stops_36 (by decide) ?_
        exact W.lret hx hb hr (fun t ht hW => ⟨⟨_, (), rfl, rfl, by rw [ht]; exact hP, hD⟩, hS.F ht⟩) hS.2.2 d_M_stops_37
set_option maxHeartbeats 4000000 in
set_option maxRecDepth 100000 in
theorem c_M_stops (l : Launch) {dC : Nat → ClassId} {dI : Nat → Nat → Nat} {cI cL cT : ClassId} {sa : Nat → Nat} (sz : Nat) (q : Nat → Nat) (th : Int32) (F nt : Nat) (ab be : Int64) (pp rm : Nat → Nat) (t0 fr to n pt : Nat) (hF12 : F ≤ 12) (hn6 : nt ≤ 6) (ht0 : t0 < nt) (hf1 : 1 ≤ fr) (hft : fr ≤ to) (htF : to ≤ F) (hn : to + 1 = fr + n) (hU2 : sm pp fr n ≤ 200)  (hrm : 1 ≤ rm t0 ∧ rm t0 ≤ 5) (hpt : pt ≤ 1) (hX6 : sp pp (sm pp fr n) (rm t0) fr n < 2 ^ 63) : Met l y_M_stops (Cond.code y_M_stops b_M_stops 7 (some .long) :: gw) ({ frames := 3, cells := 0, slots := 0, locals := 66 } : Room) (wr dC dI cI cL cT sa [.ref (q 0), .int (nI t0), .int (nI fr), .int (nI to), .int (nI pt)] [(q 0, .inr (6, (mF q th F nt ab be))), (q 1, .inl (cI, 13, .inl (fun j => nI (pp j)))), (q 4, .inl (cI, 6, .inl (fun j => nI (rm j))))] sz) (va_Ql (fun r (_ : Unit) => r = if pt = 0 then lN ((sp pp (sm pp fr n) (rm t0) fr n) / Nat.gcd (sp pp (sm pp fr n) (rm t0) fr n) (wyf (sm pp fr n) (rm t0))) else lN ((wyf (sm pp fr n) (rm t0)) / Nat.gcd (sp pp (sm pp fr n) (rm t0) fr n) (wyf (sm pp fr n) (rm t0)))) (wB dC dI [(q 0, .inr (6, (mF q th F nt ab be))), (q 1, .inl (cI, 13, .inl (fun j => nI (pp j)))), (q 4, .inl (cI, 6, .inl (fun j => nI (rm j))))] [(q 0, .inr (6, (mF q (nI 0) F nt (lN ((sp pp (sm pp fr n) (rm t0) fr n) / Nat.gcd (sp pp (sm pp fr n) (rm t0) fr n) (wyf (sm pp fr n) (rm t0)))) (lN ((wyf (sm pp fr n) (rm t0)) / Nat.gcd (sp pp (sm pp fr n) (rm t0) fr n) (wyf (sm pp fr n) (rm t0))))))), (q 1, .inl (cI, 13, .inl (fun j => nI (pp j)))), (q 4, .inl (cI, 6, .inl (fun j => nI (rm j))))] sz) (va_A [(q 0, .inr (6, (mF q th F nt ab be))), (q 1, .inl (cI, 13, .inl (fun j => nI (pp j)))), (q 4, .inl (cI, 6, .inl (fun j => nI (rm j))))] sz)) 0 0 (va_A [(q 0, .inr (6, (mF q th F nt ab be))), (q 1, .inl (cI, 13, .inl (fun j => nI (pp j)))), (q 4, .inl (cI, 6, .inl (fun j => nI (rm j))))] sz) := by
  refine Met.ofW (cc := b_M_stops) (maxL := 7) (ret := (some .long)) (by decide) rfl ?_
  intro p e s m args below meth c s₁ B hml hv
  obtain ⟨rfl, hsz, hC, hP, hD0⟩ := hv
  have hx := B.exec
  have hb := B.bytes
  have hr := B.returns
  have hts : ∀ w ∈ gw, w.before ([.ref (q 0), .int (nI t0), .int (nI fr), .int (nI to), .int (nI pt)] : List Value).toArray s = true := fun w hw => atoms_spec (ws := Cond.code y_M_stops b_M_stops 7 (some .long) :: gw) B.pre w (List.mem_cons_of_mem _ hw)
  have hown : s.vm.findClass R_M = some m.cls := findClass_of_methodNamed B.named
  have hlocks := B.notSynchronized
  have hK := hC.1
  have hfr : 3 ≤ (headSpec (Cond.code y_M_stops b_M_stops 7 (some .long) :: gw) ({ frames := 3, cells := 0, slots := 0, locals := 66 } : Room)).room.frames := Nat.le_refl _
  have hlo : 66 ≤ (headSpec (Cond.code y_M_stops b_M_stops 7 (some .long) :: gw) ({ frames := 3, cells := 0, slots := 0, locals := 66 } : Room)).room.locals := Nat.le_refl _
  have hce : 0 ≤ (headSpec (Cond.code y_M_stops b_M_stops 7 (some .long) :: gw) ({ frames := 3, cells := 0, slots := 0, locals := 66 } : Room)).room.cells := Nat.zero_le _
  have hsl : 0 ≤ (headSpec (Cond.code y_M_stops b_M_stops 7 (some .long) :: gw) ({ frames := 3, cells := 0, slots := 0, locals := 66 } : Room)).room.slots := Nat.zero_le _
  subst hsz
  have hD := hD0.self (sz := s.heap.size)
  unfold wB
  generalize hAe : va_A [(q 0, .inr (6, (mF q th F nt ab be))), (q 1, .inl (cI, 13, .inl (fun j => nI (pp j)))), (q 4, .inl (cI, 6, .inl (fun j => nI (rm j))))] s.heap.size = A at hD ⊢
  have hA : ∀ q : Nat, s.heap.size ≤ q → A q := fun q h => by rw [← hAe]; exact Or.inr h
  have hS : va_S A s.heap s.heap [] := va_S.rf
  have hl := lv_entry ([.ref (q 0), .int (nI t0), .int (nI fr), .int (nI to), .int (nI pt)]) (n := 7) (Nat.le_of_ble_eq_true rfl)
  rw [lg_entry_eq]
  generalize (lg_sl ([.ref (q 0), .int (nI t0), .int (nI fr), .int (nI to), .int (nI pt)]) ++ List.replicate (7 - (lg_sl ([.ref (q 0), .int (nI t0), .int (nI fr), .int (nI to), .int (nI pt)])).length) Slot.unset).toArray = ls at hl ⊢
  have hl : lv_has ls 7 [(0, .ref (q 0)), (1, .int (nI t0)), (2, .int (nI fr)), (3, .int (nI to)), (4, .int (nI pt))] := hl
  have hP5 : rm t0 ≤ 5 := hrm.2
  have hpp : ∀ k, k < n → pp (fr + k) ≤ 200 := fun k hk => Nat.le_trans (sm_le hk) hU2
  have hpw := pw_le hU2 hP5
  have hwl := wyf_le hU2 hP5
  have hwp := wyf_pos (U := sm pp fr n) (P := rm t0)
  have hz := zone_N ht0 hn6 hf1 hft htF hF12
  refine lv_aload_n hx hb d_M_stops_0 rfl (lv_at hl 0 rfl) ?_
  refine lv_aload_n hx hb d_M_stops_1 rfl (lv_at hl 0 rfl) ?_
  refine lv_iload_n hx hb d_M_stops_2 rfl (lv_at hl 1 rfl) ?_
  refine lv_iload_n hx hb d_M_stops_3 rfl (lv_at hl 2 rfl) ?_
  refine lv_iload_n hx hb d_M_stops_4 rfl (lv_at hl 3 rfl) ?_
  refine ro_calli (va_runV (As := [.int (nI t0), .int (nI fr), .int (nI to)]) (rest := [.ref (q 0)]) ⟨hx, hb, hml, hown, hts⟩ (c_M_noZone l q th F nt ab be (nI t0) (nI fr) (nI to) hF12 hn6) (cwV 3 hts (gw_V k_564 k_561 k_563 ks_M_noZone k_6) rfl rfl rfl (by decide +kernel) ⟨Nat.le_trans (Nat.le_of_ble_eq_true rfl) hfr, Nat.le_trans (Nat.le_of_ble_eq_true rfl) hlo⟩) ⟨pr_blind, va_recv hK hP (ci := 6) (q0 := 0) rfl rfl, pr_at hC (hP.sub (ws' := [(q 0, .inr (6, (mF q th F nt ab be)))]) [0] rfl)⟩ rfl rfl hl.1 rfl (lv_room (Nat.le_of_ble_eq_true rfl)) d_M_stops_5 ⟨hce, hsl⟩) (fun r9 h9 => ?_)
  subst h9
  refine nx_b_ne (tgt := 21) hx hb d_M_stops_8 (by decide) (fun h1 => ?_) (fun h1 => ?_)
  · exact absurd hz h1
  · refine lv_iload hx hb d_M_stops_11 (lv_at hl 4 rfl) ?_
    refine lv_iconst (v := nI 0) hx hb d_M_stops_13 (by decide) ?_
    refine lv_iconst (v := nI 1) hx hb d_M_stops_14 (by decide) ?_
    refine ro_calli (va_runS (As := [.int (nI pt), .int (nI 0), .int (nI 1)]) (rest := [.ref (q 0)]) ⟨hx, hb, hml, hown, hts⟩ (c_M_isInN l pt 0 1 (by omega) (by decide) (by decide)) (cwS 3 hts (gw_S k_539 k_537 k_538 k_6) rfl rfl rfl (by decide +kernel) ⟨Nat.le_trans (Nat.le_of_ble_eq_true rfl) hfr, Nat.le_trans (Nat.le_of_ble_eq_true rfl) hlo⟩) ⟨pr_blind, pr_at hC (fun k q h => by simp at h)⟩ rfl rfl hl.1 rfl (lv_room (Nat.le_of_ble_eq_true rfl)) d_M_stops_15 ⟨hce, hsl⟩) (fun r9 h9 => ?_)
    subst h9
    refine nx_b_ne (tgt := 25) hx hb d_M_stops_18 (by decide) (fun h2 => ?_) (fun h2 => ?_)
    · refine lv_iconst (v := nI 0) hx hb d_M_stops_25 (by decide) ?_
      refine va_put (D := (dC, dI)) (ci := 6) (v := .int (nI 0)) (ty := (.int)) (C := R_M) (T := F_M) (N := 17) hx hb hts i_M ft_M ft_M_ok n_M hown hK hP hD hS 0 rfl rfl 0 (by decide) (hts _ k_477) (fun _ h9 => h9) rfl (by decide +kernel) rfl rfl (Nat.le_of_ble_eq_true rfl) d_M_stops_26 (fun H locs hP hD hS => ?_)
      have hP : va_P (dC, dI) vwCl [(q 0, .inr (6, (mF q (nI 0) F nt ab be))), (q 1, .inl (cI, 13, .inl (fun j => nI (pp j)))), (q 4, .inl (cI, 6, .inl (fun j => nI (rm j))))] H := hP
      have hD : va_D A [(q 0, .inr (6, (mF q (nI 0) F nt ab be))), (q 1, .inl (cI, 13, .inl (fun j => nI (pp j)))), (q 4, .inl (cI, 6, .inl (fun j => nI (rm j))))] := hD
      refine lv_aload_n hx hb d_M_stops_29 rfl (lv_at hl 0 rfl) ?_
      refine va_get (D := (dC, dI)) (ci := 6) (v := .int (nI 0)) (C := R_M) (T := F_M) (N := 17) hx hb hts i_M hown hK hP 0 rfl rfl 0 (by decide) (hts _ k_477) (fun _ h9 => h9) rfl d_M_stops_30 ?_
      refine nx_if_le (tgt := 38) hx hb d_M_stops_33 (by decide) (by omega) (fun h9 => ?_) (fun h9 => ?_)
      · refine lv_aload_n hx hb d_M_stops_38 rfl (lv_at hl 0 rfl) ?_
        refine lv_iload_n hx hb d_M_stops_39 rfl (lv_at hl 2 rfl) ?_
        refine lv_iload_n hx hb d_M_stops_40 rfl (lv_at hl 3 rfl) ?_
        refine ro_calli (va_runV (As := [.int (nI fr), .int (nI to)]) (rest := []) ⟨hx, hb, hml, hown, hts⟩ (c_M_zonePersons l q (nI 0) F nt ab be pp fr to n hn (by omega)) (cwV 2 hts (gw_V k_568 k_565 k_567 ks_M_zonePersons k_6) rfl rfl rfl (by decide +kernel) ⟨Nat.le_trans (Nat.le_of_ble_eq_true rfl) hfr, Nat.le_trans (Nat.le_of_ble_eq_true rfl) hlo⟩) ⟨pr_blind, va_recv hK hP (ci := 6) (q0 := 0) rfl rfl, pr_at hC (hP.sub (ws' := [(q 0, .inr (6, (mF q (nI 0) F nt ab be))), (q 1, .inl (cI, 13, .inl (fun j => nI (pp j))))]) [0, 1] rfl)⟩ rfl rfl hl.1 rfl (lv_room (Nat.le_of_ble_eq_true rfl)) d_M_stops_41 ⟨hce, hsl⟩) (fun r9 h9 => ?_)
        subst h9
        refine nx_i2l hx hb d_M_stops_44 (by omega) ?_
        refine lv_aload_n hx hb d_M_stops_45 rfl (lv_at hl 0 rfl) ?_
        refine va_get (D := (dC, dI)) (ci := 6) (v := .ref (q 4)) (C := R_M) (T := F_M) (N := 17) hx hb hts i_M hown hK hP 0 rfl rfl 4 (by decide) (hts _ k_481) (fun _ h9 => h9) rfl d_M_stops_46 ?_
        refine lv_iload_n hx hb d_M_stops_49 rfl (lv_at hl 1 rfl) ?_
        refine nx_iald hx hb hK hP 2 0 rfl rfl (k := t0) (v := nI (rm t0)) (by omega) (by decide) rfl d_M_stops_50 ?_
        refine ro_calll (va_runS (As := [.long (lN (sm pp fr n)), .int (nI (rm t0))]) (rest := []) ⟨hx, hb, hml, hown, hts⟩ (c_M_power l (sm pp fr n) (rm t0) hP5) (cwS 2 hts (gw_S k_571 k_569 k_570 k_6) rfl rfl rfl (by decide +kernel) ⟨Nat.le_trans (Nat.le_of_ble_eq_true rfl) hfr, Nat.le_trans (Nat.le_of_ble_eq_true rfl) hlo⟩) ⟨pr_blind, pr_at hC (fun k q h => by simp at h)⟩ rfl rfl hl.1 rfl (lv_room (Nat.le_of_ble_eq_true rfl)) d_M_stops_51 ⟨hce, hsl⟩) (fun r9 h9 => ?_)
        subst h9
        refine lv_lstore (lv' := [(5, .long (lN (sm pp fr n ^ rm t0))), (0, .ref (q 0)), (1, .int (nI t0)), (2, .int (nI fr)), (3, .int (nI to)), (4, .int (nI pt))]) hx hb d_M_stops_54 hl (by decide) rfl (fun ls hl => ?_)
        refine lv_aload_n hx hb d_M_stops_56 rfl (lv_at hl 1 rfl) ?_
        refine lv_aload_n hx hb d_M_stops_57 rfl (lv_at hl 1 rfl) ?_
        refine lv_aload_n hx hb d_M_stops_58 rfl (lv_at hl 1 rfl) ?_
        refine va_get (D := (dC, dI)) (ci := 6) (v := .ref (q 4)) (C := R_M) (T := F_M) (N := 17) hx hb hts i_M hown hK hP 0 rfl rfl 4 (by decide) (hts _ k_481) (fun _ h9 => h9) rfl d_M_stops_59 ?_
        refine lv_iload_n hx hb d_M_stops_62 rfl (lv_at hl 2 rfl) ?_
        refine nx_iald hx hb hK hP 2 0 rfl rfl (k := t0) (v := nI (rm t0)) (by omega) (by decide) rfl d_M_stops_63 ?_
        refine lv_iload_n hx hb d_M_stops_64 rfl (lv_at hl 3 rfl) ?_
        refine lv_iload_n hx hb d_M_stops_65 rfl (lv_at hl 4 rfl) ?_
        refine ro_calll (va_runV (As := [.int (nI (rm t0)), .int (nI fr), .int (nI to)]) (rest := [.ref (q 0)]) ⟨hx, hb, hml, hown, hts⟩ (c_M_stopsOf l q (nI 0) F nt ab be pp fr to n (rm t0) hn (by omega) hU2 hP5) (cwV 3 hts (gw_V k_575 k_572 k_574 ks_M_stopsOf k_6) rfl rfl rfl (by decide +kernel) ⟨Nat.le_trans (Nat.le_of_ble_eq_true rfl) hfr, Nat.le_trans (Nat.le_of_ble_eq_true rfl) hlo⟩) ⟨pr_blind, va_recv hK hP (ci := 6) (q0 := 0) rfl rfl, pr_at hC (hP.sub (ws' := [(q 0, .inr (6, (mF q (nI 0) F nt ab be))), (q 1, .inl (cI, 13, .inl (fun j => nI (pp j))))]) [0, 1] rfl)⟩ rfl rfl hl.1 rfl (lv_room (Nat.le_of_ble_eq_true rfl)) d_M_stops_66 ⟨hce, hsl⟩) (fun r9 h9 => ?_)
        subst h9
        refine lv_lload hx hb d_M_stops_69 (lv_at hl 0 rfl) ?_
        refine lv_lconst (v := lN 0) hx hb d_M_stops_71 (by decide) ?_
        refine nx_lcn_ne (tgt := 80) hx hb d_M_stops_72 d_M_stops_73 (by decide) (by omega) (by decide) (fun h3 => ?_) (fun h3 => ?_)
        · refine lv_lload hx hb d_M_stops_80 (lv_at hl 0 rfl) ?_
          refine nx_leq (wyf_n (pow_n hrm.1 h3)) ?_
          have hPc := hP.sub (ws' := [(q 0, .inr (6, (mF q (nI 0) F nt ab be)))]) [0] rfl
          have hDc := hD.sub (ws' := [(q 0, .inr (6, (mF q (nI 0) F nt ab be)))]) [0] (by decide) rfl
          have hFc := va_free (wc := [(q 0, .inr (6, (mF q (nI 0) F nt ab be)))]) hD hS hA [0] rfl
          refine va_callv (va_runV (As := [.long (lN (sp pp (sm pp fr n) (rm t0) fr n)), .long (lN (wyf (sm pp fr n) (rm t0)))]) (rest := []) ⟨hx, hb, hml, hown, hts⟩ (c_M_lowest l _ q (nI 0) F nt ab be (sp pp (sm pp fr n) (rm t0) fr n) (wyf (sm pp fr n) (rm t0)) hX6 (by omega) hwp) (cwV 2 hts (gw_V k_579 k_576 k_578 ks_M_lowest k_6) rfl rfl rfl (by decide +kernel) ⟨Nat.le_trans (Nat.le_of_ble_eq_true rfl) hfr, Nat.le_trans (Nat.le_of_ble_eq_true rfl) hlo⟩) ⟨wr_blind, va_recv hK hP (ci := 6) (q0 := 0) rfl rfl, wr_at hC hPc hDc⟩ rfl rfl hl.1 rfl (lv_room (Nat.le_of_ble_eq_true rfl)) d_M_stops_82 ⟨hce, hsl⟩) hS (fun q _ h => hFc q h) hFc (fun u t H1 locs ht hvm hw hB hz1 hk1 hS => ?_)
          obtain ⟨hP1, hD1⟩ := hB
          rw [ht] at hP1
          obtain ⟨hP, hD⟩ := va_join (wr := [(q 1, .inl (cI, 13, .inl (fun j => nI (pp j)))), (q 4, .inl (cI, 6, .inl (fun j => nI (rm j))))]) (w1 := [(q 0, .inr (6, (mF q (nI 0) F nt (lN ((sp pp (sm pp fr n) (rm t0) fr n) / Nat.gcd (sp pp (sm pp fr n) (rm t0) fr n) (wyf (sm pp fr n) (rm t0)))) (lN ((wyf (sm pp fr n) (rm t0)) / Nat.gcd (sp pp (sm pp fr n) (rm t0) fr n) (wyf (sm pp fr n) (rm t0)))))))]) hP hD [0] [1, 2] rfl rfl (by decide) (by decide) hk1 hFc hP1 hD1
          generalize H1 = H at hP hS ⊢
          have hP := hP.sub (ws' := [(q 0, .inr (6, (mF q (nI 0) F nt (lN ((sp pp (sm pp fr n) (rm t0) fr n) / Nat.gcd (sp pp (sm pp fr n) (rm t0) fr n) (wyf (sm pp fr n) (rm t0)))) (lN ((wyf (sm pp fr n) (rm t0)) / Nat.gcd (sp pp (sm pp fr n) (rm t0) fr n) (wyf (sm pp fr n) (rm t0))))))), (q 1, .inl (cI, 13, .inl (fun j => nI (pp j)))), (q 4, .inl (cI, 6, .inl (fun j => nI (rm j))))]) [2, 0, 1] rfl
          have hD := hD.sub (ws' := [(q 0, .inr (6, (mF q (nI 0) F nt (lN ((sp pp (sm pp fr n) (rm t0) fr n) / Nat.gcd (sp pp (sm pp fr n) (rm t0) fr n) (wyf (sm pp fr n) (rm t0)))) (lN ((wyf (sm pp fr n) (rm t0)) / Nat.gcd (sp pp (sm pp fr n) (rm t0) fr n) (wyf (sm pp fr n) (rm t0))))))), (q 1, .inl (cI, 13, .inl (fun j => nI (pp j)))), (q 4, .inl (cI, 6, .inl (fun j => nI (rm j))))]) [2, 0, 1] (by decide) rfl
          refine lv_aload_n hx hb d_M_stops_85 rfl (lv_at hl 1 rfl) ?_
          refine lv_iload hx hb d_M_stops_86 (lv_at hl 5 rfl) ?_
          refine ro_calll (va_runV (As := [.int (nI pt)]) (rest := []) ⟨hx, hb, hml, hown, hts⟩ (c_M_part l q (nI 0) F nt (lN ((sp pp (sm pp fr n) (rm t0) fr n) / Nat.gcd (sp pp (sm pp fr n) (rm t0) fr n) (wyf (sm pp fr n) (rm t0)))) (lN ((wyf (sm pp fr n) (rm t0)) / Nat.gcd (sp pp (sm pp fr n) (rm t0) fr n) (wyf (sm pp fr n) (rm t0)))) pt hpt) (cwV 1 hts (gw_V k_583 k_580 k_582 ks_M_part k_6) rfl rfl rfl (by decide +kernel) ⟨Nat.le_trans (Nat.le_of_ble_eq_true rfl) hfr, Nat.le_trans (Nat.le_of_ble_eq_true rfl) hlo⟩) ⟨pr_blind, va_recv hK hP (ci := 6) (q0 := 0) rfl rfl, pr_at hC (hP.sub (ws' := [(q 0, .inr (6, (mF q (nI 0) F nt (lN ((sp pp (sm pp fr n) (rm t0) fr n) / Nat.gcd (sp pp (sm pp fr n) (rm t0) fr n) (wyf (sm pp fr n) (rm t0)))) (lN ((wyf (sm pp fr n) (rm t0)) / Nat.gcd (sp pp (sm pp fr n) (rm t0) fr n) (wyf (sm pp fr n) (rm t0)))))))]) [0] rfl)⟩ rfl rfl hl.1 rfl (lv_room (Nat.le_of_ble_eq_true rfl)) d_M_stops_88 ⟨hce, hsl⟩) (fun r9 h9 => ?_)
          subst h9
          exact W.lret hx hb hr (fun t ht hW => ⟨⟨_, (), rfl, rfl, by rw [ht]; exact hP, hD⟩, hS.F ht⟩) hS.2.2 d_M_stops_91
        · refine lv_lconst (v := lN 1) hx hb d_M_stops_76 (by decide) ?_
          refine lv_goto (tgt := 82) hx hb d_M_stops_77 (by decide) ?_
          refine nx_leq (wyf_0 (P := rm t0) (pow_0 hrm.1 h3)) ?_
          have hPc := hP.sub (ws' := [(q 0, .inr (6, (mF q (nI 0) F nt ab be)))]) [0] rfl
          have hDc := hD.sub (ws' := [(q 0, .inr (6, (mF q (nI 0) F nt ab be)))]) [0] (by decide) rfl
          have hFc := va_free (wc := [(q 0, .inr (6, (mF q (nI 0) F nt ab be)))]) hD hS hA [0] rfl
          refine va_callv (va_runV (As := [.long (lN (sp pp (sm pp fr n) (rm t0) fr n)), .long (lN (wyf (sm pp fr n) (rm t0)))]) (rest := []) ⟨hx, hb, hml, hown, hts⟩ (c_M_lowest l _ q (nI 0) F nt ab be (sp pp (sm pp fr n) (rm t0) fr n) (wyf (sm pp fr n) (rm t0)) hX6 (by omega) hwp) (cwV 2 hts (gw_V k_579 k_576 k_578 ks_M_lowest k_6) rfl rfl rfl (by decide +kernel) ⟨Nat.le_trans (Nat.le_of_ble_eq_true rfl) hfr, Nat.le_trans (Nat.le_of_ble_eq_true rfl) hlo⟩) ⟨wr_blind, va_recv hK hP (ci := 6) (q0 := 0) rfl rfl, wr_at hC hPc hDc⟩ rfl rfl hl.1 rfl (lv_room (Nat.le_of_ble_eq_true rfl)) d_M_stops_82 ⟨hce, hsl⟩) hS (fun q _ h => hFc q h) hFc (fun u t H1 locs ht hvm hw hB hz1 hk1 hS => ?_)
          obtain ⟨hP1, hD1⟩ := hB
          rw [ht] at hP1
          obtain ⟨hP, hD⟩ := va_join (wr := [(q 1, .inl (cI, 13, .inl (fun j => nI (pp j)))), (q 4, .inl (cI, 6, .inl (fun j => nI (rm j))))]) (w1 := [(q 0, .inr (6, (mF q (nI 0) F nt (lN ((sp pp (sm pp fr n) (rm t0) fr n) / Nat.gcd (sp pp (sm pp fr n) (rm t0) fr n) (wyf (sm pp fr n) (rm t0)))) (lN ((wyf (sm pp fr n) (rm t0)) / Nat.gcd (sp pp (sm pp fr n) (rm t0) fr n) (wyf (sm pp fr n) (rm t0)))))))]) hP hD [0] [1, 2] rfl rfl (by decide) (by decide) hk1 hFc hP1 hD1
          generalize H1 = H at hP hS ⊢
          have hP := hP.sub (ws' := [(q 0, .inr (6, (mF q (nI 0) F nt (lN ((sp pp (sm pp fr n) (rm t0) fr n) / Nat.gcd (sp pp (sm pp fr n) (rm t0) fr n) (wyf (sm pp fr n) (rm t0)))) (lN ((wyf (sm pp fr n) (rm t0)) / Nat.gcd (sp pp (sm pp fr n) (rm t0) fr n) (wyf (sm pp fr n) (rm t0))))))), (q 1, .inl (cI, 13, .inl (fun j => nI (pp j)))), (q 4, .inl (cI, 6, .inl (fun j => nI (rm j))))]) [2, 0, 1] rfl
          have hD := hD.sub (ws' := [(q 0, .inr (6, (mF q (nI 0) F nt (lN ((sp pp (sm pp fr n) (rm t0) fr n) / Nat.gcd (sp pp (sm pp fr n) (rm t0) fr n) (wyf (sm pp fr n) (rm t0)))) (lN ((wyf (sm pp fr n) (rm t0)) / Nat.gcd (sp pp (sm pp fr n) (rm t0) fr n) (wyf (sm pp fr n) (rm t0))))))), (q 1, .inl (cI, 13, .inl (fun j => nI (pp j)))), (q 4, .inl (cI, 6, .inl (fun j => nI (rm j))))]) [2, 0, 1] (by decide) rfl
          refine lv_aload_n hx hb d_M_stops_85 rfl (lv_at hl 1 rfl) ?_
          refine lv_iload hx hb d_M_stops_86 (lv_at hl 5 rfl) ?_
          refine ro_calll (va_runV (As := [.int (nI pt)]) (rest := []) ⟨hx, hb, hml, hown, hts⟩ (c_M_part l q (nI 0) F nt (lN ((sp pp (sm pp fr n) (rm t0) fr n) / Nat.gcd (sp pp (sm pp fr n) (rm t0) fr n) (wyf (sm pp fr n) (rm t0)))) (lN ((wyf (sm pp fr n) (rm t0)) / Nat.gcd (sp pp (sm pp fr n) (rm t0) fr n) (wyf (sm pp fr n) (rm t0)))) pt hpt) (cwV 1 hts (gw_V k_583 k_580 k_582 ks_M_part k_6) rfl rfl rfl (by decide +kernel) ⟨Nat.le_trans (Nat.le_of_ble_eq_true rfl) hfr, Nat.le_trans (Nat.le_of_ble_eq_true rfl) hlo⟩) ⟨pr_blind, va_recv hK hP (ci := 6) (q0 := 0) rfl rfl, pr_at hC (hP.sub (ws' := [(q 0, .inr (6, (mF q (nI 0) F nt (lN ((sp pp (sm pp fr n) (rm t0) fr n) / Nat.gcd (sp pp (sm pp fr n) (rm t0) fr n) (wyf (sm pp fr n) (rm t0)))) (lN ((wyf (sm pp fr n) (rm t0)) / Nat.gcd (sp pp (sm pp fr n) (rm t0) fr n) (wyf (sm pp fr n) (rm t0)))))))]) [0] rfl)⟩ rfl rfl hl.1 rfl (lv_room (Nat.le_of_ble_eq_true rfl)) d_M_stops_88 ⟨hce, hsl⟩) (fun r9 h9 => ?_)
          subst h9
          exact W.lret hx hb hr (fun t ht hW => ⟨⟨_, (), rfl, rfl, by rw [ht]; exact hP, hD⟩, hS.F ht⟩) hS.2.2 d_M_stops_91
      · exact absurd h9 (by omega)
    · exact absurd (show 0 ≤ pt ∧ pt ≤ 1 by omega) h2
set_option maxHeartbeats 4000000 in
set_option maxRecDepth 100000 in
theorem c_M_highest_b1 (l : Launch) {dC : Nat → ClassId} {dI : Nat → Nat → Nat} {cI cL cT : ClassId} {sa : Nat → Nat} (sz : Nat) (q : Nat → Nat) (th : Int32) (F nt : Nat) (ab be : Int64) (pp hh rm : Nat → Nat) (p0 p1 p2 p3 : Int32) (hF12 : F ≤ 12) (hn6 : nt ≤ 6) (hbad : ¬ ((okTy nt p0 ∧ okFl F p1 ∧ okFl F p2 ∧ p1.toInt ≤ p2.toInt) ∧ (0 ≤ p3.toInt ∧ p3.toInt ≤ 1))) : Met l y_M_highest (Cond.code y_M_highest b_M_highest 7 (some .long) :: gw) ({ frames := 3, cells := 0, slots := 0, locals := 66 } : Room) (wr dC dI cI cL cT sa [.ref (q 0), .int p0, .int p1, .int p2, .int p3] [(q 0, .inr (6, (mF q th F nt ab be))), (q 1, .inl (cI, 13, .inl (fun j => nI (pp j)))), (q 2, .inl (cI, 13, .inl (fun j => nI (hh j)))), (q 4, .inl (cI, 6, .inl (fun j => nI (rm j))))] sz) (va_Ql (fun r (_ : Unit) => r = lN 0) (wB dC dI [(q 0, .inr (6, (mF q th F nt ab be))), (q 1, .inl (cI, 13, .inl (fun j => nI (pp j)))), (q 2, .inl (cI, 13, .inl (fun j => nI (hh j)))), (q 4, .inl (cI, 6, .inl (fun j => nI (rm j))))] [(q 0, .inr (6, (mF q (nI 1) F nt ab be))), (q 1, .inl (cI, 13, .inl (fun j => nI (pp j)))), (q 2, .inl (cI, 13, .inl (fun j => nI (hh j)))), (q 4, .inl (cI, 6, .inl (fun j => nI (rm j))))] sz) (va_A [(q 0, .inr (6, (mF q th F nt ab be))), (q 1, .inl (cI, 13, .inl (fun j => nI (pp j)))), (q 2, .inl (cI, 13, .inl (fun j => nI (hh j)))), (q 4, .inl (cI, 6, .inl (fun j => nI (rm j))))] sz)) 0 0 (va_A [(q 0, .inr (6, (mF q th F nt ab be))), (q 1, .inl (cI, 13, .inl (fun j => nI (pp j)))), (q 2, .inl (cI, 13, .inl (fun j => nI (hh j)))), (q 4, .inl (cI, 6, .inl (fun j => nI (rm j))))] sz) := by
  refine Met.ofW (cc := b_M_highest) (maxL := 7) (ret := (some .long)) (by decide) rfl ?_
  intro p e s m args below meth c s₁ B hml hv
  obtain ⟨rfl, hsz, hC, hP, hD0⟩ := hv
  have hx := B.exec
  have hb := B.bytes
  have hr := B.returns
  have hts : ∀ w ∈ gw, w.before ([.ref (q 0), .int p0, .int p1, .int p2, .int p3] : List Value).toArray s = true := fun w hw => atoms_spec (ws := Cond.code y_M_highest b_M_highest 7 (some .long) :: gw) B.pre w (List.mem_cons_of_mem _ hw)
  have hown : s.vm.findClass R_M = some m.cls := findClass_of_methodNamed B.named
  have hlocks := B.notSynchronized
  have hK := hC.1
  have hfr : 3 ≤ (headSpec (Cond.code y_M_highest b_M_highest 7 (some .long) :: gw) ({ frames := 3, cells := 0, slots := 0, locals := 66 } : Room)).room.frames := Nat.le_refl _
  have hlo : 66 ≤ (headSpec (Cond.code y_M_highest b_M_highest 7 (some .long) :: gw) ({ frames := 3, cells := 0, slots := 0, locals := 66 } : Room)).room.locals := Nat.le_refl _
  have hce : 0 ≤ (headSpec (Cond.code y_M_highest b_M_highest 7 (some .long) :: gw) ({ frames := 3, cells := 0, slots := 0, locals := 66 } : Room)).room.cells := Nat.zero_le _
  have hsl : 0 ≤ (headSpec (Cond.code y_M_highest b_M_highest 7 (some .long) :: gw) ({ frames := 3, cells := 0, slots := 0, locals := 66 } : Room)).room.slots := Nat.zero_le _
  subst hsz
  have hD := hD0.self (sz := s.heap.size)
  unfold wB
  generalize hAe : va_A [(q 0, .inr (6, (mF q th F nt ab be))), (q 1, .inl (cI, 13, .inl (fun j => nI (pp j)))), (q 2, .inl (cI, 13, .inl (fun j => nI (hh j)))), (q 4, .inl (cI, 6, .inl (fun j => nI (rm j))))] s.heap.size = A at hD ⊢
  have hA : ∀ q : Nat, s.heap.size ≤ q → A q := fun q h => by rw [← hAe]; exact Or.inr h
  have hS : va_S A s.heap s.heap [] := va_S.rf
  have hl := lv_entry ([.ref (q 0), .int p0, .int p1, .int p2, .int p3]) (n := 7) (Nat.le_of_ble_eq_true rfl)
  rw [lg_entry_eq]
  generalize (lg_sl ([.ref (q 0), .int p0, .int p1, .int p2, .int p3]) ++ List.replicate (7 - (lg_sl ([.ref (q 0), .int p0, .int p1, .int p2, .int p3])).length) Slot.unset).toArray = ls at hl ⊢
  have hl : lv_has ls 7 [(0, .ref (q 0)), (1, .int p0), (2, .int p1), (3, .int p2), (4, .int p3)] := hl
  refine lv_aload_n hx hb d_M_highest_0 rfl (lv_at hl 0 rfl) ?_
  refine lv_aload_n hx hb d_M_highest_1 rfl (lv_at hl 0 rfl) ?_
  refine lv_iload_n hx hb d_M_highest_2 rfl (lv_at hl 1 rfl) ?_
  refine lv_iload_n hx hb d_M_highest_3 rfl (lv_at hl 2 rfl) ?_
  refine lv_iload_n hx hb d_M_highest_4 rfl (lv_at hl 3 rfl) ?_
  refine ro_calli (va_runV (As := [.int p0, .int p1, .int p2]) (rest := [.ref (q 0)]) ⟨hx, hb, hml, hown, hts⟩ (c_M_noZone l q th F nt ab be p0 p1 p2 hF12 hn6) (cwV 3 hts (gw_V k_564 k_561 k_563 ks_M_noZone k_6) rfl rfl rfl (by decide +kernel) ⟨Nat.le_trans (Nat.le_of_ble_eq_true rfl) hfr, Nat.le_trans (Nat.le_of_ble_eq_true rfl) hlo⟩) ⟨pr_blind, va_recv hK hP (ci := 6) (q0 := 0) rfl rfl, pr_at hC (hP.sub (ws' := [(q 0, .inr (6, (mF q th F nt ab be)))]) [0] rfl)⟩ rfl rfl hl.1 rfl (lv_room (Nat.le_of_ble_eq_true rfl)) d_M_highest_5 ⟨hce, hsl⟩) (fun r9 h9 => ?_)
  subst h9
  refine nx_b_ne (tgt := 21) hx hb d_M_highest_8 (by decide) (fun h1 => ?_) (fun h1 => ?_)
  · refine lv_iconst (v := nI 1) hx hb d_M_highest_21 (by decide) ?_
    refine lv_goto (tgt := 26) hx hb d_M_highest_22 (by decide) ?_
    refine va_put (D := (dC, dI)) (ci := 6) (v := .int (nI 1)) (ty := (.int)) (C := R_M) (T := F_M) (N := 17) hx hb hts i_M ft_M ft_M_ok n_M hown hK hP hD hS 0 rfl rfl 0 (by decide) (hts _ k_477) (fun _ h9 => h9) rfl (by decide +kernel) rfl rfl (Nat.le_of_ble_eq_true rfl) d_M_highest_26 (fun H locs hP hD hS => ?_)
    have hP : va_P (dC, dI) vwCl [(q 0, .inr (6, (mF q (nI 1) F nt ab be))), (q 1, .inl (cI, 13, .inl (fun j => nI (pp j)))), (q 2, .inl (cI, 13, .inl (fun j => nI (hh j)))), (q 4, .inl (cI, 6, .inl (fun j => nI (rm j))))] H := hP
    have hD : va_D A [(q 0, .inr (6, (mF q (nI 1) F nt ab be))), (q 1, .inl (cI, 13, .inl (fun j => nI (pp j)))), (q 2, .inl (cI, 13, .inl (fun j => nI (hh j)))), (q 4, .inl (cI, 6, .inl (fun j => nI (rm j))))] := hD
    refine lv_aload_n hx hb d_M_highest_29 rfl (lv_at hl 0 rfl) ?_
    refine va_get (D := (dC, dI)) (ci := 6) (v := .int (nI 1)) (C := R_M) (T := F_M) (N := 17) hx hb hts i_M hown hK hP 0 rfl rfl 0 (by decide) (hts _ k_477) (fun _ h9 => h9) rfl d_M_highest_30 ?_
    refine nx_if_le (tgt := 38) hx hb d_M_highest_33 (by decide) (by omega) (fun h9 => ?_) (fun h9 => ?_)
    · exact absurd h9 (by omega)
    · refine lv_lconst (v := lN 0) hx hb d_M_highest_36 (by decide) ?_
      exact W.lret hx hb hr (fun t ht hW => ⟨⟨_, (), rfl, rfl, by rw [ht]; exact hP, hD⟩, hS.F ht⟩) hS.2.2 d_M_highest_37
  · refine lv_iload hx hb d_M_highest_11 (lv_at hl 4 rfl) ?_
    refine lv_iconst (v := nI 0) hx hb d_M_highest_13 (by decide) ?_
    refine lv_iconst (v := nI 1) hx hb d_M_highest_14 (by decide) ?_
    refine ro_calli (va_runS (As := [.int p3, .int (nI 0), .int (nI 1)]) (rest := [.ref (q 0)]) ⟨hx, hb, hml, hown, hts⟩ (c_M_isIn l p3 (nI 0) (nI 1) 0 1 (nI_toInt (by decide)) (nI_toInt (by decide))) (cwS 3 hts (gw_S k_539 k_537 k_538 k_6) rfl rfl rfl (by decide +kernel) ⟨Nat.le_trans (Nat.le_of_ble_eq_true rfl) hfr, Nat.le_trans (Nat.le_of_ble_eq_true rfl) hlo⟩) ⟨pr_blind, pr_at hC (fun k q h => by simp at h)⟩ rfl rfl hl.1 rfl (lv_room (Nat.le_of_ble_eq_true rfl)) d_M_highest_15 ⟨hce, hsl⟩) (fun r9 h9 => ?_)
    subst h9
    refine nx_b_ne (tgt := 25) hx hb d_M_highest_18 (by decide) (fun h2 => ?_) (fun h2 => ?_)
    · exact absurd ⟨Classical.not_not.mp h1, h2⟩ hbad
    · refine lv_iconst (v := nI 1) hx hb d_M_highest_21 (by decide) ?_
      refine lv_goto (tgt := 26) hx hb d_M_highest_22 (by decide) ?_
      refine va_put (D := (dC, dI)) (ci := 6) (v := .int (nI 1)) (ty := (.int)) (C := R_M) (T := F_M) (N := 17) hx hb hts i_M ft_M ft_M_ok n_M hown hK hP hD hS 0 rfl rfl 0 (by decide) (hts _ k_477) (fun _ h9 => h9) rfl (by decide +kernel) rfl rfl (Nat.le_of_ble_eq_true rfl) d_M_highest_26 (fun H locs hP hD hS => ?_)
      have hP : va_P (dC, dI) vwCl [(q 0, .inr (6, (mF q (nI 1) F nt ab be))), (q 1, .inl (cI, 13, .inl (fun j => nI (pp j)))), (q 2, .inl (cI, 13, .inl (fun j => nI (hh j)))), (q 4, .inl (cI, 6, .inl (fun j => nI (rm j))))] H := hP
      have hD : va_D A [(q 0, .inr (6, (mF q (nI 1) F nt ab be))), (q 1, .inl (cI, 13, .inl (fun j => nI (pp j)))), (q 2, .inl (cI, 13, .inl (fun j => nI (hh j)))), (q 4, .inl (cI, 6, .inl (fun j => nI (rm j))))] := hD
      refine lv_aload_n hx hb d_M_highest_29 rfl (lv_at hl 0 rfl) ?_
      refine va_get (D := (dC, dI)) (ci := 6) (v := .int (nI 1)) (C := R_M) (T := F_M) (N := 17) hx hb hts i_M hown hK hP 0 rfl rfl 0 (by decide) (hts _ k_477) (fun _ h9 => h9) rfl d_M_highest_30 ?_
      refine nx_if_le (tgt := 38) hx hb d_M_highest_33 (by decide) (by omega) (fun h9 => ?_) (fun h9 => ?_)
      · exact absurd h9 (by omega)
      · refine lv_lconst (v := lN 0) hx hb d_M_highest_36 (by decide) ?_
        exact W.lret hx hb hr (fun t ht hW => ⟨⟨_, (), rfl, rfl, by rw [ht]; exact hP, hD⟩, hS.F ht⟩) hS.2.2 d_M_highest_37
set_option maxHeartbeats 4000000 in
set_option maxRecDepth 100000 in
theorem c_M_highest (l : Launch) {dC : Nat → ClassId} {dI : Nat → Nat → Nat} {cI cL cT : ClassId} {sa : Nat → Nat} (sz : Nat) (q : Nat → Nat) (th : Int32) (F nt : Nat) (ab be : Int64) (pp hh rm : Nat → Nat) (t0 fr to n pt : Nat) (hF12 : F ≤ 12) (hn6 : nt ≤ 6) (ht0 : t0 < nt) (hf1 : 1 ≤ fr) (hft : fr ≤ to) (htF : to ≤ F) (hn : to + 1 = fr + n) (hU2 : sm pp fr n ≤ 200) (hhh : ∀ k, k < n → hh (fr + k) ≤ 1200) (hrm : 1 ≤ rm t0 ∧ rm t0 ≤ 5) (hpt : pt ≤ 1) (hX6 : hp pp hh (rm t0) fr n < 2 ^ 63) : Met l y_M_highest (Cond.code y_M_highest b_M_highest 7 (some .long) :: gw) ({ frames := 3, cells := 0, slots := 0, locals := 66 } : Room) (wr dC dI cI cL cT sa [.ref (q 0), .int (nI t0), .int (nI fr), .int (nI to), .int (nI pt)] [(q 0, .inr (6, (mF q th F nt ab be))), (q 1, .inl (cI, 13, .inl (fun j => nI (pp j)))), (q 2, .inl (cI, 13, .inl (fun j => nI (hh j)))), (q 4, .inl (cI, 6, .inl (fun j => nI (rm j))))] sz) (va_Ql (fun r (_ : Unit) => r = if pt = 0 then lN ((hp pp hh (rm t0) fr n) / Nat.gcd (hp pp hh (rm t0) fr n) (wyf (sm pp fr n) (rm t0))) else lN ((wyf (sm pp fr n) (rm t0)) / Nat.gcd (hp pp hh (rm t0) fr n) (wyf (sm pp fr n) (rm t0)))) (wB dC dI [(q 0, .inr (6, (mF q th F nt ab be))), (q 1, .inl (cI, 13, .inl (fun j => nI (pp j)))), (q 2, .inl (cI, 13, .inl (fun j => nI (hh j)))), (q 4, .inl (cI, 6, .inl (fun j => nI (rm j))))] [(q 0, .inr (6, (mF q (nI 0) F nt (lN ((hp pp hh (rm t0) fr n) / Nat.gcd (hp pp hh (rm t0) fr n) (wyf (sm pp fr n) (rm t0)))) (lN ((wyf (sm pp fr n) (rm t0)) / Nat.gcd (hp pp hh (rm t0) fr n) (wyf (sm pp fr n) (rm t0))))))), (q 1, .inl (cI, 13, .inl (fun j => nI (pp j)))), (q 2, .inl (cI, 13, .inl (fun j => nI (hh j)))), (q 4, .inl (cI, 6, .inl (fun j => nI (rm j))))] sz) (va_A [(q 0, .inr (6, (mF q th F nt ab be))), (q 1, .inl (cI, 13, .inl (fun j => nI (pp j)))), (q 2, .inl (cI, 13, .inl (fun j => nI (hh j)))), (q 4, .inl (cI, 6, .inl (fun j => nI (rm j))))] sz)) 0 0 (va_A [(q 0, .inr (6, (mF q th F nt ab be))), (q 1, .inl (cI, 13, .inl (fun j => nI (pp j)))), (q 2, .inl (cI, 13, .inl (fun j => nI (hh j)))), (q 4, .inl (cI, 6, .inl (fun j => nI (rm j))))] sz) := by
  refine Met.ofW (cc := b_M_highest) (maxL := 7) (ret := (some .long)) (by decide) rfl ?_
  intro p e s m args below meth c s₁ B hml hv
  obtain ⟨rfl, hsz, hC, hP, hD0⟩ := hv
  have hx := B.exec
  have hb := B.bytes
  have hr := B.returns
  have hts : ∀ w ∈ gw, w.before ([.ref (q 0), .int (nI t0), .int (nI fr), .int (nI to), .int (nI pt)] : List Value).toArray s = true := fun w hw => atoms_spec (ws := Cond.code y_M_highest b_M_highest 7 (some .long) :: gw) B.pre w (List.mem_cons_of_mem _ hw)
  have hown : s.vm.findClass R_M = some m.cls := findClass_of_methodNamed B.named
  have hlocks := B.notSynchronized
  have hK := hC.1
  have hfr : 3 ≤ (headSpec (Cond.code y_M_highest b_M_highest 7 (some .long) :: gw) ({ frames := 3, cells := 0, slots := 0, locals := 66 } : Room)).room.frames := Nat.le_refl _
  have hlo : 66 ≤ (headSpec (Cond.code y_M_highest b_M_highest 7 (some .long) :: gw) ({ frames := 3, cells := 0, slots := 0, locals := 66 } : Room)).room.locals := Nat.le_refl _
  have hce : 0 ≤ (headSpec (Cond.code y_M_highest b_M_highest 7 (some .long) :: gw) ({ frames := 3, cells := 0, slots := 0, locals := 66 } : Room)).room.cells := Nat.zero_le _
  have hsl : 0 ≤ (headSpec (Cond.code y_M_highest b_M_highest 7 (some .long) :: gw) ({ frames := 3, cells := 0, slots := 0, locals := 66 } : Room)).room.slots := Nat.zero_le _
  subst hsz
  have hD := hD0.self (sz := s.heap.size)
  unfold wB
  generalize hAe : va_A [(q 0, .inr (6, (mF q th F nt ab be))), (q 1, .inl (cI, 13, .inl (fun j => nI (pp j)))), (q 2, .inl (cI, 13, .inl (fun j => nI (hh j)))), (q 4, .inl (cI, 6, .inl (fun j => nI (rm j))))] s.heap.size = A at hD ⊢
  have hA : ∀ q : Nat, s.heap.size ≤ q → A q := fun q h => by rw [← hAe]; exact Or.inr h
  have hS : va_S A s.heap s.heap [] := va_S.rf
  have hl := lv_entry ([.ref (q 0), .int (nI t0), .int (nI fr), .int (nI to), .int (nI pt)]) (n := 7) (Nat.le_of_ble_eq_true rfl)
  rw [lg_entry_eq]
  generalize (lg_sl ([.ref (q 0), .int (nI t0), .int (nI fr), .int (nI to), .int (nI pt)]) ++ List.replicate (7 - (lg_sl ([.ref (q 0), .int (nI t0), .int (nI fr), .int (nI to), .int (nI pt)])).length) Slot.unset).toArray = ls at hl ⊢
  have hl : lv_has ls 7 [(0, .ref (q 0)), (1, .int (nI t0)), (2, .int (nI fr)), (3, .int (nI to)), (4, .int (nI pt))] := hl
  have hP5 : rm t0 ≤ 5 := hrm.2
  have hpp : ∀ k, k < n → pp (fr + k) ≤ 200 := fun k hk => Nat.le_trans (sm_le hk) hU2
  have hpw := pw_le hU2 hP5
  have hwl := wyf_le hU2 hP5
  have hwp := wyf_pos (U := sm pp fr n) (P := rm t0)
  have hz := zone_N ht0 hn6 hf1 hft htF hF12
  refine lv_aload_n hx hb d_M_highest_0 rfl (lv_at hl 0 rfl) ?_
  refine lv_aload_n hx hb d_M_highest_1 rfl (lv_at hl 0 rfl) ?_
  refine lv_iload_n hx hb d_M_highest_2 rfl (lv_at hl 1 rfl) ?_
  refine lv_iload_n hx hb d_M_highest_3 rfl (lv_at hl 2 rfl) ?_
  refine lv_iload_n hx hb d_M_highest_4 rfl (lv_at hl 3 rfl) ?_
  refine ro_calli (va_runV (As := [.int (nI t0), .int (nI fr), .int (nI to)]) (rest := [.ref (q 0)]) ⟨hx, hb, hml, hown, hts⟩ (c_M_noZone l q th F nt ab be (nI t0) (nI fr) (nI to) hF12 hn6) (cwV 3 hts (gw_V k_564 k_561 k_563 ks_M_noZone k_6) rfl rfl rfl (by decide +kernel) ⟨Nat.le_trans (Nat.le_of_ble_eq_true rfl) hfr, Nat.le_trans (Nat.le_of_ble_eq_true rfl) hlo⟩) ⟨pr_blind, va_recv hK hP (ci := 6) (q0 := 0) rfl rfl, pr_at hC (hP.sub (ws' := [(q 0, .inr (6, (mF q th F nt ab be)))]) [0] rfl)⟩ rfl rfl hl.1 rfl (lv_room (Nat.le_of_ble_eq_true rfl)) d_M_highest_5 ⟨hce, hsl⟩) (fun r9 h9 => ?_)
  subst h9
  refine nx_b_ne (tgt := 21) hx hb d_M_highest_8 (by decide) (fun h1 => ?_) (fun h1 => ?_)
  · exact absurd hz h1
  · refine lv_iload hx hb d_M_highest_11 (lv_at hl 4 rfl) ?_
    refine lv_iconst (v := nI 0) hx hb d_M_highest_13 (by decide) ?_
    refine lv_iconst (v := nI 1) hx hb d_M_highest_14 (by decide) ?_
    refine ro_calli (va_runS (As := [.int (nI pt), .int (nI 0), .int (nI 1)]) (rest := [.ref (q 0)]) ⟨hx, hb, hml, hown, hts⟩ (c_M_isInN l pt 0 1 (by omega) (by decide) (by decide)) (cwS 3 hts (gw_S k_539 k_537 k_538 k_6) rfl rfl rfl (by decide +kernel) ⟨Nat.le_trans (Nat.le_of_ble_eq_true rfl) hfr, Nat.le_trans (Nat.le_of_ble_eq_true rfl) hlo⟩) ⟨pr_blind, pr_at hC (fun k q h => by simp at h)⟩ rfl rfl hl.1 rfl (lv_room (Nat.le_of_ble_eq_true rfl)) d_M_highest_15 ⟨hce, hsl⟩) (fun r9 h9 => ?_)
    subst h9
    refine nx_b_ne (tgt := 25) hx hb d_M_highest_18 (by decide) (fun h2 => ?_) (fun h2 => ?_)
    · refine lv_iconst (v := nI 0) hx hb d_M_highest_25 (by decide) ?_
      refine va_put (D := (dC, dI)) (ci := 6) (v := .int (nI 0)) (ty := (.int)) (C := R_M) (T := F_M) (N := 17) hx hb hts i_M ft_M ft_M_ok n_M hown hK hP hD hS 0 rfl rfl 0 (by decide) (hts _ k_477) (fun _ h9 => h9) rfl (by decide +kernel) rfl rfl (Nat.le_of_ble_eq_true rfl) d_M_highest_26 (fun H locs hP hD hS => ?_)
      have hP : va_P (dC, dI) vwCl [(q 0, .inr (6, (mF q (nI 0) F nt ab be))), (q 1, .inl (cI, 13, .inl (fun j => nI (pp j)))), (q 2, .inl (cI, 13, .inl (fun j => nI (hh j)))), (q 4, .inl (cI, 6, .inl (fun j => nI (rm j))))] H := hP
      have hD : va_D A [(q 0, .inr (6, (mF q (nI 0) F nt ab be))), (q 1, .inl (cI, 13, .inl (fun j => nI (pp j)))), (q 2, .inl (cI, 13, .inl (fun j => nI (hh j)))), (q 4, .inl (cI, 6, .inl (fun j => nI (rm j))))] := hD
      refine lv_aload_n hx hb d_M_highest_29 rfl (lv_at hl 0 rfl) ?_
      refine va_get (D := (dC, dI)) (ci := 6) (v := .int (nI 0)) (C := R_M) (T := F_M) (N := 17) hx hb hts i_M hown hK hP 0 rfl rfl 0 (by decide) (hts _ k_477) (fun _ h9 => h9) rfl d_M_highest_30 ?_
      refine nx_if_le (tgt := 38) hx hb d_M_highest_33 (by decide) (by omega) (fun h9 => ?_) (fun h9 => ?_)
      · refine lv_aload_n hx hb d_M_highest_38 rfl (lv_at hl 0 rfl) ?_
        refine lv_iload_n hx hb d_M_highest_39 rfl (lv_at hl 2 rfl) ?_
        refine lv_iload_n hx hb d_M_highest_40 rfl (lv_at hl 3 rfl) ?_
        refine ro_calli (va_runV (As := [.int (nI fr), .int (nI to)]) (rest := []) ⟨hx, hb, hml, hown, hts⟩ (c_M_zonePersons l q (nI 0) F nt ab be pp fr to n hn (by omega)) (cwV 2 hts (gw_V k_568 k_565 k_567 ks_M_zonePersons k_6) rfl rfl rfl (by decide +kernel) ⟨Nat.le_trans (Nat.le_of_ble_eq_true rfl) hfr, Nat.le_trans (Nat.le_of_ble_eq_true rfl) hlo⟩) ⟨pr_blind, va_recv hK hP (ci := 6) (q0 := 0) rfl rfl, pr_at hC (hP.sub (ws' := [(q 0, .inr (6, (mF q (nI 0) F nt ab be))), (q 1, .inl (cI, 13, .inl (fun j => nI (pp j))))]) [0, 1] rfl)⟩ rfl rfl hl.1 rfl (lv_room (Nat.le_of_ble_eq_true rfl)) d_M_highest_41 ⟨hce, hsl⟩) (fun r9 h9 => ?_)
        subst h9
        refine nx_i2l hx hb d_M_highest_44 (by omega) ?_
        refine lv_aload_n hx hb d_M_highest_45 rfl (lv_at hl 0 rfl) ?_
        refine va_get (D := (dC, dI)) (ci := 6) (v := .ref (q 4)) (C := R_M) (T := F_M) (N := 17) hx hb hts i_M hown hK hP 0 rfl rfl 4 (by decide) (hts _ k_481) (fun _ h9 => h9) rfl d_M_highest_46 ?_
        refine lv_iload_n hx hb d_M_highest_49 rfl (lv_at hl 1 rfl) ?_
        refine nx_iald hx hb hK hP 3 0 rfl rfl (k := t0) (v := nI (rm t0)) (by omega) (by decide) rfl d_M_highest_50 ?_
        refine ro_calll (va_runS (As := [.long (lN (sm pp fr n)), .int (nI (rm t0))]) (rest := []) ⟨hx, hb, hml, hown, hts⟩ (c_M_power l (sm pp fr n) (rm t0) hP5) (cwS 2 hts (gw_S k_571 k_569 k_570 k_6) rfl rfl rfl (by decide +kernel) ⟨Nat.le_trans (Nat.le_of_ble_eq_true rfl) hfr, Nat.le_trans (Nat.le_of_ble_eq_true rfl) hlo⟩) ⟨pr_blind, pr_at hC (fun k q h => by simp at h)⟩ rfl rfl hl.1 rfl (lv_room (Nat.le_of_ble_eq_true rfl)) d_M_highest_51 ⟨hce, hsl⟩) (fun r9 h9 => ?_)
        subst h9
        refine lv_lstore (lv' := [(5, .long (lN (sm pp fr n ^ rm t0))), (0, .ref (q 0)), (1, .int (nI t0)), (2, .int (nI fr)), (3, .int (nI to)), (4, .int (nI pt))]) hx hb d_M_highest_54 hl (by decide) rfl (fun ls hl => ?_)
        refine lv_aload_n hx hb d_M_highest_56 rfl (lv_at hl 1 rfl) ?_
        refine lv_aload_n hx hb d_M_highest_57 rfl (lv_at hl 1 rfl) ?_
        refine lv_aload_n hx hb d_M_highest_58 rfl (lv_at hl 1 rfl) ?_
        refine va_get (D := (dC, dI)) (ci := 6) (v := .ref (q 4)) (C := R_M) (T := F_M) (N := 17) hx hb hts i_M hown hK hP 0 rfl rfl 4 (by decide) (hts _ k_481) (fun _ h9 => h9) rfl d_M_highest_59 ?_
        refine lv_iload_n hx hb d_M_highest_62 rfl (lv_at hl 2 rfl) ?_
        refine nx_iald hx hb hK hP 3 0 rfl rfl (k := t0) (v := nI (rm t0)) (by omega) (by decide) rfl d_M_highest_63 ?_
        refine lv_iload_n hx hb d_M_highest_64 rfl (lv_at hl 3 rfl) ?_
        refine lv_iload_n hx hb d_M_highest_65 rfl (lv_at hl 4 rfl) ?_
        refine ro_calll (va_runV (As := [.int (nI (rm t0)), .int (nI fr), .int (nI to)]) (rest := [.ref (q 0)]) ⟨hx, hb, hml, hown, hts⟩ (c_M_highestOf l q (nI 0) F nt ab be pp hh fr to n (rm t0) hn (by omega) hpp hhh hP5) (cwV 3 hts (gw_V k_591 k_588 k_590 ks_M_highestOf k_6) rfl rfl rfl (by decide +kernel) ⟨Nat.le_trans (Nat.le_of_ble_eq_true rfl) hfr, Nat.le_trans (Nat.le_of_ble_eq_true rfl) hlo⟩) ⟨pr_blind, va_recv hK hP (ci := 6) (q0 := 0) rfl rfl, pr_at hC (hP.sub (ws' := [(q 0, .inr (6, (mF q (nI 0) F nt ab be))), (q 1, .inl (cI, 13, .inl (fun j => nI (pp j)))), (q 2, .inl (cI, 13, .inl (fun j => nI (hh j))))]) [0, 1, 2] rfl)⟩ rfl rfl hl.1 rfl (lv_room (Nat.le_of_ble_eq_true rfl)) d_M_highest_66 ⟨hce, hsl⟩) (fun r9 h9 => ?_)
        subst h9
        refine lv_lload hx hb d_M_highest_69 (lv_at hl 0 rfl) ?_
        refine lv_lconst (v := lN 0) hx hb d_M_highest_71 (by decide) ?_
        refine nx_lcn_ne (tgt := 80) hx hb d_M_highest_72 d_M_highest_73 (by decide) (by omega) (by decide) (fun h3 => ?_) (fun h3 => ?_)
        · refine lv_lload hx hb d_M_highest_80 (lv_at hl 0 rfl) ?_
          refine nx_leq (wyf_n (pow_n hrm.1 h3)) ?_
          have hPc := hP.sub (ws' := [(q 0, .inr (6, (mF q (nI 0) F nt ab be)))]) [0] rfl
          have hDc := hD.sub (ws' := [(q 0, .inr (6, (mF q (nI 0) F nt ab be)))]) [0] (by decide) rfl
          have hFc := va_free (wc := [(q 0, .inr (6, (mF q (nI 0) F nt ab be)))]) hD hS hA [0] rfl
          refine va_callv (va_runV (As := [.long (lN (hp pp hh (rm t0) fr n)), .long (lN (wyf (sm pp fr n) (rm t0)))]) (rest := []) ⟨hx, hb, hml, hown, hts⟩ (c_M_lowest l _ q (nI 0) F nt ab be (hp pp hh (rm t0) fr n) (wyf (sm pp fr n) (rm t0)) hX6 (by omega) hwp) (cwV 2 hts (gw_V k_579 k_576 k_578 ks_M_lowest k_6) rfl rfl rfl (by decide +kernel) ⟨Nat.le_trans (Nat.le_of_ble_eq_true rfl) hfr, Nat.le_trans (Nat.le_of_ble_eq_true rfl) hlo⟩) ⟨wr_blind, va_recv hK hP (ci := 6) (q0 := 0) rfl rfl, wr_at hC hPc hDc⟩ rfl rfl hl.1 rfl (lv_room (Nat.le_of_ble_eq_true rfl)) d_M_highest_82 ⟨hce, hsl⟩) hS (fun q _ h => hFc q h) hFc (fun u t H1 locs ht hvm hw hB hz1 hk1 hS => ?_)
          obtain ⟨hP1, hD1⟩ := hB
          rw [ht] at hP1
          obtain ⟨hP, hD⟩ := va_join (wr := [(q 1, .inl (cI, 13, .inl (fun j => nI (pp j)))), (q 2, .inl (cI, 13, .inl (fun j => nI (hh j)))), (q 4, .inl (cI, 6, .inl (fun j => nI (rm j))))]) (w1 := [(q 0, .inr (6, (mF q (nI 0) F nt (lN ((hp pp hh (rm t0) fr n) / Nat.gcd (hp pp hh (rm t0) fr n) (wyf (sm pp fr n) (rm t0)))) (lN ((wyf (sm pp fr n) (rm t0)) / Nat.gcd (hp pp hh (rm t0) fr n) (wyf (sm pp fr n) (rm t0)))))))]) hP hD [0] [1, 2, 3] rfl rfl (by decide) (by decide) hk1 hFc hP1 hD1
          generalize H1 = H at hP hS ⊢
          have hP := hP.sub (ws' := [(q 0, .inr (6, (mF q (nI 0) F nt (lN ((hp pp hh (rm t0) fr n) / Nat.gcd (hp pp hh (rm t0) fr n) (wyf (sm pp fr n) (rm t0)))) (lN ((wyf (sm pp fr n) (rm t0)) / Nat.gcd (hp pp hh (rm t0) fr n) (wyf (sm pp fr n) (rm t0))))))), (q 1, .inl (cI, 13, .inl (fun j => nI (pp j)))), (q 2, .inl (cI, 13, .inl (fun j => nI (hh j)))), (q 4, .inl (cI, 6, .inl (fun j => nI (rm j))))]) [3, 0, 1, 2] rfl
          have hD := hD.sub (ws' := [(q 0, .inr (6, (mF q (nI 0) F nt (lN ((hp pp hh (rm t0) fr n) / Nat.gcd (hp pp hh (rm t0) fr n) (wyf (sm pp fr n) (rm t0)))) (lN ((wyf (sm pp fr n) (rm t0)) / Nat.gcd (hp pp hh (rm t0) fr n) (wyf (sm pp fr n) (rm t0))))))), (q 1, .inl (cI, 13, .inl (fun j => nI (pp j)))), (q 2, .inl (cI, 13, .inl (fun j => nI (hh j)))), (q 4, .inl (cI, 6, .inl (fun j => nI (rm j))))]) [3, 0, 1, 2] (by decide) rfl
          refine lv_aload_n hx hb d_M_highest_85 rfl (lv_at hl 1 rfl) ?_
          refine lv_iload hx hb d_M_highest_86 (lv_at hl 5 rfl) ?_
          refine ro_calll (va_runV (As := [.int (nI pt)]) (rest := []) ⟨hx, hb, hml, hown, hts⟩ (c_M_part l q (nI 0) F nt (lN ((hp pp hh (rm t0) fr n) / Nat.gcd (hp pp hh (rm t0) fr n) (wyf (sm pp fr n) (rm t0)))) (lN ((wyf (sm pp fr n) (rm t0)) / Nat.gcd (hp pp hh (rm t0) fr n) (wyf (sm pp fr n) (rm t0)))) pt hpt) (cwV 1 hts (gw_V k_583 k_580 k_582 ks_M_part k_6) rfl rfl rfl (by decide +kernel) ⟨Nat.le_trans (Nat.le_of_ble_eq_true rfl) hfr, Nat.le_trans (Nat.le_of_ble_eq_true rfl) hlo⟩) ⟨pr_blind, va_recv hK hP (ci := 6) (q0 := 0) rfl rfl, pr_at hC (hP.sub (ws' := [(q 0, .inr (6, (mF q (nI 0) F nt (lN ((hp pp hh (rm t0) fr n) / Nat.gcd (hp pp hh (rm t0) fr n) (wyf (sm pp fr n) (rm t0)))) (lN ((wyf (sm pp fr n) (rm t0)) / Nat.gcd (hp pp hh (rm t0) fr n) (wyf (sm pp fr n) (rm t0)))))))]) [0] rfl)⟩ rfl rfl hl.1 rfl (lv_room (Nat.le_of_ble_eq_true rfl)) d_M_highest_88 ⟨hce, hsl⟩) (fun r9 h9 => ?_)
          subst h9
          exact W.lret hx hb hr (fun t ht hW => ⟨⟨_, (), rfl, rfl, by rw [ht]; exact hP, hD⟩, hS.F ht⟩) hS.2.2 d_M_highest_91
        · refine lv_lconst (v := lN 1) hx hb d_M_highest_76 (by decide) ?_
          refine lv_goto (tgt := 82) hx hb d_M_highest_77 (by decide) ?_
          refine nx_leq (wyf_0 (P := rm t0) (pow_0 hrm.1 h3)) ?_
          have hPc := hP.sub (ws' := [(q 0, .inr (6, (mF q (nI 0) F nt ab be)))]) [0] rfl
          have hDc := hD.sub (ws' := [(q 0, .inr (6, (mF q (nI 0) F nt ab be)))]) [0] (by decide) rfl
          have hFc := va_free (wc := [(q 0, .inr (6, (mF q (nI 0) F nt ab be)))]) hD hS hA [0] rfl
          refine va_callv (va_runV (As := [.long (lN (hp pp hh (rm t0) fr n)), .long (lN (wyf (sm pp fr n) (rm t0)))]) (rest := []) ⟨hx, hb, hml, hown, hts⟩ (c_M_lowest l _ q (nI 0) F nt ab be (hp pp hh (rm t0) fr n) (wyf (sm pp fr n) (rm t0)) hX6 (by omega) hwp) (cwV 2 hts (gw_V k_579 k_576 k_578 ks_M_lowest k_6) rfl rfl rfl (by decide +kernel) ⟨Nat.le_trans (Nat.le_of_ble_eq_true rfl) hfr, Nat.le_trans (Nat.le_of_ble_eq_true rfl) hlo⟩) ⟨wr_blind, va_recv hK hP (ci := 6) (q0 := 0) rfl rfl, wr_at hC hPc hDc⟩ rfl rfl hl.1 rfl (lv_room (Nat.le_of_ble_eq_true rfl)) d_M_highest_82 ⟨hce, hsl⟩) hS (fun q _ h => hFc q h) hFc (fun u t H1 locs ht hvm hw hB hz1 hk1 hS => ?_)
          obtain ⟨hP1, hD1⟩ := hB
          rw [ht] at hP1
          obtain ⟨hP, hD⟩ := va_join (wr := [(q 1, .inl (cI, 13, .inl (fun j => nI (pp j)))), (q 2, .inl (cI, 13, .inl (fun j => nI (hh j)))), (q 4, .inl (cI, 6, .inl (fun j => nI (rm j))))]) (w1 := [(q 0, .inr (6, (mF q (nI 0) F nt (lN ((hp pp hh (rm t0) fr n) / Nat.gcd (hp pp hh (rm t0) fr n) (wyf (sm pp fr n) (rm t0)))) (lN ((wyf (sm pp fr n) (rm t0)) / Nat.gcd (hp pp hh (rm t0) fr n) (wyf (sm pp fr n) (rm t0)))))))]) hP hD [0] [1, 2, 3] rfl rfl (by decide) (by decide) hk1 hFc hP1 hD1
          generalize H1 = H at hP hS ⊢
          have hP := hP.sub (ws' := [(q 0, .inr (6, (mF q (nI 0) F nt (lN ((hp pp hh (rm t0) fr n) / Nat.gcd (hp pp hh (rm t0) fr n) (wyf (sm pp fr n) (rm t0)))) (lN ((wyf (sm pp fr n) (rm t0)) / Nat.gcd (hp pp hh (rm t0) fr n) (wyf (sm pp fr n) (rm t0))))))), (q 1, .inl (cI, 13, .inl (fun j => nI (pp j)))), (q 2, .inl (cI, 13, .inl (fun j => nI (hh j)))), (q 4, .inl (cI, 6, .inl (fun j => nI (rm j))))]) [3, 0, 1, 2] rfl
          have hD := hD.sub (ws' := [(q 0, .inr (6, (mF q (nI 0) F nt (lN ((hp pp hh (rm t0) fr n) / Nat.gcd (hp pp hh (rm t0) fr n) (wyf (sm pp fr n) (rm t0)))) (lN ((wyf (sm pp fr n) (rm t0)) / Nat.gcd (hp pp hh (rm t0) fr n) (wyf (sm pp fr n) (rm t0))))))), (q 1, .inl (cI, 13, .inl (fun j => nI (pp j)))), (q 2, .inl (cI, 13, .inl (fun j => nI (hh j)))), (q 4, .inl (cI, 6, .inl (fun j => nI (rm j))))]) [3, 0, 1, 2] (by decide) rfl
          refine lv_aload_n hx hb d_M_highest_85 rfl (lv_at hl 1 rfl) ?_
          refine lv_iload hx hb d_M_highest_86 (lv_at hl 5 rfl) ?_
          refine ro_calll (va_runV (As := [.int (nI pt)]) (rest := []) ⟨hx, hb, hml, hown, hts⟩ (c_M_part l q (nI 0) F nt (lN ((hp pp hh (rm t0) fr n) / Nat.gcd (hp pp hh (rm t0) fr n) (wyf (sm pp fr n) (rm t0)))) (lN ((wyf (sm pp fr n) (rm t0)) / Nat.gcd (hp pp hh (rm t0) fr n) (wyf (sm pp fr n) (rm t0)))) pt hpt) (cwV 1 hts (gw_V k_583 k_580 k_582 ks_M_part k_6) rfl rfl rfl (by decide +kernel) ⟨Nat.le_trans (Nat.le_of_ble_eq_true rfl) hfr, Nat.le_trans (Nat.le_of_ble_eq_true rfl) hlo⟩) ⟨pr_blind, va_recv hK hP (ci := 6) (q0 := 0) rfl rfl, pr_at hC (hP.sub (ws' := [(q 0, .inr (6, (mF q (nI 0) F nt (lN ((hp pp hh (rm t0) fr n) / Nat.gcd (hp pp hh (rm t0) fr n) (wyf (sm pp fr n) (rm t0)))) (lN ((wyf (sm pp fr n) (rm t0)) / Nat.gcd (hp pp hh (rm t0) fr n) (wyf (sm pp fr n) (rm t0)))))))]) [0] rfl)⟩ rfl rfl hl.1 rfl (lv_room (Nat.le_of_ble_eq_true rfl)) d_M_highest_88 ⟨hce, hsl⟩) (fun r9 h9 => ?_)
          subst h9
          exact W.lret hx hb hr (fun t ht hW => ⟨⟨_, (), rfl, rfl, by rw [ht]; exact hP, hD⟩, hS.F ht⟩) hS.2.2 d_M_highest_91
      · exact absurd h9 (by omega)
    · exact absurd (show 0 ≤ pt ∧ pt ≤ 1 by omega) h2
set_option maxHeartbeats 4000000 in
set_option maxRecDepth 100000 in
theorem c_M_trip_b1 (l : Launch) {dC : Nat → ClassId} {dI : Nat → Nat → Nat} {cI cL cT : ClassId} {sa : Nat → Nat} (sz : Nat) (q : Nat → Nat) (th : Int32) (F nt : Nat) (ab be : Int64) (pp hh rm sd dr pe : Nat → Nat) (p0 p1 p2 p3 : Int32) (hF12 : F ≤ 12) (hn6 : nt ≤ 6) (hbad : ¬ ((okTy nt p0 ∧ okFl F p1 ∧ okFl F p2 ∧ p1.toInt ≤ p2.toInt) ∧ (0 ≤ p3.toInt ∧ p3.toInt ≤ 1))) : Met l y_M_trip (Cond.code y_M_trip b_M_trip 5 (some .long) :: gw) ({ frames := 3, cells := 0, slots := 0, locals := 87 } : Room) (wr dC dI cI cL cT sa [.ref (q 0), .int p0, .int p1, .int p2, .int p3] [(q 0, .inr (6, (mF q th F nt ab be))), (q 1, .inl (cI, 13, .inl (fun j => nI (pp j)))), (q 2, .inl (cI, 13, .inl (fun j => nI (hh j)))), (q 4, .inl (cI, 6, .inl (fun j => nI (rm j)))), (q 5, .inl (cI, 6, .inl (fun j => nI (sd j)))), (q 6, .inl (cI, 6, .inl (fun j => nI (dr j)))), (q 7, .inl (cI, 6, .inl (fun j => nI (pe j))))] sz) (va_Ql (fun r (_ : Unit) => r = lN 0) (wB dC dI [(q 0, .inr (6, (mF q th F nt ab be))), (q 1, .inl (cI, 13, .inl (fun j => nI (pp j)))), (q 2, .inl (cI, 13, .inl (fun j => nI (hh j)))), (q 4, .inl (cI, 6, .inl (fun j => nI (rm j)))), (q 5, .inl (cI, 6, .inl (fun j => nI (sd j)))), (q 6, .inl (cI, 6, .inl (fun j => nI (dr j)))), (q 7, .inl (cI, 6, .inl (fun j => nI (pe j))))] [(q 0, .inr (6, (mF q (nI 1) F nt ab be))), (q 1, .inl (cI, 13, .inl (fun j => nI (pp j)))), (q 2, .inl (cI, 13, .inl (fun j => nI (hh j)))), (q 4, .inl (cI, 6, .inl (fun j => nI (rm j)))), (q 5, .inl (cI, 6, .inl (fun j => nI (sd j)))), (q 6, .inl (cI, 6, .inl (fun j => nI (dr j)))), (q 7, .inl (cI, 6, .inl (fun j => nI (pe j))))] sz) (va_A [(q 0, .inr (6, (mF q th F nt ab be))), (q 1, .inl (cI, 13, .inl (fun j => nI (pp j)))), (q 2, .inl (cI, 13, .inl (fun j => nI (hh j)))), (q 4, .inl (cI, 6, .inl (fun j => nI (rm j)))), (q 5, .inl (cI, 6, .inl (fun j => nI (sd j)))), (q 6, .inl (cI, 6, .inl (fun j => nI (dr j)))), (q 7, .inl (cI, 6, .inl (fun j => nI (pe j))))] sz)) 0 0 (va_A [(q 0, .inr (6, (mF q th F nt ab be))), (q 1, .inl (cI, 13, .inl (fun j => nI (pp j)))), (q 2, .inl (cI, 13, .inl (fun j => nI (hh j)))), (q 4, .inl (cI, 6, .inl (fun j => nI (rm j)))), (q 5, .inl (cI, 6, .inl (fun j => nI (sd j)))), (q 6, .inl (cI, 6, .inl (fun j => nI (dr j)))), (q 7, .inl (cI, 6, .inl (fun j => nI (pe j))))] sz) := by
  refine Met.ofW (cc := b_M_trip) (maxL := 5) (ret := (some .long)) (by decide) rfl ?_
  intro p e s m args below meth c s₁ B hml hv
  obtain ⟨rfl, hsz, hC, hP, hD0⟩ := hv
  have hx := B.exec
  have hb := B.bytes
  have hr := B.returns
  have hts : ∀ w ∈ gw, w.before ([.ref (q 0), .int p0, .int p1, .int p2, .int p3] : List Value).toArray s = true := fun w hw => atoms_spec (ws := Cond.code y_M_trip b_M_trip 5 (some .long) :: gw) B.pre w (List.mem_cons_of_mem _ hw)
  have hown : s.vm.findClass R_M = some m.cls := findClass_of_methodNamed B.named
  have hlocks := B.notSynchronized
  have hK := hC.1
  have hfr : 3 ≤ (headSpec (Cond.code y_M_trip b_M_trip 5 (some .long) :: gw) ({ frames := 3, cells := 0, slots := 0, locals := 87 } : Room)).room.frames := Nat.le_refl _
  have hlo : 87 ≤ (headSpec (Cond.code y_M_trip b_M_trip 5 (some .long) :: gw) ({ frames := 3, cells := 0, slots := 0, locals := 87 } : Room)).room.locals := Nat.le_refl _
  have hce : 0 ≤ (headSpec (Cond.code y_M_trip b_M_trip 5 (some .long) :: gw) ({ frames := 3, cells := 0, slots := 0, locals := 87 } : Room)).room.cells := Nat.zero_le _
  have hsl : 0 ≤ (headSpec (Cond.code y_M_trip b_M_trip 5 (some .long) :: gw) ({ frames := 3, cells := 0, slots := 0, locals := 87 } : Room)).room.slots := Nat.zero_le _
  subst hsz
  have hD := hD0.self (sz := s.heap.size)
  unfold wB
  generalize hAe : va_A [(q 0, .inr (6, (mF q th F nt ab be))), (q 1, .inl (cI, 13, .inl (fun j => nI (pp j)))), (q 2, .inl (cI, 13, .inl (fun j => nI (hh j)))), (q 4, .inl (cI, 6, .inl (fun j => nI (rm j)))), (q 5, .inl (cI, 6, .inl (fun j => nI (sd j)))), (q 6, .inl (cI, 6, .inl (fun j => nI (dr j)))), (q 7, .inl (cI, 6, .inl (fun j => nI (pe j))))] s.heap.size = A at hD ⊢
  have hA : ∀ q : Nat, s.heap.size ≤ q → A q := fun q h => by rw [← hAe]; exact Or.inr h
  have hS : va_S A s.heap s.heap [] := va_S.rf
  have hl := lv_entry ([.ref (q 0), .int p0, .int p1, .int p2, .int p3]) (n := 5) (Nat.le_of_ble_eq_true rfl)
  rw [lg_entry_eq]
  generalize (lg_sl ([.ref (q 0), .int p0, .int p1, .int p2, .int p3]) ++ List.replicate (5 - (lg_sl ([.ref (q 0), .int p0, .int p1, .int p2, .int p3])).length) Slot.unset).toArray = ls at hl ⊢
  have hl : lv_has ls 5 [(0, .ref (q 0)), (1, .int p0), (2, .int p1), (3, .int p2), (4, .int p3)] := hl
  refine lv_aload_n hx hb d_M_trip_0 rfl (lv_at hl 0 rfl) ?_
  refine lv_aload_n hx hb d_M_trip_1 rfl (lv_at hl 0 rfl) ?_
  refine lv_iload_n hx hb d_M_trip_2 rfl (lv_at hl 1 rfl) ?_
  refine lv_iload_n hx hb d_M_trip_3 rfl (lv_at hl 2 rfl) ?_
  refine lv_iload_n hx hb d_M_trip_4 rfl (lv_at hl 3 rfl) ?_
  refine ro_calli (va_runV (As := [.int p0, .int p1, .int p2]) (rest := [.ref (q 0)]) ⟨hx, hb, hml, hown, hts⟩ (c_M_noZone l q th F nt ab be p0 p1 p2 hF12 hn6) (cwV 3 hts (gw_V k_564 k_561 k_563 ks_M_noZone k_6) rfl rfl rfl (by decide +kernel) ⟨Nat.le_trans (Nat.le_of_ble_eq_true rfl) hfr, Nat.le_trans (Nat.le_of_ble_eq_true rfl) hlo⟩) ⟨pr_blind, va_recv hK hP (ci := 6) (q0 := 0) rfl rfl, pr_at hC (hP.sub (ws' := [(q 0, .inr (6, (mF q th F nt ab be)))]) [0] rfl)⟩ rfl rfl hl.1 rfl (lv_room (Nat.le_of_ble_eq_true rfl)) d_M_trip_5 ⟨hce, hsl⟩) (fun r9 h9 => ?_)
  subst h9
  refine nx_b_ne (tgt := 21) hx hb d_M_trip_8 (by decide) (fun h1 => ?_) (fun h1 => ?_)
  · refine lv_iconst (v := nI 1) hx hb d_M_trip_21 (by decide) ?_
    refine lv_goto (tgt := 26) hx hb d_M_trip_22 (by decide) ?_
    refine va_put (D := (dC, dI)) (ci := 6) (v := .int (nI 1)) (ty := (.int)) (C := R_M) (T := F_M) (N := 17) hx hb hts i_M ft_M ft_M_ok n_M hown hK hP hD hS 0 rfl rfl 0 (by decide) (hts _ k_477) (fun _ h9 => h9) rfl (by decide +kernel) rfl rfl (Nat.le_of_ble_eq_true rfl) d_M_trip_26 (fun H locs hP hD hS => ?_)
    have hP : va_P (dC, dI) vwCl [(q 0, .inr (6, (mF q (nI 1) F nt ab be))), (q 1, .inl (cI, 13, .inl (fun j => nI (pp j)))), (q 2, .inl (cI, 13, .inl (fun j => nI (hh j)))), (q 4, .inl (cI, 6, .inl (fun j => nI (rm j)))), (q 5, .inl (cI, 6, .inl (fun j => nI (sd j)))), (q 6, .inl (cI, 6, .inl (fun j => nI (dr j)))), (q 7, .inl (cI, 6, .inl (fun j => nI (pe j))))] H := hP
    have hD : va_D A [(q 0, .inr (6, (mF q (nI 1) F nt ab be))), (q 1, .inl (cI, 13, .inl (fun j => nI (pp j)))), (q 2, .inl (cI, 13, .inl (fun j => nI (hh j)))), (q 4, .inl (cI, 6, .inl (fun j => nI (rm j)))), (q 5, .inl (cI, 6, .inl (fun j => nI (sd j)))), (q 6, .inl (cI, 6, .inl (fun j => nI (dr j)))), (q 7, .inl (cI, 6, .inl (fun j => nI (pe j))))] := hD
    refine lv_aload_n hx hb d_M_trip_29 rfl (lv_at hl 0 rfl) ?_
    refine va_get (D := (dC, dI)) (ci := 6) (v := .int (nI 1)) (C := R_M) (T := F_M) (N := 17) hx hb hts i_M hown hK hP 0 rfl rfl 0 (by decide) (hts _ k_477) (fun _ h9 => h9) rfl d_M_trip_30 ?_
    refine nx_if_le (tgt := 38) hx hb d_M_trip_33 (by decide) (by omega) (fun h9 => ?_) (fun h9 => ?_)
    · exact absurd h9 (by omega)
    · refine lv_lconst (v := lN 0) hx hb d_M_trip_36 (by decide) ?_
      exact W.lret hx hb hr (fun t ht hW => ⟨⟨_, (), rfl, rfl, by rw [ht]; exact hP, hD⟩, hS.F ht⟩) hS.2.2 d_M_trip_37
  · refine lv_iload hx hb d_M_trip_11 (lv_at hl 4 rfl) ?_
    refine lv_iconst (v := nI 0) hx hb d_M_trip_13 (by decide) ?_
    refine lv_iconst (v := nI 1) hx hb d_M_trip_14 (by decide) ?_
    refine ro_calli (va_runS (As := [.int p3, .int (nI 0), .int (nI 1)]) (rest := [.ref (q 0)]) ⟨hx, hb, hml, hown, hts⟩ (c_M_isIn l p3 (nI 0) (nI 1) 0 1 (nI_toInt (by decide)) (nI_toInt (by decide))) (cwS 3 hts (gw_S k_539 k_537 k_538 k_6) rfl rfl rfl (by decide +kernel) ⟨Nat.le_trans (Nat.le_of_ble_eq_true rfl) hfr, Nat.le_trans (Nat.le_of_ble_eq_true rfl) hlo⟩) ⟨pr_blind, pr_at hC (fun k q h => by simp at h)⟩ rfl rfl hl.1 rfl (lv_room (Nat.le_of_ble_eq_true rfl)) d_M_trip_15 ⟨hce, hsl⟩) (fun r9 h9 => ?_)
    subst h9
    refine nx_b_ne (tgt := 25) hx hb d_M_trip_18 (by decide) (fun h2 => ?_) (fun h2 => ?_)
    · exact absurd ⟨Classical.not_not.mp h1, h2⟩ hbad
    · refine lv_iconst (v := nI 1) hx hb d_M_trip_21 (by decide) ?_
      refine lv_goto (tgt := 26) hx hb d_M_trip_22 (by decide) ?_
      refine va_put (D := (dC, dI)) (ci := 6) (v := .int (nI 1)) (ty := (.int)) (C := R_M) (T := F_M) (N := 17) hx hb hts i_M ft_M ft_M_ok n_M hown hK hP hD hS 0 rfl rfl 0 (by decide) (hts _ k_477) (fun _ h9 => h9) rfl (by decide +kernel) rfl rfl (Nat.le_of_ble_eq_true rfl) d_M_trip_26 (fun H locs hP hD hS => ?_)
      have hP : va_P (dC, dI) vwCl [(q 0, .inr (6, (mF q (nI 1) F nt ab be))), (q 1, .inl (cI, 13, .inl (fun j => nI (pp j)))), (q 2, .inl (cI, 13, .inl (fun j => nI (hh j)))), (q 4, .inl (cI, 6, .inl (fun j => nI (rm j)))), (q 5, .inl (cI, 6, .inl (fun j => nI (sd j)))), (q 6, .inl (cI, 6, .inl (fun j => nI (dr j)))), (q 7, .inl (cI, 6, .inl (fun j => nI (pe j))))] H := hP
      have hD : va_D A [(q 0, .inr (6, (mF q (nI 1) F nt ab be))), (q 1, .inl (cI, 13, .inl (fun j => nI (pp j)))), (q 2, .inl (cI, 13, .inl (fun j => nI (hh j)))), (q 4, .inl (cI, 6, .inl (fun j => nI (rm j)))), (q 5, .inl (cI, 6, .inl (fun j => nI (sd j)))), (q 6, .inl (cI, 6, .inl (fun j => nI (dr j)))), (q 7, .inl (cI, 6, .inl (fun j => nI (pe j))))] := hD
      refine lv_aload_n hx hb d_M_trip_29 rfl (lv_at hl 0 rfl) ?_
      refine va_get (D := (dC, dI)) (ci := 6) (v := .int (nI 1)) (C := R_M) (T := F_M) (N := 17) hx hb hts i_M hown hK hP 0 rfl rfl 0 (by decide) (hts _ k_477) (fun _ h9 => h9) rfl d_M_trip_30 ?_
      refine nx_if_le (tgt := 38) hx hb d_M_trip_33 (by decide) (by omega) (fun h9 => ?_) (fun h9 => ?_)
      · exact absurd h9 (by omega)
      · refine lv_lconst (v := lN 0) hx hb d_M_trip_36 (by decide) ?_
        exact W.lret hx hb hr (fun t ht hW => ⟨⟨_, (), rfl, rfl, by rw [ht]; exact hP, hD⟩, hS.F ht⟩) hS.2.2 d_M_trip_37
set_option maxHeartbeats 4000000 in
set_option maxRecDepth 100000 in
theorem c_M_trip (l : Launch) {dC : Nat → ClassId} {dI : Nat → Nat → Nat} {cI cL cT : ClassId} {sa : Nat → Nat} (sz : Nat) (q : Nat → Nat) (th : Int32) (F nt : Nat) (ab be : Int64) (pp hh rm sd dr pe : Nat → Nat) (t0 fr to n pt : Nat) (hF12 : F ≤ 12) (hn6 : nt ≤ 6) (ht0 : t0 < nt) (hf1 : 1 ≤ fr) (hft : fr ≤ to) (htF : to ≤ F) (hn : to + 1 = fr + n) (hU2 : sm pp fr n ≤ 200) (hhh : ∀ k, k < n → hh (fr + k) ≤ 1200) (hrm : 1 ≤ rm t0 ∧ rm t0 ≤ 5) (hsd : 1 ≤ sd t0 ∧ sd t0 ≤ 100) (hdr : dr t0 ≤ 30) (hpe : pe t0 ≤ 10) (hpt : pt ≤ 1) : Met l y_M_trip (Cond.code y_M_trip b_M_trip 5 (some .long) :: gw) ({ frames := 3, cells := 0, slots := 0, locals := 87 } : Room) (wr dC dI cI cL cT sa [.ref (q 0), .int (nI t0), .int (nI fr), .int (nI to), .int (nI pt)] [(q 0, .inr (6, (mF q th F nt ab be))), (q 1, .inl (cI, 13, .inl (fun j => nI (pp j)))), (q 2, .inl (cI, 13, .inl (fun j => nI (hh j)))), (q 4, .inl (cI, 6, .inl (fun j => nI (rm j)))), (q 5, .inl (cI, 6, .inl (fun j => nI (sd j)))), (q 6, .inl (cI, 6, .inl (fun j => nI (dr j)))), (q 7, .inl (cI, 6, .inl (fun j => nI (pe j))))] sz) (va_Ql (fun r (_ : Unit) => r = if pt = 0 then lN ((tA pp hh fr n (rm t0) (sd t0) (dr t0) (pe t0)) / Nat.gcd (tA pp hh fr n (rm t0) (sd t0) (dr t0) (pe t0)) (tB pp fr n (rm t0) (sd t0))) else lN ((tB pp fr n (rm t0) (sd t0)) / Nat.gcd (tA pp hh fr n (rm t0) (sd t0) (dr t0) (pe t0)) (tB pp fr n (rm t0) (sd t0)))) (wB dC dI [(q 0, .inr (6, (mF q th F nt ab be))), (q 1, .inl (cI, 13, .inl (fun j => nI (pp j)))), (q 2, .inl (cI, 13, .inl (fun j => nI (hh j)))), (q 4, .inl (cI, 6, .inl (fun j => nI (rm j)))), (q 5, .inl (cI, 6, .inl (fun j => nI (sd j)))), (q 6, .inl (cI, 6, .inl (fun j => nI (dr j)))), (q 7, .inl (cI, 6, .inl (fun j => nI (pe j))))] [(q 0, .inr (6, (mF q (nI 0) F nt (lN ((tA pp hh fr n (rm t0) (sd t0) (dr t0) (pe t0)) / Nat.gcd (tA pp hh fr n (rm t0) (sd t0) (dr t0) (pe t0)) (tB pp fr n (rm t0) (sd t0)))) (lN ((tB pp fr n (rm t0) (sd t0)) / Nat.gcd (tA pp hh fr n (rm t0) (sd t0) (dr t0) (pe t0)) (tB pp fr n (rm t0) (sd t0))))))), (q 1, .inl (cI, 13, .inl (fun j => nI (pp j)))), (q 2, .inl (cI, 13, .inl (fun j => nI (hh j)))), (q 4, .inl (cI, 6, .inl (fun j => nI (rm j)))), (q 5, .inl (cI, 6, .inl (fun j => nI (sd j)))), (q 6, .inl (cI, 6, .inl (fun j => nI (dr j)))), (q 7, .inl (cI, 6, .inl (fun j => nI (pe j))))] sz) (va_A [(q 0, .inr (6, (mF q th F nt ab be))), (q 1, .inl (cI, 13, .inl (fun j => nI (pp j)))), (q 2, .inl (cI, 13, .inl (fun j => nI (hh j)))), (q 4, .inl (cI, 6, .inl (fun j => nI (rm j)))), (q 5, .inl (cI, 6, .inl (fun j => nI (sd j)))), (q 6, .inl (cI, 6, .inl (fun j => nI (dr j)))), (q 7, .inl (cI, 6, .inl (fun j => nI (pe j))))] sz)) 0 0 (va_A [(q 0, .inr (6, (mF q th F nt ab be))), (q 1, .inl (cI, 13, .inl (fun j => nI (pp j)))), (q 2, .inl (cI, 13, .inl (fun j => nI (hh j)))), (q 4, .inl (cI, 6, .inl (fun j => nI (rm j)))), (q 5, .inl (cI, 6, .inl (fun j => nI (sd j)))), (q 6, .inl (cI, 6, .inl (fun j => nI (dr j)))), (q 7, .inl (cI, 6, .inl (fun j => nI (pe j))))] sz) := by
  refine Met.ofW (cc := b_M_trip) (maxL := 5) (ret := (some .long)) (by decide) rfl ?_
  intro p e s m args below meth c s₁ B hml hv
  obtain ⟨rfl, hsz, hC, hP, hD0⟩ := hv
  have hx := B.exec
  have hb := B.bytes
  have hr := B.returns
  have hts : ∀ w ∈ gw, w.before ([.ref (q 0), .int (nI t0), .int (nI fr), .int (nI to), .int (nI pt)] : List Value).toArray s = true := fun w hw => atoms_spec (ws := Cond.code y_M_trip b_M_trip 5 (some .long) :: gw) B.pre w (List.mem_cons_of_mem _ hw)
  have hown : s.vm.findClass R_M = some m.cls := findClass_of_methodNamed B.named
  have hlocks := B.notSynchronized
  have hK := hC.1
  have hfr : 3 ≤ (headSpec (Cond.code y_M_trip b_M_trip 5 (some .long) :: gw) ({ frames := 3, cells := 0, slots := 0, locals := 87 } : Room)).room.frames := Nat.le_refl _
  have hlo : 87 ≤ (headSpec (Cond.code y_M_trip b_M_trip 5 (some .long) :: gw) ({ frames := 3, cells := 0, slots := 0, locals := 87 } : Room)).room.locals := Nat.le_refl _
  have hce : 0 ≤ (headSpec (Cond.code y_M_trip b_M_trip 5 (some .long) :: gw) ({ frames := 3, cells := 0, slots := 0, locals := 87 } : Room)).room.cells := Nat.zero_le _
  have hsl : 0 ≤ (headSpec (Cond.code y_M_trip b_M_trip 5 (some .long) :: gw) ({ frames := 3, cells := 0, slots := 0, locals := 87 } : Room)).room.slots := Nat.zero_le _
  subst hsz
  have hD := hD0.self (sz := s.heap.size)
  unfold wB
  generalize hAe : va_A [(q 0, .inr (6, (mF q th F nt ab be))), (q 1, .inl (cI, 13, .inl (fun j => nI (pp j)))), (q 2, .inl (cI, 13, .inl (fun j => nI (hh j)))), (q 4, .inl (cI, 6, .inl (fun j => nI (rm j)))), (q 5, .inl (cI, 6, .inl (fun j => nI (sd j)))), (q 6, .inl (cI, 6, .inl (fun j => nI (dr j)))), (q 7, .inl (cI, 6, .inl (fun j => nI (pe j))))] s.heap.size = A at hD ⊢
  have hA : ∀ q : Nat, s.heap.size ≤ q → A q := fun q h => by rw [← hAe]; exact Or.inr h
  have hS : va_S A s.heap s.heap [] := va_S.rf
  have hl := lv_entry ([.ref (q 0), .int (nI t0), .int (nI fr), .int (nI to), .int (nI pt)]) (n := 5) (Nat.le_of_ble_eq_true rfl)
  rw [lg_entry_eq]
  generalize (lg_sl ([.ref (q 0), .int (nI t0), .int (nI fr), .int (nI to), .int (nI pt)]) ++ List.replicate (5 - (lg_sl ([.ref (q 0), .int (nI t0), .int (nI fr), .int (nI to), .int (nI pt)])).length) Slot.unset).toArray = ls at hl ⊢
  have hl : lv_has ls 5 [(0, .ref (q 0)), (1, .int (nI t0)), (2, .int (nI fr)), (3, .int (nI to)), (4, .int (nI pt))] := hl
  have hz := zone_N ht0 hn6 hf1 hft htF hF12
  refine lv_aload_n hx hb d_M_trip_0 rfl (lv_at hl 0 rfl) ?_
  refine lv_aload_n hx hb d_M_trip_1 rfl (lv_at hl 0 rfl) ?_
  refine lv_iload_n hx hb d_M_trip_2 rfl (lv_at hl 1 rfl) ?_
  refine lv_iload_n hx hb d_M_trip_3 rfl (lv_at hl 2 rfl) ?_
  refine lv_iload_n hx hb d_M_trip_4 rfl (lv_at hl 3 rfl) ?_
  refine ro_calli (va_runV (As := [.int (nI t0), .int (nI fr), .int (nI to)]) (rest := [.ref (q 0)]) ⟨hx, hb, hml, hown, hts⟩ (c_M_noZone l q th F nt ab be (nI t0) (nI fr) (nI to) hF12 hn6) (cwV 3 hts (gw_V k_564 k_561 k_563 ks_M_noZone k_6) rfl rfl rfl (by decide +kernel) ⟨Nat.le_trans (Nat.le_of_ble_eq_true rfl) hfr, Nat.le_trans (Nat.le_of_ble_eq_true rfl) hlo⟩) ⟨pr_blind, va_recv hK hP (ci := 6) (q0 := 0) rfl rfl, pr_at hC (hP.sub (ws' := [(q 0, .inr (6, (mF q th F nt ab be)))]) [0] rfl)⟩ rfl rfl hl.1 rfl (lv_room (Nat.le_of_ble_eq_true rfl)) d_M_trip_5 ⟨hce, hsl⟩) (fun r9 h9 => ?_)
  subst h9
  refine nx_b_ne (tgt := 21) hx hb d_M_trip_8 (by decide) (fun h1 => ?_) (fun h1 => ?_)
  · exact absurd hz h1
  · refine lv_iload hx hb d_M_trip_11 (lv_at hl 4 rfl) ?_
    refine lv_iconst (v := nI 0) hx hb d_M_trip_13 (by decide) ?_
    refine lv_iconst (v := nI 1) hx hb d_M_trip_14 (by decide) ?_
    refine ro_calli (va_runS (As := [.int (nI pt), .int (nI 0), .int (nI 1)]) (rest := [.ref (q 0)]) ⟨hx, hb, hml, hown, hts⟩ (c_M_isInN l pt 0 1 (by omega) (by decide) (by decide)) (cwS 3 hts (gw_S k_539 k_537 k_538 k_6) rfl rfl rfl (by decide +kernel) ⟨Nat.le_trans (Nat.le_of_ble_eq_true rfl) hfr, Nat.le_trans (Nat.le_of_ble_eq_true rfl) hlo⟩) ⟨pr_blind, pr_at hC (fun k q h => by simp at h)⟩ rfl rfl hl.1 rfl (lv_room (Nat.le_of_ble_eq_true rfl)) d_M_trip_15 ⟨hce, hsl⟩) (fun r9 h9 => ?_)
    subst h9
    refine nx_b_ne (tgt := 25) hx hb d_M_trip_18 (by decide) (fun h2 => ?_) (fun h2 => ?_)
    · refine lv_iconst (v := nI 0) hx hb d_M_trip_25 (by decide) ?_
      refine va_put (D := (dC, dI)) (ci := 6) (v := .int (nI 0)) (ty := (.int)) (C := R_M) (T := F_M) (N := 17) hx hb hts i_M ft_M ft_M_ok n_M hown hK hP hD hS 0 rfl rfl 0 (by decide) (hts _ k_477) (fun _ h9 => h9) rfl (by decide +kernel) rfl rfl (Nat.le_of_ble_eq_true rfl) d_M_trip_26 (fun H locs hP hD hS => ?_)
      have hP : va_P (dC, dI) vwCl [(q 0, .inr (6, (mF q (nI 0) F nt ab be))), (q 1, .inl (cI, 13, .inl (fun j => nI (pp j)))), (q 2, .inl (cI, 13, .inl (fun j => nI (hh j)))), (q 4, .inl (cI, 6, .inl (fun j => nI (rm j)))), (q 5, .inl (cI, 6, .inl (fun j => nI (sd j)))), (q 6, .inl (cI, 6, .inl (fun j => nI (dr j)))), (q 7, .inl (cI, 6, .inl (fun j => nI (pe j))))] H := hP
      have hD : va_D A [(q 0, .inr (6, (mF q (nI 0) F nt ab be))), (q 1, .inl (cI, 13, .inl (fun j => nI (pp j)))), (q 2, .inl (cI, 13, .inl (fun j => nI (hh j)))), (q 4, .inl (cI, 6, .inl (fun j => nI (rm j)))), (q 5, .inl (cI, 6, .inl (fun j => nI (sd j)))), (q 6, .inl (cI, 6, .inl (fun j => nI (dr j)))), (q 7, .inl (cI, 6, .inl (fun j => nI (pe j))))] := hD
      refine lv_aload_n hx hb d_M_trip_29 rfl (lv_at hl 0 rfl) ?_
      refine va_get (D := (dC, dI)) (ci := 6) (v := .int (nI 0)) (C := R_M) (T := F_M) (N := 17) hx hb hts i_M hown hK hP 0 rfl rfl 0 (by decide) (hts _ k_477) (fun _ h9 => h9) rfl d_M_trip_30 ?_
      refine nx_if_le (tgt := 38) hx hb d_M_trip_33 (by decide) (by omega) (fun h9 => ?_) (fun h9 => ?_)
      · refine lv_aload_n hx hb d_M_trip_38 rfl (lv_at hl 0 rfl) ?_
        refine lv_iload_n hx hb d_M_trip_39 rfl (lv_at hl 1 rfl) ?_
        refine lv_iload_n hx hb d_M_trip_40 rfl (lv_at hl 2 rfl) ?_
        refine lv_iload_n hx hb d_M_trip_41 rfl (lv_at hl 3 rfl) ?_
        have hPc := hP.sub (ws' := [(q 0, .inr (6, (mF q (nI 0) F nt ab be))), (q 1, .inl (cI, 13, .inl (fun j => nI (pp j)))), (q 2, .inl (cI, 13, .inl (fun j => nI (hh j)))), (q 4, .inl (cI, 6, .inl (fun j => nI (rm j)))), (q 5, .inl (cI, 6, .inl (fun j => nI (sd j)))), (q 6, .inl (cI, 6, .inl (fun j => nI (dr j)))), (q 7, .inl (cI, 6, .inl (fun j => nI (pe j))))]) [0, 1, 2, 3, 4, 5, 6] rfl
        have hDc := hD.sub (ws' := [(q 0, .inr (6, (mF q (nI 0) F nt ab be))), (q 1, .inl (cI, 13, .inl (fun j => nI (pp j)))), (q 2, .inl (cI, 13, .inl (fun j => nI (hh j)))), (q 4, .inl (cI, 6, .inl (fun j => nI (rm j)))), (q 5, .inl (cI, 6, .inl (fun j => nI (sd j)))), (q 6, .inl (cI, 6, .inl (fun j => nI (dr j)))), (q 7, .inl (cI, 6, .inl (fun j => nI (pe j))))]) [0, 1, 2, 3, 4, 5, 6] (by decide) rfl
        have hFc := va_free (wc := [(q 0, .inr (6, (mF q (nI 0) F nt ab be))), (q 1, .inl (cI, 13, .inl (fun j => nI (pp j)))), (q 2, .inl (cI, 13, .inl (fun j => nI (hh j)))), (q 4, .inl (cI, 6, .inl (fun j => nI (rm j)))), (q 5, .inl (cI, 6, .inl (fun j => nI (sd j)))), (q 6, .inl (cI, 6, .inl (fun j => nI (dr j)))), (q 7, .inl (cI, 6, .inl (fun j => nI (pe j))))]) hD hS hA [0, 1, 2, 3, 4, 5, 6] rfl
        refine va_callv (va_runV (As := [.int (nI t0), .int (nI fr), .int (nI to)]) (rest := []) ⟨hx, hb, hml, hown, hts⟩ (c_M_reckonTrip l _ q (nI 0) F nt ab be pp hh rm sd dr pe t0 fr to n (by omega) hn (by omega) (by omega) hU2 hhh hrm hsd hdr hpe) (cwV 3 hts (gw_V k_599 k_596 k_598 ks_M_reckonTrip k_6) rfl rfl rfl (by decide +kernel) ⟨Nat.le_trans (Nat.le_of_ble_eq_true rfl) hfr, Nat.le_trans (Nat.le_of_ble_eq_true rfl) hlo⟩) ⟨wr_blind, va_recv hK hP (ci := 6) (q0 := 0) rfl rfl, wr_at hC hPc hDc⟩ rfl rfl hl.1 rfl (lv_room (Nat.le_of_ble_eq_true rfl)) d_M_trip_42 ⟨hce, hsl⟩) hS (fun q _ h => hFc q h) hFc (fun u t H1 locs ht hvm hw hB hz1 hk1 hS => ?_)
        obtain ⟨hP1, hD1⟩ := hB
        rw [ht] at hP1
        obtain ⟨hP, hD⟩ := va_join (wr := []) (w1 := [(q 0, .inr (6, (mF q (nI 0) F nt (lN ((tA pp hh fr n (rm t0) (sd t0) (dr t0) (pe t0)) / Nat.gcd (tA pp hh fr n (rm t0) (sd t0) (dr t0) (pe t0)) (tB pp fr n (rm t0) (sd t0)))) (lN ((tB pp fr n (rm t0) (sd t0)) / Nat.gcd (tA pp hh fr n (rm t0) (sd t0) (dr t0) (pe t0)) (tB pp fr n (rm t0) (sd t0))))))), (q 1, .inl (cI, 13, .inl (fun j => nI (pp j)))), (q 2, .inl (cI, 13, .inl (fun j => nI (hh j)))), (q 4, .inl (cI, 6, .inl (fun j => nI (rm j)))), (q 5, .inl (cI, 6, .inl (fun j => nI (sd j)))), (q 6, .inl (cI, 6, .inl (fun j => nI (dr j)))), (q 7, .inl (cI, 6, .inl (fun j => nI (pe j))))]) hP hD [0, 1, 2, 3, 4, 5, 6] [] rfl rfl (by decide) (by decide) hk1 hFc hP1 hD1
        generalize H1 = H at hP hS ⊢
        have hP := hP.sub (ws' := [(q 0, .inr (6, (mF q (nI 0) F nt (lN ((tA pp hh fr n (rm t0) (sd t0) (dr t0) (pe t0)) / Nat.gcd (tA pp hh fr n (rm t0) (sd t0) (dr t0) (pe t0)) (tB pp fr n (rm t0) (sd t0)))) (lN ((tB pp fr n (rm t0) (sd t0)) / Nat.gcd (tA pp hh fr n (rm t0) (sd t0) (dr t0) (pe t0)) (tB pp fr n (rm t0) (sd t0))))))), (q 1, .inl (cI, 13, .inl (fun j => nI (pp j)))), (q 2, .inl (cI, 13, .inl (fun j => nI (hh j)))), (q 4, .inl (cI, 6, .inl (fun j => nI (rm j)))), (q 5, .inl (cI, 6, .inl (fun j => nI (sd j)))), (q 6, .inl (cI, 6, .inl (fun j => nI (dr j)))), (q 7, .inl (cI, 6, .inl (fun j => nI (pe j))))]) [0, 1, 2, 3, 4, 5, 6] rfl
        have hD := hD.sub (ws' := [(q 0, .inr (6, (mF q (nI 0) F nt (lN ((tA pp hh fr n (rm t0) (sd t0) (dr t0) (pe t0)) / Nat.gcd (tA pp hh fr n (rm t0) (sd t0) (dr t0) (pe t0)) (tB pp fr n (rm t0) (sd t0)))) (lN ((tB pp fr n (rm t0) (sd t0)) / Nat.gcd (tA pp hh fr n (rm t0) (sd t0) (dr t0) (pe t0)) (tB pp fr n (rm t0) (sd t0))))))), (q 1, .inl (cI, 13, .inl (fun j => nI (pp j)))), (q 2, .inl (cI, 13, .inl (fun j => nI (hh j)))), (q 4, .inl (cI, 6, .inl (fun j => nI (rm j)))), (q 5, .inl (cI, 6, .inl (fun j => nI (sd j)))), (q 6, .inl (cI, 6, .inl (fun j => nI (dr j)))), (q 7, .inl (cI, 6, .inl (fun j => nI (pe j))))]) [0, 1, 2, 3, 4, 5, 6] (by decide) rfl
        refine lv_aload_n hx hb d_M_trip_45 rfl (lv_at hl 0 rfl) ?_
        refine lv_iload hx hb d_M_trip_46 (lv_at hl 4 rfl) ?_
        refine ro_calll (va_runV (As := [.int (nI pt)]) (rest := []) ⟨hx, hb, hml, hown, hts⟩ (c_M_part l q (nI 0) F nt (lN ((tA pp hh fr n (rm t0) (sd t0) (dr t0) (pe t0)) / Nat.gcd (tA pp hh fr n (rm t0) (sd t0) (dr t0) (pe t0)) (tB pp fr n (rm t0) (sd t0)))) (lN ((tB pp fr n (rm t0) (sd t0)) / Nat.gcd (tA pp hh fr n (rm t0) (sd t0) (dr t0) (pe t0)) (tB pp fr n (rm t0) (sd t0)))) pt hpt) (cwV 1 hts (gw_V k_583 k_580 k_582 ks_M_part k_6) rfl rfl rfl (by decide +kernel) ⟨Nat.le_trans (Nat.le_of_ble_eq_true rfl) hfr, Nat.le_trans (Nat.le_of_ble_eq_true rfl) hlo⟩) ⟨pr_blind, va_recv hK hP (ci := 6) (q0 := 0) rfl rfl, pr_at hC (hP.sub (ws' := [(q 0, .inr (6, (mF q (nI 0) F nt (lN ((tA pp hh fr n (rm t0) (sd t0) (dr t0) (pe t0)) / Nat.gcd (tA pp hh fr n (rm t0) (sd t0) (dr t0) (pe t0)) (tB pp fr n (rm t0) (sd t0)))) (lN ((tB pp fr n (rm t0) (sd t0)) / Nat.gcd (tA pp hh fr n (rm t0) (sd t0) (dr t0) (pe t0)) (tB pp fr n (rm t0) (sd t0)))))))]) [0] rfl)⟩ rfl rfl hl.1 rfl (lv_room (Nat.le_of_ble_eq_true rfl)) d_M_trip_48 ⟨hce, hsl⟩) (fun r9 h9 => ?_)
        subst h9
        exact W.lret hx hb hr (fun t ht hW => ⟨⟨_, (), rfl, rfl, by rw [ht]; exact hP, hD⟩, hS.F ht⟩) hS.2.2 d_M_trip_51
      · exact absurd h9 (by omega)
    · exact absurd (show 0 ≤ pt ∧ pt ≤ 1 by omega) h2
set_option maxHeartbeats 4000000 in
set_option maxRecDepth 100000 in
theorem c_M_compare_b1 (l : Launch) {dC : Nat → ClassId} {dI : Nat → Nat → Nat} {cI cL cT : ClassId} {sa : Nat → Nat} (sz : Nat) (q : Nat → Nat) (th : Int32) (F nt : Nat) (ab be : Int64) (pp hh rm sd dr pe : Nat → Nat) (p0 p1 p2 p3 : Int32) (hF12 : F ≤ 12) (hn6 : nt ≤ 6) (hbad : ¬ (okTy nt p0 ∧ okTy nt p1 ∧ okFl F p2 ∧ okFl F p3 ∧ p2.toInt ≤ p3.toInt)) : Met l y_M_compare (Cond.code y_M_compare b_M_compare 9 (some .int) :: gw) ({ frames := 3, cells := 0, slots := 0, locals := 87 } : Room) (wr dC dI cI cL cT sa [.ref (q 0), .int p0, .int p1, .int p2, .int p3] [(q 0, .inr (6, (mF q th F nt ab be))), (q 1, .inl (cI, 13, .inl (fun j => nI (pp j)))), (q 2, .inl (cI, 13, .inl (fun j => nI (hh j)))), (q 4, .inl (cI, 6, .inl (fun j => nI (rm j)))), (q 5, .inl (cI, 6, .inl (fun j => nI (sd j)))), (q 6, .inl (cI, 6, .inl (fun j => nI (dr j)))), (q 7, .inl (cI, 6, .inl (fun j => nI (pe j))))] sz) (va_Qi (fun r (_ : Unit) => r = nI 0) (wB dC dI [(q 0, .inr (6, (mF q th F nt ab be))), (q 1, .inl (cI, 13, .inl (fun j => nI (pp j)))), (q 2, .inl (cI, 13, .inl (fun j => nI (hh j)))), (q 4, .inl (cI, 6, .inl (fun j => nI (rm j)))), (q 5, .inl (cI, 6, .inl (fun j => nI (sd j)))), (q 6, .inl (cI, 6, .inl (fun j => nI (dr j)))), (q 7, .inl (cI, 6, .inl (fun j => nI (pe j))))] [(q 0, .inr (6, (mF q (nI 1) F nt ab be))), (q 1, .inl (cI, 13, .inl (fun j => nI (pp j)))), (q 2, .inl (cI, 13, .inl (fun j => nI (hh j)))), (q 4, .inl (cI, 6, .inl (fun j => nI (rm j)))), (q 5, .inl (cI, 6, .inl (fun j => nI (sd j)))), (q 6, .inl (cI, 6, .inl (fun j => nI (dr j)))), (q 7, .inl (cI, 6, .inl (fun j => nI (pe j))))] sz) (va_A [(q 0, .inr (6, (mF q th F nt ab be))), (q 1, .inl (cI, 13, .inl (fun j => nI (pp j)))), (q 2, .inl (cI, 13, .inl (fun j => nI (hh j)))), (q 4, .inl (cI, 6, .inl (fun j => nI (rm j)))), (q 5, .inl (cI, 6, .inl (fun j => nI (sd j)))), (q 6, .inl (cI, 6, .inl (fun j => nI (dr j)))), (q 7, .inl (cI, 6, .inl (fun j => nI (pe j))))] sz)) 0 0 (va_A [(q 0, .inr (6, (mF q th F nt ab be))), (q 1, .inl (cI, 13, .inl (fun j => nI (pp j)))), (q 2, .inl (cI, 13, .inl (fun j => nI (hh j)))), (q 4, .inl (cI, 6, .inl (fun j => nI (rm j)))), (q 5, .inl (cI, 6, .inl (fun j => nI (sd j)))), (q 6, .inl (cI, 6, .inl (fun j => nI (dr j)))), (q 7, .inl (cI, 6, .inl (fun j => nI (pe j))))] sz) := by
  refine Met.ofW (cc := b_M_compare) (maxL := 9) (ret := (some .int)) (by decide) rfl ?_
  intro p e s m args below meth c s₁ B hml hv
  obtain ⟨rfl, hsz, hC, hP, hD0⟩ := hv
  have hx := B.exec
  have hb := B.bytes
  have hr := B.returns
  have hts : ∀ w ∈ gw, w.before ([.ref (q 0), .int p0, .int p1, .int p2, .int p3] : List Value).toArray s = true := fun w hw => atoms_spec (ws := Cond.code y_M_compare b_M_compare 9 (some .int) :: gw) B.pre w (List.mem_cons_of_mem _ hw)
  have hown : s.vm.findClass R_M = some m.cls := findClass_of_methodNamed B.named
  have hlocks := B.notSynchronized
  have hK := hC.1
  have hfr : 3 ≤ (headSpec (Cond.code y_M_compare b_M_compare 9 (some .int) :: gw) ({ frames := 3, cells := 0, slots := 0, locals := 87 } : Room)).room.frames := Nat.le_refl _
  have hlo : 87 ≤ (headSpec (Cond.code y_M_compare b_M_compare 9 (some .int) :: gw) ({ frames := 3, cells := 0, slots := 0, locals := 87 } : Room)).room.locals := Nat.le_refl _
  have hce : 0 ≤ (headSpec (Cond.code y_M_compare b_M_compare 9 (some .int) :: gw) ({ frames := 3, cells := 0, slots := 0, locals := 87 } : Room)).room.cells := Nat.zero_le _
  have hsl : 0 ≤ (headSpec (Cond.code y_M_compare b_M_compare 9 (some .int) :: gw) ({ frames := 3, cells := 0, slots := 0, locals := 87 } : Room)).room.slots := Nat.zero_le _
  subst hsz
  have hD := hD0.self (sz := s.heap.size)
  unfold wB
  generalize hAe : va_A [(q 0, .inr (6, (mF q th F nt ab be))), (q 1, .inl (cI, 13, .inl (fun j => nI (pp j)))), (q 2, .inl (cI, 13, .inl (fun j => nI (hh j)))), (q 4, .inl (cI, 6, .inl (fun j => nI (rm j)))), (q 5, .inl (cI, 6, .inl (fun j => nI (sd j)))), (q 6, .inl (cI, 6, .inl (fun j => nI (dr j)))), (q 7, .inl (cI, 6, .inl (fun j => nI (pe j))))] s.heap.size = A at hD ⊢
  have hA : ∀ q : Nat, s.heap.size ≤ q → A q := fun q h => by rw [← hAe]; exact Or.inr h
  have hS : va_S A s.heap s.heap [] := va_S.rf
  have hl := lv_entry ([.ref (q 0), .int p0, .int p1, .int p2, .int p3]) (n := 9) (Nat.le_of_ble_eq_true rfl)
  rw [lg_entry_eq]
  generalize (lg_sl ([.ref (q 0), .int p0, .int p1, .int p2, .int p3]) ++ List.replicate (9 - (lg_sl ([.ref (q 0), .int p0, .int p1, .int p2, .int p3])).length) Slot.unset).toArray = ls at hl ⊢
  have hl : lv_has ls 9 [(0, .ref (q 0)), (1, .int p0), (2, .int p1), (3, .int p2), (4, .int p3)] := hl
  refine lv_aload_n hx hb d_M_compare_0 rfl (lv_at hl 0 rfl) ?_
  refine lv_aload_n hx hb d_M_compare_1 rfl (lv_at hl 0 rfl) ?_
  refine lv_iload_n hx hb d_M_compare_2 rfl (lv_at hl 1 rfl) ?_
  refine lv_iload_n hx hb d_M_compare_3 rfl (lv_at hl 3 rfl) ?_
  refine lv_iload hx hb d_M_compare_4 (lv_at hl 4 rfl) ?_
  refine ro_calli (va_runV (As := [.int p0, .int p2, .int p3]) (rest := [.ref (q 0)]) ⟨hx, hb, hml, hown, hts⟩ (c_M_noZone l q th F nt ab be p0 p2 p3 hF12 hn6) (cwV 3 hts (gw_V k_564 k_561 k_563 ks_M_noZone k_6) rfl rfl rfl (by decide +kernel) ⟨Nat.le_trans (Nat.le_of_ble_eq_true rfl) hfr, Nat.le_trans (Nat.le_of_ble_eq_true rfl) hlo⟩) ⟨pr_blind, va_recv hK hP (ci := 6) (q0 := 0) rfl rfl, pr_at hC (hP.sub (ws' := [(q 0, .inr (6, (mF q th F nt ab be)))]) [0] rfl)⟩ rfl rfl hl.1 rfl (lv_room (Nat.le_of_ble_eq_true rfl)) d_M_compare_6 ⟨hce, hsl⟩) (fun r9 h9 => ?_)
  subst h9
  refine nx_b_ne (tgt := 26) hx hb d_M_compare_9 (by decide) (fun h1 => ?_) (fun h1 => ?_)
  · refine lv_iconst (v := nI 1) hx hb d_M_compare_26 (by decide) ?_
    refine lv_goto (tgt := 31) hx hb d_M_compare_27 (by decide) ?_
    refine va_put (D := (dC, dI)) (ci := 6) (v := .int (nI 1)) (ty := (.int)) (C := R_M) (T := F_M) (N := 17) hx hb hts i_M ft_M ft_M_ok n_M hown hK hP hD hS 0 rfl rfl 0 (by decide) (hts _ k_477) (fun _ h9 => h9) rfl (by decide +kernel) rfl rfl (Nat.le_of_ble_eq_true rfl) d_M_compare_31 (fun H locs hP hD hS => ?_)
    have hP : va_P (dC, dI) vwCl [(q 0, .inr (6, (mF q (nI 1) F nt ab be))), (q 1, .inl (cI, 13, .inl (fun j => nI (pp j)))), (q 2, .inl (cI, 13, .inl (fun j => nI (hh j)))), (q 4, .inl (cI, 6, .inl (fun j => nI (rm j)))), (q 5, .inl (cI, 6, .inl (fun j => nI (sd j)))), (q 6, .inl (cI, 6, .inl (fun j => nI (dr j)))), (q 7, .inl (cI, 6, .inl (fun j => nI (pe j))))] H := hP
    have hD : va_D A [(q 0, .inr (6, (mF q (nI 1) F nt ab be))), (q 1, .inl (cI, 13, .inl (fun j => nI (pp j)))), (q 2, .inl (cI, 13, .inl (fun j => nI (hh j)))), (q 4, .inl (cI, 6, .inl (fun j => nI (rm j)))), (q 5, .inl (cI, 6, .inl (fun j => nI (sd j)))), (q 6, .inl (cI, 6, .inl (fun j => nI (dr j)))), (q 7, .inl (cI, 6, .inl (fun j => nI (pe j))))] := hD
    refine lv_aload_n hx hb d_M_compare_34 rfl (lv_at hl 0 rfl) ?_
    refine va_get (D := (dC, dI)) (ci := 6) (v := .int (nI 1)) (C := R_M) (T := F_M) (N := 17) hx hb hts i_M hown hK hP 0 rfl rfl 0 (by decide) (hts _ k_477) (fun _ h9 => h9) rfl d_M_compare_35 ?_
    refine nx_if_le (tgt := 43) hx hb d_M_compare_38 (by decide) (by omega) (fun h9 => ?_) (fun h9 => ?_)
    · exact absurd h9 (by omega)
    · refine lv_iconst (v := nI 0) hx hb d_M_compare_41 (by decide) ?_
      exact W.iret hx hb hr (fun t ht hW => ⟨⟨_, (), rfl, rfl, by rw [ht]; exact hP, hD⟩, hS.F ht⟩) hS.2.2 d_M_compare_42
  · refine lv_iload_n hx hb d_M_compare_12 rfl (lv_at hl 2 rfl) ?_
    refine lv_iconst (v := nI 0) hx hb d_M_compare_13 (by decide) ?_
    refine lv_aload_n hx hb d_M_compare_14 rfl (lv_at hl 0 rfl) ?_
    refine va_get (D := (dC, dI)) (ci := 6) (v := .int (nI nt)) (C := R_M) (T := F_M) (N := 17) hx hb hts i_M hown hK hP 0 rfl rfl 9 (by decide) (hts _ k_486) (fun _ h9 => h9) rfl d_M_compare_15 ?_
    refine lv_iconst (v := nI 1) hx hb d_M_compare_18 (by decide) ?_
    refine lv_isub hx hb d_M_compare_19 ?_
    refine ro_calli (va_runS (As := [.int p1, .int (nI 0), .int (nI nt - nI 1)]) (rest := [.ref (q 0)]) ⟨hx, hb, hml, hown, hts⟩ (c_M_isIn l p1 (nI 0) (nI nt - nI 1) 0 ((nt : Int) - 1) (nI_toInt (by decide)) (by rw [pk_sub_toInt (by omega) (by decide)]; rfl)) (cwS 3 hts (gw_S k_539 k_537 k_538 k_6) rfl rfl rfl (by decide +kernel) ⟨Nat.le_trans (Nat.le_of_ble_eq_true rfl) hfr, Nat.le_trans (Nat.le_of_ble_eq_true rfl) hlo⟩) ⟨pr_blind, pr_at hC (fun k q h => by simp at h)⟩ rfl rfl hl.1 rfl (lv_room (Nat.le_of_ble_eq_true rfl)) d_M_compare_20 ⟨hce, hsl⟩) (fun r9 h9 => ?_)
    subst h9
    refine nx_b_ne (tgt := 30) hx hb d_M_compare_23 (by decide) (fun h2 => ?_) (fun h2 => ?_)
    · have h3 := Classical.not_not.mp h1
      exact absurd ⟨h3.1, (by unfold okTy; omega), h3.2⟩ hbad
    · refine lv_iconst (v := nI 1) hx hb d_M_compare_26 (by decide) ?_
      refine lv_goto (tgt := 31) hx hb d_M_compare_27 (by decide) ?_
      refine va_put (D := (dC, dI)) (ci := 6) (v := .int (nI 1)) (ty := (.int)) (C := R_M) (T := F_M) (N := 17) hx hb hts i_M ft_M ft_M_ok n_M hown hK hP hD hS 0 rfl rfl 0 (by decide) (hts _ k_477) (fun _ h9 => h9) rfl (by decide +kernel) rfl rfl (Nat.le_of_ble_eq_true rfl) d_M_compare_31 (fun H locs hP hD hS => ?_)
      have hP : va_P (dC, dI) vwCl [(q 0, .inr (6, (mF q (nI 1) F nt ab be))), (q 1, .inl (cI, 13, .inl (fun j => nI (pp j)))), (q 2, .inl (cI, 13, .inl (fun j => nI (hh j)))), (q 4, .inl (cI, 6, .inl (fun j => nI (rm j)))), (q 5, .inl (cI, 6, .inl (fun j => nI (sd j)))), (q 6, .inl (cI, 6, .inl (fun j => nI (dr j)))), (q 7, .inl (cI, 6, .inl (fun j => nI (pe j))))] H := hP
      have hD : va_D A [(q 0, .inr (6, (mF q (nI 1) F nt ab be))), (q 1, .inl (cI, 13, .inl (fun j => nI (pp j)))), (q 2, .inl (cI, 13, .inl (fun j => nI (hh j)))), (q 4, .inl (cI, 6, .inl (fun j => nI (rm j)))), (q 5, .inl (cI, 6, .inl (fun j => nI (sd j)))), (q 6, .inl (cI, 6, .inl (fun j => nI (dr j)))), (q 7, .inl (cI, 6, .inl (fun j => nI (pe j))))] := hD
      refine lv_aload_n hx hb d_M_compare_34 rfl (lv_at hl 0 rfl) ?_
      refine va_get (D := (dC, dI)) (ci := 6) (v := .int (nI 1)) (C := R_M) (T := F_M) (N := 17) hx hb hts i_M hown hK hP 0 rfl rfl 0 (by decide) (hts _ k_477) (fun _ h9 => h9) rfl d_M_compare_35 ?_
      refine nx_if_le (tgt := 43) hx hb d_M_compare_38 (by decide) (by omega) (fun h9 => ?_) (fun h9 => ?_)
      · exact absurd h9 (by omega)
      · refine lv_iconst (v := nI 0) hx hb d_M_compare_41 (by decide) ?_
        exact W.iret hx hb hr (fun t ht hW => ⟨⟨_, (), rfl, rfl, by rw [ht]; exact hP, hD⟩, hS.F ht⟩) hS.2.2 d_M_compare_42
set_option maxHeartbeats 4000000 in
set_option maxRecDepth 100000 in
theorem c_M_compare (l : Launch) {dC : Nat → ClassId} {dI : Nat → Nat → Nat} {cI cL cT : ClassId} {sa : Nat → Nat} (sz : Nat) (q : Nat → Nat) (th : Int32) (F nt : Nat) (ab be : Int64) (pp hh rm sd dr pe : Nat → Nat) (t0 t1 fr to n : Nat) (hF12 : F ≤ 12) (hn6 : nt ≤ 6) (ht0 : t0 < nt) (hf1 : 1 ≤ fr) (hft : fr ≤ to) (htF : to ≤ F) (hn : to + 1 = fr + n) (hU2 : sm pp fr n ≤ 200) (hhh : ∀ k, k < n → hh (fr + k) ≤ 1200) (hrm : 1 ≤ rm t0 ∧ rm t0 ≤ 5) (hsd : 1 ≤ sd t0 ∧ sd t0 ≤ 100) (hdr : dr t0 ≤ 30) (hpe : pe t0 ≤ 10) (ht1 : t1 < nt) (hrm1 : 1 ≤ rm t1 ∧ rm t1 ≤ 5) (hsd1 : 1 ≤ sd t1 ∧ sd t1 ≤ 100) (hdr1 : dr t1 ≤ 30) (hpe1 : pe t1 ≤ 10) : Met l y_M_compare (Cond.code y_M_compare b_M_compare 9 (some .int) :: gw) ({ frames := 3, cells := 0, slots := 0, locals := 87 } : Room) (wr dC dI cI cL cT sa [.ref (q 0), .int (nI t0), .int (nI t1), .int (nI fr), .int (nI to)] [(q 0, .inr (6, (mF q th F nt ab be))), (q 1, .inl (cI, 13, .inl (fun j => nI (pp j)))), (q 2, .inl (cI, 13, .inl (fun j => nI (hh j)))), (q 4, .inl (cI, 6, .inl (fun j => nI (rm j)))), (q 5, .inl (cI, 6, .inl (fun j => nI (sd j)))), (q 6, .inl (cI, 6, .inl (fun j => nI (dr j)))), (q 7, .inl (cI, 6, .inl (fun j => nI (pe j))))] sz) (va_Qi (fun r (_ : Unit) => r = kI (ma_cmp ((tA pp hh fr n (rm t0) (sd t0) (dr t0) (pe t0)) * (tB pp fr n (rm t1) (sd t1))) ((tA pp hh fr n (rm t1) (sd t1) (dr t1) (pe t1)) * (tB pp fr n (rm t0) (sd t0))))) (wB dC dI [(q 0, .inr (6, (mF q th F nt ab be))), (q 1, .inl (cI, 13, .inl (fun j => nI (pp j)))), (q 2, .inl (cI, 13, .inl (fun j => nI (hh j)))), (q 4, .inl (cI, 6, .inl (fun j => nI (rm j)))), (q 5, .inl (cI, 6, .inl (fun j => nI (sd j)))), (q 6, .inl (cI, 6, .inl (fun j => nI (dr j)))), (q 7, .inl (cI, 6, .inl (fun j => nI (pe j))))] [(q 0, .inr (6, (mF q (nI 0) F nt (lN ((tA pp hh fr n (rm t1) (sd t1) (dr t1) (pe t1)) / Nat.gcd (tA pp hh fr n (rm t1) (sd t1) (dr t1) (pe t1)) (tB pp fr n (rm t1) (sd t1)))) (lN ((tB pp fr n (rm t1) (sd t1)) / Nat.gcd (tA pp hh fr n (rm t1) (sd t1) (dr t1) (pe t1)) (tB pp fr n (rm t1) (sd t1))))))), (q 1, .inl (cI, 13, .inl (fun j => nI (pp j)))), (q 2, .inl (cI, 13, .inl (fun j => nI (hh j)))), (q 4, .inl (cI, 6, .inl (fun j => nI (rm j)))), (q 5, .inl (cI, 6, .inl (fun j => nI (sd j)))), (q 6, .inl (cI, 6, .inl (fun j => nI (dr j)))), (q 7, .inl (cI, 6, .inl (fun j => nI (pe j))))] sz) (va_A [(q 0, .inr (6, (mF q th F nt ab be))), (q 1, .inl (cI, 13, .inl (fun j => nI (pp j)))), (q 2, .inl (cI, 13, .inl (fun j => nI (hh j)))), (q 4, .inl (cI, 6, .inl (fun j => nI (rm j)))), (q 5, .inl (cI, 6, .inl (fun j => nI (sd j)))), (q 6, .inl (cI, 6, .inl (fun j => nI (dr j)))), (q 7, .inl (cI, 6, .inl (fun j => nI (pe j))))] sz)) 0 0 (va_A [(q 0, .inr (6, (mF q th F nt ab be))), (q 1, .inl (cI, 13, .inl (fun j => nI (pp j)))), (q 2, .inl (cI, 13, .inl (fun j => nI (hh j)))), (q 4, .inl (cI, 6, .inl (fun j => nI (rm j)))), (q 5, .inl (cI, 6, .inl (fun j => nI (sd j)))), (q 6, .inl (cI, 6, .inl (fun j => nI (dr j)))), (q 7, .inl (cI, 6, .inl (fun j => nI (pe j))))] sz) := by
  refine Met.ofW (cc := b_M_compare) (maxL := 9) (ret := (some .int)) (by decide) rfl ?_
  intro p e s m args below meth c s₁ B hml hv
  obtain ⟨rfl, hsz, hC, hP, hD0⟩ := hv
  have hx := B.exec
  have hb := B.bytes
  have hr := B.returns
  have hts : ∀ w ∈ gw, w.before ([.ref (q 0), .int (nI t0), .int (nI t1), .int (nI fr), .int (nI to)] : List Value).toArray s = true := fun w hw => atoms_spec (ws := Cond.code y_M_compare b_M_compare 9 (some .int) :: gw) B.pre w (List.mem_cons_of_mem _ hw)
  have hown : s.vm.findClass R_M = some m.cls := findClass_of_methodNamed B.named
  have hlocks := B.notSynchronized
  have hK := hC.1
  have hfr : 3 ≤ (headSpec (Cond.code y_M_compare b_M_compare 9 (some .int) :: gw) ({ frames := 3, cells := 0, slots := 0, locals := 87 } : Room)).room.frames := Nat.le_refl _
  have hlo : 87 ≤ (headSpec (Cond.code y_M_compare b_M_compare 9 (some .int) :: gw) ({ frames := 3, cells := 0, slots := 0, locals := 87 } : Room)).room.locals := Nat.le_refl _
  have hce : 0 ≤ (headSpec (Cond.code y_M_compare b_M_compare 9 (some .int) :: gw) ({ frames := 3, cells := 0, slots := 0, locals := 87 } : Room)).room.cells := Nat.zero_le _
  have hsl : 0 ≤ (headSpec (Cond.code y_M_compare b_M_compare 9 (some .int) :: gw) ({ frames := 3, cells := 0, slots := 0, locals := 87 } : Room)).room.slots := Nat.zero_le _
  subst hsz
  have hD := hD0.self (sz := s.heap.size)
  unfold wB
  generalize hAe : va_A [(q 0, .inr (6, (mF q th F nt ab be))), (q 1, .inl (cI, 13, .inl (fun j => nI (pp j)))), (q 2, .inl (cI, 13, .inl (fun j => nI (hh j)))), (q 4, .inl (cI, 6, .inl (fun j => nI (rm j)))), (q 5, .inl (cI, 6, .inl (fun j => nI (sd j)))), (q 6, .inl (cI, 6, .inl (fun j => nI (dr j)))), (q 7, .inl (cI, 6, .inl (fun j => nI (pe j))))] s.heap.size = A at hD ⊢
  have hA : ∀ q : Nat, s.heap.size ≤ q → A q := fun q h => by rw [← hAe]; exact Or.inr h
  have hS : va_S A s.heap s.heap [] := va_S.rf
  have hl := lv_entry ([.ref (q 0), .int (nI t0), .int (nI t1), .int (nI fr), .int (nI to)]) (n := 9) (Nat.le_of_ble_eq_true rfl)
  rw [lg_entry_eq]
  generalize (lg_sl ([.ref (q 0), .int (nI t0), .int (nI t1), .int (nI fr), .int (nI to)]) ++ List.replicate (9 - (lg_sl ([.ref (q 0), .int (nI t0), .int (nI t1), .int (nI fr), .int (nI to)])).length) Slot.unset).toArray = ls at hl ⊢
  have hl : lv_has ls 9 [(0, .ref (q 0)), (1, .int (nI t0)), (2, .int (nI t1)), (3, .int (nI fr)), (4, .int (nI to))] := hl
  have hlt0 : tA pp hh fr n (rm t0) (sd t0) (dr t0) (pe t0) < 2 ^ 63 := tA_lt (by omega) hU2 hhh hrm.2 hsd.2 hdr hpe
  have hlb0 : tB pp fr n (rm t0) (sd t0) ≤ 32000000000000 := tB_lt hU2 hrm.2 hsd.2
  have hbp0 : 0 < tB pp fr n (rm t0) (sd t0) := tB_pos hsd.1
  have hg0 : 0 < Nat.gcd (tA pp hh fr n (rm t0) (sd t0) (dr t0) (pe t0)) (tB pp fr n (rm t0) (sd t0)) := Nat.gcd_pos_of_pos_right _ hbp0
  have ha0 : (tA pp hh fr n (rm t0) (sd t0) (dr t0) (pe t0)) / Nat.gcd (tA pp hh fr n (rm t0) (sd t0) (dr t0) (pe t0)) (tB pp fr n (rm t0) (sd t0)) < 2 ^ 63 := Nat.lt_of_le_of_lt (Nat.div_le_self _ _) hlt0
  have hb0 : (tB pp fr n (rm t0) (sd t0)) / Nat.gcd (tA pp hh fr n (rm t0) (sd t0) (dr t0) (pe t0)) (tB pp fr n (rm t0) (sd t0)) < 2 ^ 63 := Nat.lt_of_le_of_lt (Nat.div_le_self _ _) (by omega)
  have hc0 : 0 < (tB pp fr n (rm t0) (sd t0)) / Nat.gcd (tA pp hh fr n (rm t0) (sd t0) (dr t0) (pe t0)) (tB pp fr n (rm t0) (sd t0)) := Nat.div_pos (Nat.gcd_le_right _ hbp0) hg0
  have hlt1 : tA pp hh fr n (rm t1) (sd t1) (dr t1) (pe t1) < 2 ^ 63 := tA_lt (by omega) hU2 hhh hrm1.2 hsd1.2 hdr1 hpe1
  have hlb1 : tB pp fr n (rm t1) (sd t1) ≤ 32000000000000 := tB_lt hU2 hrm1.2 hsd1.2
  have hbp1 : 0 < tB pp fr n (rm t1) (sd t1) := tB_pos hsd1.1
  have hg1 : 0 < Nat.gcd (tA pp hh fr n (rm t1) (sd t1) (dr t1) (pe t1)) (tB pp fr n (rm t1) (sd t1)) := Nat.gcd_pos_of_pos_right _ hbp1
  have ha1 : (tA pp hh fr n (rm t1) (sd t1) (dr t1) (pe t1)) / Nat.gcd (tA pp hh fr n (rm t1) (sd t1) (dr t1) (pe t1)) (tB pp fr n (rm t1) (sd t1)) < 2 ^ 63 := Nat.lt_of_le_of_lt (Nat.div_le_self _ _) hlt1
  have hb1 : (tB pp fr n (rm t1) (sd t1)) / Nat.gcd (tA pp hh fr n (rm t1) (sd t1) (dr t1) (pe t1)) (tB pp fr n (rm t1) (sd t1)) < 2 ^ 63 := Nat.lt_of_le_of_lt (Nat.div_le_self _ _) (by omega)
  have hc1 : 0 < (tB pp fr n (rm t1) (sd t1)) / Nat.gcd (tA pp hh fr n (rm t1) (sd t1) (dr t1) (pe t1)) (tB pp fr n (rm t1) (sd t1)) := Nat.div_pos (Nat.gcd_le_right _ hbp1) hg1
  have hz := zone_N ht0 hn6 hf1 hft htF hF12
  have hk1 := okTy_N ht1 hn6
  refine lv_aload_n hx hb d_M_compare_0 rfl (lv_at hl 0 rfl) ?_
  refine lv_aload_n hx hb d_M_compare_1 rfl (lv_at hl 0 rfl) ?_
  refine lv_iload_n hx hb d_M_compare_2 rfl (lv_at hl 1 rfl) ?_
  refine lv_iload_n hx hb d_M_compare_3 rfl (lv_at hl 3 rfl) ?_
  refine lv_iload hx hb d_M_compare_4 (lv_at hl 4 rfl) ?_
  refine ro_calli (va_runV (As := [.int (nI t0), .int (nI fr), .int (nI to)]) (rest := [.ref (q 0)]) ⟨hx, hb, hml, hown, hts⟩ (c_M_noZone l q th F nt ab be (nI t0) (nI fr) (nI to) hF12 hn6) (cwV 3 hts (gw_V k_564 k_561 k_563 ks_M_noZone k_6) rfl rfl rfl (by decide +kernel) ⟨Nat.le_trans (Nat.le_of_ble_eq_true rfl) hfr, Nat.le_trans (Nat.le_of_ble_eq_true rfl) hlo⟩) ⟨pr_blind, va_recv hK hP (ci := 6) (q0 := 0) rfl rfl, pr_at hC (hP.sub (ws' := [(q 0, .inr (6, (mF q th F nt ab be)))]) [0] rfl)⟩ rfl rfl hl.1 rfl (lv_room (Nat.le_of_ble_eq_true rfl)) d_M_compare_6 ⟨hce, hsl⟩) (fun r9 h9 => ?_)
  subst h9
  refine nx_b_ne (tgt := 26) hx hb d_M_compare_9 (by decide) (fun h1 => ?_) (fun h1 => ?_)
  · exact absurd hz h1
  · refine lv_iload_n hx hb d_M_compare_12 rfl (lv_at hl 2 rfl) ?_
    refine lv_iconst (v := nI 0) hx hb d_M_compare_13 (by decide) ?_
    refine lv_aload_n hx hb d_M_compare_14 rfl (lv_at hl 0 rfl) ?_
    refine va_get (D := (dC, dI)) (ci := 6) (v := .int (nI nt)) (C := R_M) (T := F_M) (N := 17) hx hb hts i_M hown hK hP 0 rfl rfl 9 (by decide) (hts _ k_486) (fun _ h9 => h9) rfl d_M_compare_15 ?_
    refine lv_iconst (v := nI 1) hx hb d_M_compare_18 (by decide) ?_
    refine lv_isub hx hb d_M_compare_19 ?_
    refine ro_calli (va_runS (As := [.int (nI t1), .int (nI 0), .int (nI nt - nI 1)]) (rest := [.ref (q 0)]) ⟨hx, hb, hml, hown, hts⟩ (c_M_isIn l (nI t1) (nI 0) (nI nt - nI 1) 0 ((nt : Int) - 1) (nI_toInt (by decide)) (by rw [pk_sub_toInt (by omega) (by decide)]; rfl)) (cwS 3 hts (gw_S k_539 k_537 k_538 k_6) rfl rfl rfl (by decide +kernel) ⟨Nat.le_trans (Nat.le_of_ble_eq_true rfl) hfr, Nat.le_trans (Nat.le_of_ble_eq_true rfl) hlo⟩) ⟨pr_blind, pr_at hC (fun k q h => by simp at h)⟩ rfl rfl hl.1 rfl (lv_room (Nat.le_of_ble_eq_true rfl)) d_M_compare_20 ⟨hce, hsl⟩) (fun r9 h9 => ?_)
    subst h9
    refine nx_b_ne (tgt := 30) hx hb d_M_compare_23 (by decide) (fun h2 => ?_) (fun h2 => ?_)
    · refine lv_iconst (v := nI 0) hx hb d_M_compare_30 (by decide) ?_
      refine va_put (D := (dC, dI)) (ci := 6) (v := .int (nI 0)) (ty := (.int)) (C := R_M) (T := F_M) (N := 17) hx hb hts i_M ft_M ft_M_ok n_M hown hK hP hD hS 0 rfl rfl 0 (by decide) (hts _ k_477) (fun _ h9 => h9) rfl (by decide +kernel) rfl rfl (Nat.le_of_ble_eq_true rfl) d_M_compare_31 (fun H locs hP hD hS => ?_)
      have hP : va_P (dC, dI) vwCl [(q 0, .inr (6, (mF q (nI 0) F nt ab be))), (q 1, .inl (cI, 13, .inl (fun j => nI (pp j)))), (q 2, .inl (cI, 13, .inl (fun j => nI (hh j)))), (q 4, .inl (cI, 6, .inl (fun j => nI (rm j)))), (q 5, .inl (cI, 6, .inl (fun j => nI (sd j)))), (q 6, .inl (cI, 6, .inl (fun j => nI (dr j)))), (q 7, .inl (cI, 6, .inl (fun j => nI (pe j))))] H := hP
      have hD : va_D A [(q 0, .inr (6, (mF q (nI 0) F nt ab be))), (q 1, .inl (cI, 13, .inl (fun j => nI (pp j)))), (q 2, .inl (cI, 13, .inl (fun j => nI (hh j)))), (q 4, .inl (cI, 6, .inl (fun j => nI (rm j)))), (q 5, .inl (cI, 6, .inl (fun j => nI (sd j)))), (q 6, .inl (cI, 6, .inl (fun j => nI (dr j)))), (q 7, .inl (cI, 6, .inl (fun j => nI (pe j))))] := hD
      refine lv_aload_n hx hb d_M_compare_34 rfl (lv_at hl 0 rfl) ?_
      refine va_get (D := (dC, dI)) (ci := 6) (v := .int (nI 0)) (C := R_M) (T := F_M) (N := 17) hx hb hts i_M hown hK hP 0 rfl rfl 0 (by decide) (hts _ k_477) (fun _ h9 => h9) rfl d_M_compare_35 ?_
      refine nx_if_le (tgt := 43) hx hb d_M_compare_38 (by decide) (by omega) (fun h9 => ?_) (fun h9 => ?_)
      · refine lv_aload_n hx hb d_M_compare_43 rfl (lv_at hl 0 rfl) ?_
        refine lv_iload_n hx hb d_M_compare_44 rfl (lv_at hl 1 rfl) ?_
        refine lv_iload_n hx hb d_M_compare_45 rfl (lv_at hl 3 rfl) ?_
        refine lv_iload hx hb d_M_compare_46 (lv_at hl 4 rfl) ?_
        have hPc := hP.sub (ws' := [(q 0, .inr (6, (mF q (nI 0) F nt ab be))), (q 1, .inl (cI, 13, .inl (fun j => nI (pp j)))), (q 2, .inl (cI, 13, .inl (fun j => nI (hh j)))), (q 4, .inl (cI, 6, .inl (fun j => nI (rm j)))), (q 5, .inl (cI, 6, .inl (fun j => nI (sd j)))), (q 6, .inl (cI, 6, .inl (fun j => nI (dr j)))), (q 7, .inl (cI, 6, .inl (fun j => nI (pe j))))]) [0, 1, 2, 3, 4, 5, 6] rfl
        have hDc := hD.sub (ws' := [(q 0, .inr (6, (mF q (nI 0) F nt ab be))), (q 1, .inl (cI, 13, .inl (fun j => nI (pp j)))), (q 2, .inl (cI, 13, .inl (fun j => nI (hh j)))), (q 4, .inl (cI, 6, .inl (fun j => nI (rm j)))), (q 5, .inl (cI, 6, .inl (fun j => nI (sd j)))), (q 6, .inl (cI, 6, .inl (fun j => nI (dr j)))), (q 7, .inl (cI, 6, .inl (fun j => nI (pe j))))]) [0, 1, 2, 3, 4, 5, 6] (by decide) rfl
        have hFc := va_free (wc := [(q 0, .inr (6, (mF q (nI 0) F nt ab be))), (q 1, .inl (cI, 13, .inl (fun j => nI (pp j)))), (q 2, .inl (cI, 13, .inl (fun j => nI (hh j)))), (q 4, .inl (cI, 6, .inl (fun j => nI (rm j)))), (q 5, .inl (cI, 6, .inl (fun j => nI (sd j)))), (q 6, .inl (cI, 6, .inl (fun j => nI (dr j)))), (q 7, .inl (cI, 6, .inl (fun j => nI (pe j))))]) hD hS hA [0, 1, 2, 3, 4, 5, 6] rfl
        refine va_callv (va_runV (As := [.int (nI t0), .int (nI fr), .int (nI to)]) (rest := []) ⟨hx, hb, hml, hown, hts⟩ (c_M_reckonTrip l _ q (nI 0) F nt ab be pp hh rm sd dr pe t0 fr to n (by omega) hn (by omega) (by omega) hU2 hhh hrm hsd hdr hpe) (cwV 3 hts (gw_V k_599 k_596 k_598 ks_M_reckonTrip k_6) rfl rfl rfl (by decide +kernel) ⟨Nat.le_trans (Nat.le_of_ble_eq_true rfl) hfr, Nat.le_trans (Nat.le_of_ble_eq_true rfl) hlo⟩) ⟨wr_blind, va_recv hK hP (ci := 6) (q0 := 0) rfl rfl, wr_at hC hPc hDc⟩ rfl rfl hl.1 rfl (lv_room (Nat.le_of_ble_eq_true rfl)) d_M_compare_48 ⟨hce, hsl⟩) hS (fun q _ h => hFc q h) hFc (fun u t H1 locs ht hvm hw hB hz1 hk1 hS => ?_)
        obtain ⟨hP1, hD1⟩ := hB
        rw [ht] at hP1
        obtain ⟨hP, hD⟩ := va_join (wr := []) (w1 := [(q 0, .inr (6, (mF q (nI 0) F nt (lN ((tA pp hh fr n (rm t0) (sd t0) (dr t0) (pe t0)) / Nat.gcd (tA pp hh fr n (rm t0) (sd t0) (dr t0) (pe t0)) (tB pp fr n (rm t0) (sd t0)))) (lN ((tB pp fr n (rm t0) (sd t0)) / Nat.gcd (tA pp hh fr n (rm t0) (sd t0) (dr t0) (pe t0)) (tB pp fr n (rm t0) (sd t0))))))), (q 1, .inl (cI, 13, .inl (fun j => nI (pp j)))), (q 2, .inl (cI, 13, .inl (fun j => nI (hh j)))), (q 4, .inl (cI, 6, .inl (fun j => nI (rm j)))), (q 5, .inl (cI, 6, .inl (fun j => nI (sd j)))), (q 6, .inl (cI, 6, .inl (fun j => nI (dr j)))), (q 7, .inl (cI, 6, .inl (fun j => nI (pe j))))]) hP hD [0, 1, 2, 3, 4, 5, 6] [] rfl rfl (by decide) (by decide) hk1 hFc hP1 hD1
        generalize H1 = H at hP hS ⊢
        have hP := hP.sub (ws' := [(q 0, .inr (6, (mF q (nI 0) F nt (lN ((tA pp hh fr n (rm t0) (sd t0) (dr t0) (pe t0)) / Nat.gcd (tA pp hh fr n (rm t0) (sd t0) (dr t0) (pe t0)) (tB pp fr n (rm t0) (sd t0)))) (lN ((tB pp fr n (rm t0) (sd t0)) / Nat.gcd (tA pp hh fr n (rm t0) (sd t0) (dr t0) (pe t0)) (tB pp fr n (rm t0) (sd t0))))))), (q 1, .inl (cI, 13, .inl (fun j => nI (pp j)))), (q 2, .inl (cI, 13, .inl (fun j => nI (hh j)))), (q 4, .inl (cI, 6, .inl (fun j => nI (rm j)))), (q 5, .inl (cI, 6, .inl (fun j => nI (sd j)))), (q 6, .inl (cI, 6, .inl (fun j => nI (dr j)))), (q 7, .inl (cI, 6, .inl (fun j => nI (pe j))))]) [0, 1, 2, 3, 4, 5, 6] rfl
        have hD := hD.sub (ws' := [(q 0, .inr (6, (mF q (nI 0) F nt (lN ((tA pp hh fr n (rm t0) (sd t0) (dr t0) (pe t0)) / Nat.gcd (tA pp hh fr n (rm t0) (sd t0) (dr t0) (pe t0)) (tB pp fr n (rm t0) (sd t0)))) (lN ((tB pp fr n (rm t0) (sd t0)) / Nat.gcd (tA pp hh fr n (rm t0) (sd t0) (dr t0) (pe t0)) (tB pp fr n (rm t0) (sd t0))))))), (q 1, .inl (cI, 13, .inl (fun j => nI (pp j)))), (q 2, .inl (cI, 13, .inl (fun j => nI (hh j)))), (q 4, .inl (cI, 6, .inl (fun j => nI (rm j)))), (q 5, .inl (cI, 6, .inl (fun j => nI (sd j)))), (q 6, .inl (cI, 6, .inl (fun j => nI (dr j)))), (q 7, .inl (cI, 6, .inl (fun j => nI (pe j))))]) [0, 1, 2, 3, 4, 5, 6] (by decide) rfl
        refine lv_aload_n hx hb d_M_compare_51 rfl (lv_at hl 0 rfl) ?_
        refine va_get (D := (dC, dI)) (ci := 6) (v := .long (lN ((tA pp hh fr n (rm t0) (sd t0) (dr t0) (pe t0)) / Nat.gcd (tA pp hh fr n (rm t0) (sd t0) (dr t0) (pe t0)) (tB pp fr n (rm t0) (sd t0))))) (C := R_M) (T := F_M) (N := 17) hx hb hts i_M hown hK hP 0 rfl rfl 10 (by decide) (hts _ k_487) (fun _ h9 => h9) rfl d_M_compare_52 ?_
        refine lv_lstore (lv' := [(5, .long (lN ((tA pp hh fr n (rm t0) (sd t0) (dr t0) (pe t0)) / Nat.gcd (tA pp hh fr n (rm t0) (sd t0) (dr t0) (pe t0)) (tB pp fr n (rm t0) (sd t0))))), (0, .ref (q 0)), (1, .int (nI t0)), (2, .int (nI t1)), (3, .int (nI fr)), (4, .int (nI to))]) hx hb d_M_compare_55 hl (by decide) rfl (fun ls hl => ?_)
        refine lv_aload_n hx hb d_M_compare_57 rfl (lv_at hl 1 rfl) ?_
        refine va_get (D := (dC, dI)) (ci := 6) (v := .long (lN ((tB pp fr n (rm t0) (sd t0)) / Nat.gcd (tA pp hh fr n (rm t0) (sd t0) (dr t0) (pe t0)) (tB pp fr n (rm t0) (sd t0))))) (C := R_M) (T := F_M) (N := 17) hx hb hts i_M hown hK hP 0 rfl rfl 11 (by decide) (hts _ k_488) (fun _ h9 => h9) rfl d_M_compare_58 ?_
        refine lv_lstore (lv' := [(7, .long (lN ((tB pp fr n (rm t0) (sd t0)) / Nat.gcd (tA pp hh fr n (rm t0) (sd t0) (dr t0) (pe t0)) (tB pp fr n (rm t0) (sd t0))))), (5, .long (lN ((tA pp hh fr n (rm t0) (sd t0) (dr t0) (pe t0)) / Nat.gcd (tA pp hh fr n (rm t0) (sd t0) (dr t0) (pe t0)) (tB pp fr n (rm t0) (sd t0))))), (0, .ref (q 0)), (1, .int (nI t0)), (2, .int (nI t1)), (3, .int (nI fr)), (4, .int (nI to))]) hx hb d_M_compare_61 hl (by decide) rfl (fun ls hl => ?_)
        refine lv_aload_n hx hb d_M_compare_63 rfl (lv_at hl 2 rfl) ?_
        refine lv_iload_n hx hb d_M_compare_64 rfl (lv_at hl 4 rfl) ?_
        refine lv_iload_n hx hb d_M_compare_65 rfl (lv_at hl 5 rfl) ?_
        refine lv_iload hx hb d_M_compare_66 (lv_at hl 6 rfl) ?_
        have hPc := hP.sub (ws' := [(q 0, .inr (6, (mF q (nI 0) F nt (lN ((tA pp hh fr n (rm t0) (sd t0) (dr t0) (pe t0)) / Nat.gcd (tA pp hh fr n (rm t0) (sd t0) (dr t0) (pe t0)) (tB pp fr n (rm t0) (sd t0)))) (lN ((tB pp fr n (rm t0) (sd t0)) / Nat.gcd (tA pp hh fr n (rm t0) (sd t0) (dr t0) (pe t0)) (tB pp fr n (rm t0) (sd t0))))))), (q 1, .inl (cI, 13, .inl (fun j => nI (pp j)))), (q 2, .inl (cI, 13, .inl (fun j => nI (hh j)))), (q 4, .inl (cI, 6, .inl (fun j => nI (rm j)))), (q 5, .inl (cI, 6, .inl (fun j => nI (sd j)))), (q 6, .inl (cI, 6, .inl (fun j => nI (dr j)))), (q 7, .inl (cI, 6, .inl (fun j => nI (pe j))))]) [0, 1, 2, 3, 4, 5, 6] rfl
        have hDc := hD.sub (ws' := [(q 0, .inr (6, (mF q (nI 0) F nt (lN ((tA pp hh fr n (rm t0) (sd t0) (dr t0) (pe t0)) / Nat.gcd (tA pp hh fr n (rm t0) (sd t0) (dr t0) (pe t0)) (tB pp fr n (rm t0) (sd t0)))) (lN ((tB pp fr n (rm t0) (sd t0)) / Nat.gcd (tA pp hh fr n (rm t0) (sd t0) (dr t0) (pe t0)) (tB pp fr n (rm t0) (sd t0))))))), (q 1, .inl (cI, 13, .inl (fun j => nI (pp j)))), (q 2, .inl (cI, 13, .inl (fun j => nI (hh j)))), (q 4, .inl (cI, 6, .inl (fun j => nI (rm j)))), (q 5, .inl (cI, 6, .inl (fun j => nI (sd j)))), (q 6, .inl (cI, 6, .inl (fun j => nI (dr j)))), (q 7, .inl (cI, 6, .inl (fun j => nI (pe j))))]) [0, 1, 2, 3, 4, 5, 6] (by decide) rfl
        have hFc := va_free (wc := [(q 0, .inr (6, (mF q (nI 0) F nt (lN ((tA pp hh fr n (rm t0) (sd t0) (dr t0) (pe t0)) / Nat.gcd (tA pp hh fr n (rm t0) (sd t0) (dr t0) (pe t0)) (tB pp fr n (rm t0) (sd t0)))) (lN ((tB pp fr n (rm t0) (sd t0)) / Nat.gcd (tA pp hh fr n (rm t0) (sd t0) (dr t0) (pe t0)) (tB pp fr n (rm t0) (sd t0))))))), (q 1, .inl (cI, 13, .inl (fun j => nI (pp j)))), (q 2, .inl (cI, 13, .inl (fun j => nI (hh j)))), (q 4, .inl (cI, 6, .inl (fun j => nI (rm j)))), (q 5, .inl (cI, 6, .inl (fun j => nI (sd j)))), (q 6, .inl (cI, 6, .inl (fun j => nI (dr j)))), (q 7, .inl (cI, 6, .inl (fun j => nI (pe j))))]) hD hS hA [0, 1, 2, 3, 4, 5, 6] rfl
        refine va_callv (va_runV (As := [.int (nI t1), .int (nI fr), .int (nI to)]) (rest := []) ⟨hx, hb, hml, hown, hts⟩ (c_M_reckonTrip l _ q (nI 0) F nt (lN ((tA pp hh fr n (rm t0) (sd t0) (dr t0) (pe t0)) / Nat.gcd (tA pp hh fr n (rm t0) (sd t0) (dr t0) (pe t0)) (tB pp fr n (rm t0) (sd t0)))) (lN ((tB pp fr n (rm t0) (sd t0)) / Nat.gcd (tA pp hh fr n (rm t0) (sd t0) (dr t0) (pe t0)) (tB pp fr n (rm t0) (sd t0)))) pp hh rm sd dr pe t1 fr to n (by omega) hn (by omega) (by omega) hU2 hhh hrm1 hsd1 hdr1 hpe1) (cwV 3 hts (gw_V k_599 k_596 k_598 ks_M_reckonTrip k_6) rfl rfl rfl (by decide +kernel) ⟨Nat.le_trans (Nat.le_of_ble_eq_true rfl) hfr, Nat.le_trans (Nat.le_of_ble_eq_true rfl) hlo⟩) ⟨wr_blind, va_recv hK hP (ci := 6) (q0 := 0) rfl rfl, wr_at hC hPc hDc⟩ rfl rfl hl.1 rfl (lv_room (Nat.le_of_ble_eq_true rfl)) d_M_compare_68 ⟨hce, hsl⟩) hS (fun q _ h => hFc q h) hFc (fun u t H1 locs ht hvm hw hB hz1 hk1 hS => ?_)
        obtain ⟨hP1, hD1⟩ := hB
        rw [ht] at hP1
        obtain ⟨hP, hD⟩ := va_join (wr := []) (w1 := [(q 0, .inr (6, (mF q (nI 0) F nt (lN ((tA pp hh fr n (rm t1) (sd t1) (dr t1) (pe t1)) / Nat.gcd (tA pp hh fr n (rm t1) (sd t1) (dr t1) (pe t1)) (tB pp fr n (rm t1) (sd t1)))) (lN ((tB pp fr n (rm t1) (sd t1)) / Nat.gcd (tA pp hh fr n (rm t1) (sd t1) (dr t1) (pe t1)) (tB pp fr n (rm t1) (sd t1))))))), (q 1, .inl (cI, 13, .inl (fun j => nI (pp j)))), (q 2, .inl (cI, 13, .inl (fun j => nI (hh j)))), (q 4, .inl (cI, 6, .inl (fun j => nI (rm j)))), (q 5, .inl (cI, 6, .inl (fun j => nI (sd j)))), (q 6, .inl (cI, 6, .inl (fun j => nI (dr j)))), (q 7, .inl (cI, 6, .inl (fun j => nI (pe j))))]) hP hD [0, 1, 2, 3, 4, 5, 6] [] rfl rfl (by decide) (by decide) hk1 hFc hP1 hD1
        generalize H1 = H at hP hS ⊢
        have hP := hP.sub (ws' := [(q 0, .inr (6, (mF q (nI 0) F nt (lN ((tA pp hh fr n (rm t1) (sd t1) (dr t1) (pe t1)) / Nat.gcd (tA pp hh fr n (rm t1) (sd t1) (dr t1) (pe t1)) (tB pp fr n (rm t1) (sd t1)))) (lN ((tB pp fr n (rm t1) (sd t1)) / Nat.gcd (tA pp hh fr n (rm t1) (sd t1) (dr t1) (pe t1)) (tB pp fr n (rm t1) (sd t1))))))), (q 1, .inl (cI, 13, .inl (fun j => nI (pp j)))), (q 2, .inl (cI, 13, .inl (fun j => nI (hh j)))), (q 4, .inl (cI, 6, .inl (fun j => nI (rm j)))), (q 5, .inl (cI, 6, .inl (fun j => nI (sd j)))), (q 6, .inl (cI, 6, .inl (fun j => nI (dr j)))), (q 7, .inl (cI, 6, .inl (fun j => nI (pe j))))]) [0, 1, 2, 3, 4, 5, 6] rfl
        have hD := hD.sub (ws' := [(q 0, .inr (6, (mF q (nI 0) F nt (lN ((tA pp hh fr n (rm t1) (sd t1) (dr t1) (pe t1)) / Nat.gcd (tA pp hh fr n (rm t1) (sd t1) (dr t1) (pe t1)) (tB pp fr n (rm t1) (sd t1)))) (lN ((tB pp fr n (rm t1) (sd t1)) / Nat.gcd (tA pp hh fr n (rm t1) (sd t1) (dr t1) (pe t1)) (tB pp fr n (rm t1) (sd t1))))))), (q 1, .inl (cI, 13, .inl (fun j => nI (pp j)))), (q 2, .inl (cI, 13, .inl (fun j => nI (hh j)))), (q 4, .inl (cI, 6, .inl (fun j => nI (rm j)))), (q 5, .inl (cI, 6, .inl (fun j => nI (sd j)))), (q 6, .inl (cI, 6, .inl (fun j => nI (dr j)))), (q 7, .inl (cI, 6, .inl (fun j => nI (pe j))))]) [0, 1, 2, 3, 4, 5, 6] (by decide) rfl
        refine lv_lload hx hb d_M_compare_71 (lv_at hl 1 rfl) ?_
        refine lv_lload hx hb d_M_compare_73 (lv_at hl 0 rfl) ?_
        refine lv_aload_n hx hb d_M_compare_75 rfl (lv_at hl 2 rfl) ?_
        refine va_get (D := (dC, dI)) (ci := 6) (v := .long (lN ((tA pp hh fr n (rm t1) (sd t1) (dr t1) (pe t1)) / Nat.gcd (tA pp hh fr n (rm t1) (sd t1) (dr t1) (pe t1)) (tB pp fr n (rm t1) (sd t1))))) (C := R_M) (T := F_M) (N := 17) hx hb hts i_M hown hK hP 0 rfl rfl 10 (by decide) (hts _ k_487) (fun _ h9 => h9) rfl d_M_compare_76 ?_
        refine lv_aload_n hx hb d_M_compare_79 rfl (lv_at hl 2 rfl) ?_
        refine va_get (D := (dC, dI)) (ci := 6) (v := .long (lN ((tB pp fr n (rm t1) (sd t1)) / Nat.gcd (tA pp hh fr n (rm t1) (sd t1) (dr t1) (pe t1)) (tB pp fr n (rm t1) (sd t1))))) (C := R_M) (T := F_M) (N := 17) hx hb hts i_M hown hK hP 0 rfl rfl 11 (by decide) (hts _ k_488) (fun _ h9 => h9) rfl d_M_compare_80 ?_
        refine ro_calli (va_runS (As := [.long (lN ((tA pp hh fr n (rm t0) (sd t0) (dr t0) (pe t0)) / Nat.gcd (tA pp hh fr n (rm t0) (sd t0) (dr t0) (pe t0)) (tB pp fr n (rm t0) (sd t0)))), .long (lN ((tB pp fr n (rm t0) (sd t0)) / Nat.gcd (tA pp hh fr n (rm t0) (sd t0) (dr t0) (pe t0)) (tB pp fr n (rm t0) (sd t0)))), .long (lN ((tA pp hh fr n (rm t1) (sd t1) (dr t1) (pe t1)) / Nat.gcd (tA pp hh fr n (rm t1) (sd t1) (dr t1) (pe t1)) (tB pp fr n (rm t1) (sd t1)))), .long (lN ((tB pp fr n (rm t1) (sd t1)) / Nat.gcd (tA pp hh fr n (rm t1) (sd t1) (dr t1) (pe t1)) (tB pp fr n (rm t1) (sd t1))))]) (rest := []) ⟨hx, hb, hml, hown, hts⟩ (c_M_order l ((tA pp hh fr n (rm t0) (sd t0) (dr t0) (pe t0)) / Nat.gcd (tA pp hh fr n (rm t0) (sd t0) (dr t0) (pe t0)) (tB pp fr n (rm t0) (sd t0))) ((tB pp fr n (rm t0) (sd t0)) / Nat.gcd (tA pp hh fr n (rm t0) (sd t0) (dr t0) (pe t0)) (tB pp fr n (rm t0) (sd t0))) ((tA pp hh fr n (rm t1) (sd t1) (dr t1) (pe t1)) / Nat.gcd (tA pp hh fr n (rm t1) (sd t1) (dr t1) (pe t1)) (tB pp fr n (rm t1) (sd t1))) ((tB pp fr n (rm t1) (sd t1)) / Nat.gcd (tA pp hh fr n (rm t1) (sd t1) (dr t1) (pe t1)) (tB pp fr n (rm t1) (sd t1))) ha0 hb0 ha1 hb1 hc0 hc1) (cwS 4 hts (gw_S k_607 k_605 k_606 k_6) rfl rfl rfl (by decide +kernel) ⟨Nat.le_trans (Nat.le_of_ble_eq_true rfl) hfr, Nat.le_trans (Nat.le_of_ble_eq_true rfl) hlo⟩) ⟨pr_blind, pr_at hC (fun k q h => by simp at h)⟩ rfl rfl hl.1 rfl (lv_room (Nat.le_of_ble_eq_true rfl)) d_M_compare_83 ⟨hce, hsl⟩) (fun r9 h9 => ?_)
        subst h9
        rw [ma_cmp_red hg0 hg1 (Nat.gcd_dvd_left _ _) (Nat.gcd_dvd_right _ _) (Nat.gcd_dvd_left _ _) (Nat.gcd_dvd_right _ _)]
        exact W.iret hx hb hr (fun t ht hW => ⟨⟨_, (), rfl, rfl, by rw [ht]; exact hP, hD⟩, hS.F ht⟩) hS.2.2 d_M_compare_86
      · exact absurd h9 (by omega)
    · exact absurd (by unfold okTy at hk1; omega) h2
set_option maxHeartbeats 4000000 in
set_option maxRecDepth 100000 in
theorem c_M_carriedBy (l : Launch) {dC : Nat → ClassId} {dI : Nat → Nat → Nat} {cI cL cT : ClassId} {sa : Nat → Nat} (sz : Nat) (q : Nat → Nat) (th : Int32) (F nt : Nat) (ab be : Int64) (pp hh rm sd dr pe : Nat → Nat) (cars t0 : Nat) (hF12 : F ≤ 12) (ht0 : t0 < 6) (hcars : cars ≤ 6) (hU2 : sm pp 1 F ≤ 200) (hhh : ∀ k, k < F → hh (1 + k) ≤ 1200) (hrm : 1 ≤ rm t0 ∧ rm t0 ≤ 5) (hsd : 1 ≤ sd t0 ∧ sd t0 ≤ 100) (hdr : dr t0 ≤ 30) (hpe : pe t0 ≤ 10) : Met l y_M_carriedBy (Cond.code y_M_carriedBy b_M_carriedBy 3 (some .long) :: gw) ({ frames := 3, cells := 0, slots := 0, locals := 87 } : Room) (wr dC dI cI cL cT sa [.ref (q 0), .int (nI cars), .int (nI t0)] [(q 0, .inr (6, (mF q th F nt ab be))), (q 1, .inl (cI, 13, .inl (fun j => nI (pp j)))), (q 2, .inl (cI, 13, .inl (fun j => nI (hh j)))), (q 4, .inl (cI, 6, .inl (fun j => nI (rm j)))), (q 5, .inl (cI, 6, .inl (fun j => nI (sd j)))), (q 6, .inl (cI, 6, .inl (fun j => nI (dr j)))), (q 7, .inl (cI, 6, .inl (fun j => nI (pe j))))] sz) (va_Ql (fun r (_ : Unit) => r = lN (oC cars (rm t0) (tA pp hh 1 F (rm t0) (sd t0) (dr t0) (pe t0)) (tB pp 1 F (rm t0) (sd t0)))) (wB dC dI [(q 0, .inr (6, (mF q th F nt ab be))), (q 1, .inl (cI, 13, .inl (fun j => nI (pp j)))), (q 2, .inl (cI, 13, .inl (fun j => nI (hh j)))), (q 4, .inl (cI, 6, .inl (fun j => nI (rm j)))), (q 5, .inl (cI, 6, .inl (fun j => nI (sd j)))), (q 6, .inl (cI, 6, .inl (fun j => nI (dr j)))), (q 7, .inl (cI, 6, .inl (fun j => nI (pe j))))] [(q 0, .inr (6, (mF q th F nt (lN ((tA pp hh 1 F (rm t0) (sd t0) (dr t0) (pe t0)) / Nat.gcd (tA pp hh 1 F (rm t0) (sd t0) (dr t0) (pe t0)) (tB pp 1 F (rm t0) (sd t0)))) (lN ((tB pp 1 F (rm t0) (sd t0)) / Nat.gcd (tA pp hh 1 F (rm t0) (sd t0) (dr t0) (pe t0)) (tB pp 1 F (rm t0) (sd t0))))))), (q 1, .inl (cI, 13, .inl (fun j => nI (pp j)))), (q 2, .inl (cI, 13, .inl (fun j => nI (hh j)))), (q 4, .inl (cI, 6, .inl (fun j => nI (rm j)))), (q 5, .inl (cI, 6, .inl (fun j => nI (sd j)))), (q 6, .inl (cI, 6, .inl (fun j => nI (dr j)))), (q 7, .inl (cI, 6, .inl (fun j => nI (pe j))))] sz) (va_A [(q 0, .inr (6, (mF q th F nt ab be))), (q 1, .inl (cI, 13, .inl (fun j => nI (pp j)))), (q 2, .inl (cI, 13, .inl (fun j => nI (hh j)))), (q 4, .inl (cI, 6, .inl (fun j => nI (rm j)))), (q 5, .inl (cI, 6, .inl (fun j => nI (sd j)))), (q 6, .inl (cI, 6, .inl (fun j => nI (dr j)))), (q 7, .inl (cI, 6, .inl (fun j => nI (pe j))))] sz)) 0 0 (va_A [(q 0, .inr (6, (mF q th F nt ab be))), (q 1, .inl (cI, 13, .inl (fun j => nI (pp j)))), (q 2, .inl (cI, 13, .inl (fun j => nI (hh j)))), (q 4, .inl (cI, 6, .inl (fun j => nI (rm j)))), (q 5, .inl (cI, 6, .inl (fun j => nI (sd j)))), (q 6, .inl (cI, 6, .inl (fun j => nI (dr j)))), (q 7, .inl (cI, 6, .inl (fun j => nI (pe j))))] sz) := by
  refine Met.ofW (cc := b_M_carriedBy) (maxL := 3) (ret := (some .long)) (by decide) rfl ?_
  intro p e s m args below meth c s₁ B hml hv
  obtain ⟨rfl, hsz, hC, hP, hD0⟩ := hv
  have hx := B.exec
  have hb := B.bytes
  have hr := B.returns
  have hts : ∀ w ∈ gw, w.before ([.ref (q 0), .int (nI cars), .int (nI t0)] : List Value).toArray s = true := fun w hw => atoms_spec (ws := Cond.code y_M_carriedBy b_M_carriedBy 3 (some .long) :: gw) B.pre w (List.mem_cons_of_mem _ hw)
  have hown : s.vm.findClass R_M = some m.cls := findClass_of_methodNamed B.named
  have hlocks := B.notSynchronized
  have hK := hC.1
  have hfr : 3 ≤ (headSpec (Cond.code y_M_carriedBy b_M_carriedBy 3 (some .long) :: gw) ({ frames := 3, cells := 0, slots := 0, locals := 87 } : Room)).room.frames := Nat.le_refl _
  have hlo : 87 ≤ (headSpec (Cond.code y_M_carriedBy b_M_carriedBy 3 (some .long) :: gw) ({ frames := 3, cells := 0, slots := 0, locals := 87 } : Room)).room.locals := Nat.le_refl _
  have hce : 0 ≤ (headSpec (Cond.code y_M_carriedBy b_M_carriedBy 3 (some .long) :: gw) ({ frames := 3, cells := 0, slots := 0, locals := 87 } : Room)).room.cells := Nat.zero_le _
  have hsl : 0 ≤ (headSpec (Cond.code y_M_carriedBy b_M_carriedBy 3 (some .long) :: gw) ({ frames := 3, cells := 0, slots := 0, locals := 87 } : Room)).room.slots := Nat.zero_le _
  subst hsz
  have hD := hD0.self (sz := s.heap.size)
  unfold wB
  generalize hAe : va_A [(q 0, .inr (6, (mF q th F nt ab be))), (q 1, .inl (cI, 13, .inl (fun j => nI (pp j)))), (q 2, .inl (cI, 13, .inl (fun j => nI (hh j)))), (q 4, .inl (cI, 6, .inl (fun j => nI (rm j)))), (q 5, .inl (cI, 6, .inl (fun j => nI (sd j)))), (q 6, .inl (cI, 6, .inl (fun j => nI (dr j)))), (q 7, .inl (cI, 6, .inl (fun j => nI (pe j))))] s.heap.size = A at hD ⊢
  have hA : ∀ q : Nat, s.heap.size ≤ q → A q := fun q h => by rw [← hAe]; exact Or.inr h
  have hS : va_S A s.heap s.heap [] := va_S.rf
  have hl := lv_entry ([.ref (q 0), .int (nI cars), .int (nI t0)]) (n := 3) (Nat.le_of_ble_eq_true rfl)
  rw [lg_entry_eq]
  generalize (lg_sl ([.ref (q 0), .int (nI cars), .int (nI t0)]) ++ List.replicate (3 - (lg_sl ([.ref (q 0), .int (nI cars), .int (nI t0)])).length) Slot.unset).toArray = ls at hl ⊢
  have hl : lv_has ls 3 [(0, .ref (q 0)), (1, .int (nI cars)), (2, .int (nI t0))] := hl
  have hlt : tA pp hh 1 F (rm t0) (sd t0) (dr t0) (pe t0) < 2 ^ 63 := tA_lt hF12 hU2 hhh hrm.2 hsd.2 hdr hpe
  have hlb : tB pp 1 F (rm t0) (sd t0) ≤ 32000000000000 := tB_lt hU2 hrm.2 hsd.2
  have hbp : 0 < tB pp 1 F (rm t0) (sd t0) := tB_pos hsd.1
  have hg : 0 < Nat.gcd (tA pp hh 1 F (rm t0) (sd t0) (dr t0) (pe t0)) (tB pp 1 F (rm t0) (sd t0)) := Nat.gcd_pos_of_pos_right _ hbp
  have ha : (tA pp hh 1 F (rm t0) (sd t0) (dr t0) (pe t0)) / Nat.gcd (tA pp hh 1 F (rm t0) (sd t0) (dr t0) (pe t0)) (tB pp 1 F (rm t0) (sd t0)) < 2 ^ 63 := Nat.lt_of_le_of_lt (Nat.div_le_self _ _) hlt
  have hb2 : (tB pp 1 F (rm t0) (sd t0)) / Nat.gcd (tA pp hh 1 F (rm t0) (sd t0) (dr t0) (pe t0)) (tB pp 1 F (rm t0) (sd t0)) ≤ 32000000000000 := Nat.le_trans (Nat.div_le_self _ _) hlb
  have hq := oC_red (cars := cars) (r := rm t0) hg (Nat.gcd_dvd_left (tA pp hh 1 F (rm t0) (sd t0) (dr t0) (pe t0)) (tB pp 1 F (rm t0) (sd t0))) (Nat.gcd_dvd_right (tA pp hh 1 F (rm t0) (sd t0) (dr t0) (pe t0)) (tB pp 1 F (rm t0) (sd t0)))
  have hP5 : rm t0 ≤ 5 := hrm.2
  refine lv_aload_n hx hb d_M_carriedBy_0 rfl (lv_at hl 0 rfl) ?_
  refine lv_iload_n hx hb d_M_carriedBy_1 rfl (lv_at hl 2 rfl) ?_
  refine lv_iconst (v := nI 1) hx hb d_M_carriedBy_2 (by decide) ?_
  refine lv_aload_n hx hb d_M_carriedBy_3 rfl (lv_at hl 0 rfl) ?_
  refine va_get (D := (dC, dI)) (ci := 6) (v := .int (nI F)) (C := R_M) (T := F_M) (N := 17) hx hb hts i_M hown hK hP 0 rfl rfl 3 (by decide) (hts _ k_480) (fun _ h9 => h9) rfl d_M_carriedBy_4 ?_
  have hPc := hP.sub (ws' := [(q 0, .inr (6, (mF q th F nt ab be))), (q 1, .inl (cI, 13, .inl (fun j => nI (pp j)))), (q 2, .inl (cI, 13, .inl (fun j => nI (hh j)))), (q 4, .inl (cI, 6, .inl (fun j => nI (rm j)))), (q 5, .inl (cI, 6, .inl (fun j => nI (sd j)))), (q 6, .inl (cI, 6, .inl (fun j => nI (dr j)))), (q 7, .inl (cI, 6, .inl (fun j => nI (pe j))))]) [0, 1, 2, 3, 4, 5, 6] rfl
  have hDc := hD.sub (ws' := [(q 0, .inr (6, (mF q th F nt ab be))), (q 1, .inl (cI, 13, .inl (fun j => nI (pp j)))), (q 2, .inl (cI, 13, .inl (fun j => nI (hh j)))), (q 4, .inl (cI, 6, .inl (fun j => nI (rm j)))), (q 5, .inl (cI, 6, .inl (fun j => nI (sd j)))), (q 6, .inl (cI, 6, .inl (fun j => nI (dr j)))), (q 7, .inl (cI, 6, .inl (fun j => nI (pe j))))]) [0, 1, 2, 3, 4, 5, 6] (by decide) rfl
  have hFc := va_free (wc := [(q 0, .inr (6, (mF q th F nt ab be))), (q 1, .inl (cI, 13, .inl (fun j => nI (pp j)))), (q 2, .inl (cI, 13, .inl (fun j => nI (hh j)))), (q 4, .inl (cI, 6, .inl (fun j => nI (rm j)))), (q 5, .inl (cI, 6, .inl (fun j => nI (sd j)))), (q 6, .inl (cI, 6, .inl (fun j => nI (dr j)))), (q 7, .inl (cI, 6, .inl (fun j => nI (pe j))))]) hD hS hA [0, 1, 2, 3, 4, 5, 6] rfl
  refine va_callv (va_runV (As := [.int (nI t0), .int (nI 1), .int (nI F)]) (rest := []) ⟨hx, hb, hml, hown, hts⟩ (c_M_reckonTrip l _ q th F nt ab be pp hh rm sd dr pe t0 1 F F ht0 (by omega) hF12 hF12 hU2 hhh hrm hsd hdr hpe) (cwV 3 hts (gw_V k_599 k_596 k_598 ks_M_reckonTrip k_6) rfl rfl rfl (by decide +kernel) ⟨Nat.le_trans (Nat.le_of_ble_eq_true rfl) hfr, Nat.le_trans (Nat.le_of_ble_eq_true rfl) hlo⟩) ⟨wr_blind, va_recv hK hP (ci := 6) (q0 := 0) rfl rfl, wr_at hC hPc hDc⟩ rfl rfl hl.1 rfl (lv_room (Nat.le_of_ble_eq_true rfl)) d_M_carriedBy_7 ⟨hce, hsl⟩) hS (fun q _ h => hFc q h) hFc (fun u t H1 locs ht hvm hw hB hz1 hk1 hS => ?_)
  obtain ⟨hP1, hD1⟩ := hB
  rw [ht] at hP1
  obtain ⟨hP, hD⟩ := va_join (wr := []) (w1 := [(q 0, .inr (6, (mF q th F nt (lN ((tA pp hh 1 F (rm t0) (sd t0) (dr t0) (pe t0)) / Nat.gcd (tA pp hh 1 F (rm t0) (sd t0) (dr t0) (pe t0)) (tB pp 1 F (rm t0) (sd t0)))) (lN ((tB pp 1 F (rm t0) (sd t0)) / Nat.gcd (tA pp hh 1 F (rm t0) (sd t0) (dr t0) (pe t0)) (tB pp 1 F (rm t0) (sd t0))))))), (q 1, .inl (cI, 13, .inl (fun j => nI (pp j)))), (q 2, .inl (cI, 13, .inl (fun j => nI (hh j)))), (q 4, .inl (cI, 6, .inl (fun j => nI (rm j)))), (q 5, .inl (cI, 6, .inl (fun j => nI (sd j)))), (q 6, .inl (cI, 6, .inl (fun j => nI (dr j)))), (q 7, .inl (cI, 6, .inl (fun j => nI (pe j))))]) hP hD [0, 1, 2, 3, 4, 5, 6] [] rfl rfl (by decide) (by decide) hk1 hFc hP1 hD1
  generalize H1 = H at hP hS ⊢
  have hP := hP.sub (ws' := [(q 0, .inr (6, (mF q th F nt (lN ((tA pp hh 1 F (rm t0) (sd t0) (dr t0) (pe t0)) / Nat.gcd (tA pp hh 1 F (rm t0) (sd t0) (dr t0) (pe t0)) (tB pp 1 F (rm t0) (sd t0)))) (lN ((tB pp 1 F (rm t0) (sd t0)) / Nat.gcd (tA pp hh 1 F (rm t0) (sd t0) (dr t0) (pe t0)) (tB pp 1 F (rm t0) (sd t0))))))), (q 1, .inl (cI, 13, .inl (fun j => nI (pp j)))), (q 2, .inl (cI, 13, .inl (fun j => nI (hh j)))), (q 4, .inl (cI, 6, .inl (fun j => nI (rm j)))), (q 5, .inl (cI, 6, .inl (fun j => nI (sd j)))), (q 6, .inl (cI, 6, .inl (fun j => nI (dr j)))), (q 7, .inl (cI, 6, .inl (fun j => nI (pe j))))]) [0, 1, 2, 3, 4, 5, 6] rfl
  have hD := hD.sub (ws' := [(q 0, .inr (6, (mF q th F nt (lN ((tA pp hh 1 F (rm t0) (sd t0) (dr t0) (pe t0)) / Nat.gcd (tA pp hh 1 F (rm t0) (sd t0) (dr t0) (pe t0)) (tB pp 1 F (rm t0) (sd t0)))) (lN ((tB pp 1 F (rm t0) (sd t0)) / Nat.gcd (tA pp hh 1 F (rm t0) (sd t0) (dr t0) (pe t0)) (tB pp 1 F (rm t0) (sd t0))))))), (q 1, .inl (cI, 13, .inl (fun j => nI (pp j)))), (q 2, .inl (cI, 13, .inl (fun j => nI (hh j)))), (q 4, .inl (cI, 6, .inl (fun j => nI (rm j)))), (q 5, .inl (cI, 6, .inl (fun j => nI (sd j)))), (q 6, .inl (cI, 6, .inl (fun j => nI (dr j)))), (q 7, .inl (cI, 6, .inl (fun j => nI (pe j))))]) [0, 1, 2, 3, 4, 5, 6] (by decide) rfl
  refine lv_aload_n hx hb d_M_carriedBy_10 rfl (lv_at hl 0 rfl) ?_
  refine va_get (D := (dC, dI)) (ci := 6) (v := .long (lN ((tA pp hh 1 F (rm t0) (sd t0) (dr t0) (pe t0)) / Nat.gcd (tA pp hh 1 F (rm t0) (sd t0) (dr t0) (pe t0)) (tB pp 1 F (rm t0) (sd t0))))) (C := R_M) (T := F_M) (N := 17) hx hb hts i_M hown hK hP 0 rfl rfl 10 (by decide) (hts _ k_487) (fun _ h9 => h9) rfl d_M_carriedBy_11 ?_
  refine lv_lconst (v := lN 0) hx hb d_M_carriedBy_14 (by decide) ?_
  refine nx_lcn_ne (tgt := 23) hx hb d_M_carriedBy_15 d_M_carriedBy_16 (by decide) ha (by decide) (fun h1 => ?_) (fun h1 => ?_)
  · refine lv_ldc2 (v := lN 300) hx hb hown (hts _ k_616) d_M_carriedBy_23 ?_
    refine lv_iload_n hx hb d_M_carriedBy_26 rfl (lv_at hl 1 rfl) ?_
    refine nx_i2l hx hb d_M_carriedBy_27 (by omega) ?_
    refine nx_lmul hx hb d_M_carriedBy_28 ?_
    refine lv_aload_n hx hb d_M_carriedBy_29 rfl (lv_at hl 0 rfl) ?_
    refine va_get (D := (dC, dI)) (ci := 6) (v := .ref (q 4)) (C := R_M) (T := F_M) (N := 17) hx hb hts i_M hown hK hP 0 rfl rfl 4 (by decide) (hts _ k_481) (fun _ h9 => h9) rfl d_M_carriedBy_30 ?_
    refine lv_iload_n hx hb d_M_carriedBy_33 rfl (lv_at hl 2 rfl) ?_
    refine nx_iald hx hb hK hP 3 0 rfl rfl (k := t0) (v := nI (rm t0)) (by omega) (by decide) rfl d_M_carriedBy_34 ?_
    refine nx_i2l hx hb d_M_carriedBy_35 (by omega) ?_
    refine nx_lmul hx hb d_M_carriedBy_36 ?_
    refine lv_aload_n hx hb d_M_carriedBy_37 rfl (lv_at hl 0 rfl) ?_
    refine va_get (D := (dC, dI)) (ci := 6) (v := .long (lN ((tB pp 1 F (rm t0) (sd t0)) / Nat.gcd (tA pp hh 1 F (rm t0) (sd t0) (dr t0) (pe t0)) (tB pp 1 F (rm t0) (sd t0))))) (C := R_M) (T := F_M) (N := 17) hx hb hts i_M hown hK hP 0 rfl rfl 11 (by decide) (hts _ k_488) (fun _ h9 => h9) rfl d_M_carriedBy_38 ?_
    refine nx_lmul hx hb d_M_carriedBy_41 ?_
    refine lv_aload_n hx hb d_M_carriedBy_42 rfl (lv_at hl 0 rfl) ?_
    refine va_get (D := (dC, dI)) (ci := 6) (v := .long (lN ((tA pp hh 1 F (rm t0) (sd t0) (dr t0) (pe t0)) / Nat.gcd (tA pp hh 1 F (rm t0) (sd t0) (dr t0) (pe t0)) (tB pp 1 F (rm t0) (sd t0))))) (C := R_M) (T := F_M) (N := 17) hx hb hts i_M hown hK hP 0 rfl rfl 10 (by decide) (hts _ k_487) (fun _ h9 => h9) rfl d_M_carriedBy_43 ?_
    refine nx_ldiv hx hb d_M_carriedBy_46 (car_lt hcars hP5 hb2) (Nat.pos_of_ne_zero h1) ha ?_
    exact W.lret hx hb hr (fun t ht hW => ⟨⟨_, (), rfl, by rw [← hq, oC, if_neg h1], by rw [ht]; exact hP, hD⟩, hS.F ht⟩) hS.2.2 d_M_carriedBy_47
  · refine lv_lconst (v := lN 0) hx hb d_M_carriedBy_19 (by decide) ?_
    refine lv_goto (tgt := 47) hx hb d_M_carriedBy_20 (by decide) ?_
    exact W.lret hx hb hr (fun t ht hW => ⟨⟨_, (), rfl, by rw [← hq, oC, if_pos h1], by rw [ht]; exact hP, hD⟩, hS.F ht⟩) hS.2.2 d_M_carriedBy_47
set_option maxHeartbeats 4000000 in
set_option maxRecDepth 100000 in
theorem c_M_carried_b1 (l : Launch) {dC : Nat → ClassId} {dI : Nat → Nat → Nat} {cI cL cT : ClassId} {sa : Nat → Nat} (sz : Nat) (q : Nat → Nat) (th : Int32) (F nt : Nat) (ab be : Int64) (pp hh rm sd dr pe : Nat → Nat) (p0 p1 : Int32) (hn6 : nt ≤ 6) (hbad : ¬ ((1 ≤ p0.toInt ∧ p0.toInt ≤ 6) ∧ okTy nt p1)) : Met l y_M_carried (Cond.code y_M_carried b_M_carried 3 (some .long) :: gw) ({ frames := 4, cells := 0, slots := 0, locals := 109 } : Room) (wr dC dI cI cL cT sa [.ref (q 0), .int p0, .int p1] [(q 0, .inr (6, (mF q th F nt ab be))), (q 1, .inl (cI, 13, .inl (fun j => nI (pp j)))), (q 2, .inl (cI, 13, .inl (fun j => nI (hh j)))), (q 4, .inl (cI, 6, .inl (fun j => nI (rm j)))), (q 5, .inl (cI, 6, .inl (fun j => nI (sd j)))), (q 6, .inl (cI, 6, .inl (fun j => nI (dr j)))), (q 7, .inl (cI, 6, .inl (fun j => nI (pe j))))] sz) (va_Ql (fun r (_ : Unit) => r = lN 0) (wB dC dI [(q 0, .inr (6, (mF q th F nt ab be))), (q 1, .inl (cI, 13, .inl (fun j => nI (pp j)))), (q 2, .inl (cI, 13, .inl (fun j => nI (hh j)))), (q 4, .inl (cI, 6, .inl (fun j => nI (rm j)))), (q 5, .inl (cI, 6, .inl (fun j => nI (sd j)))), (q 6, .inl (cI, 6, .inl (fun j => nI (dr j)))), (q 7, .inl (cI, 6, .inl (fun j => nI (pe j))))] [(q 0, .inr (6, (mF q (nI 1) F nt ab be))), (q 1, .inl (cI, 13, .inl (fun j => nI (pp j)))), (q 2, .inl (cI, 13, .inl (fun j => nI (hh j)))), (q 4, .inl (cI, 6, .inl (fun j => nI (rm j)))), (q 5, .inl (cI, 6, .inl (fun j => nI (sd j)))), (q 6, .inl (cI, 6, .inl (fun j => nI (dr j)))), (q 7, .inl (cI, 6, .inl (fun j => nI (pe j))))] sz) (va_A [(q 0, .inr (6, (mF q th F nt ab be))), (q 1, .inl (cI, 13, .inl (fun j => nI (pp j)))), (q 2, .inl (cI, 13, .inl (fun j => nI (hh j)))), (q 4, .inl (cI, 6, .inl (fun j => nI (rm j)))), (q 5, .inl (cI, 6, .inl (fun j => nI (sd j)))), (q 6, .inl (cI, 6, .inl (fun j => nI (dr j)))), (q 7, .inl (cI, 6, .inl (fun j => nI (pe j))))] sz)) 0 0 (va_A [(q 0, .inr (6, (mF q th F nt ab be))), (q 1, .inl (cI, 13, .inl (fun j => nI (pp j)))), (q 2, .inl (cI, 13, .inl (fun j => nI (hh j)))), (q 4, .inl (cI, 6, .inl (fun j => nI (rm j)))), (q 5, .inl (cI, 6, .inl (fun j => nI (sd j)))), (q 6, .inl (cI, 6, .inl (fun j => nI (dr j)))), (q 7, .inl (cI, 6, .inl (fun j => nI (pe j))))] sz) := by
  refine Met.ofW (cc := b_M_carried) (maxL := 3) (ret := (some .long)) (by decide) rfl ?_
  intro p e s m args below meth c s₁ B hml hv
  obtain ⟨rfl, hsz, hC, hP, hD0⟩ := hv
  have hx := B.exec
  have hb := B.bytes
  have hr := B.returns
  have hts : ∀ w ∈ gw, w.before ([.ref (q 0), .int p0, .int p1] : List Value).toArray s = true := fun w hw => atoms_spec (ws := Cond.code y_M_carried b_M_carried 3 (some .long) :: gw) B.pre w (List.mem_cons_of_mem _ hw)
  have hown : s.vm.findClass R_M = some m.cls := findClass_of_methodNamed B.named
  have hlocks := B.notSynchronized
  have hK := hC.1
  have hfr : 4 ≤ (headSpec (Cond.code y_M_carried b_M_carried 3 (some .long) :: gw) ({ frames := 4, cells := 0, slots := 0, locals := 109 } : Room)).room.frames := Nat.le_refl _
  have hlo : 109 ≤ (headSpec (Cond.code y_M_carried b_M_carried 3 (some .long) :: gw) ({ frames := 4, cells := 0, slots := 0, locals := 109 } : Room)).room.locals := Nat.le_refl _
  have hce : 0 ≤ (headSpec (Cond.code y_M_carried b_M_carried 3 (some .long) :: gw) ({ frames := 4, cells := 0, slots := 0, locals := 109 } : Room)).room.cells := Nat.zero_le _
  have hsl : 0 ≤ (headSpec (Cond.code y_M_carried b_M_carried 3 (some .long) :: gw) ({ frames := 4, cells := 0, slots := 0, locals := 109 } : Room)).room.slots := Nat.zero_le _
  subst hsz
  have hD := hD0.self (sz := s.heap.size)
  unfold wB
  generalize hAe : va_A [(q 0, .inr (6, (mF q th F nt ab be))), (q 1, .inl (cI, 13, .inl (fun j => nI (pp j)))), (q 2, .inl (cI, 13, .inl (fun j => nI (hh j)))), (q 4, .inl (cI, 6, .inl (fun j => nI (rm j)))), (q 5, .inl (cI, 6, .inl (fun j => nI (sd j)))), (q 6, .inl (cI, 6, .inl (fun j => nI (dr j)))), (q 7, .inl (cI, 6, .inl (fun j => nI (pe j))))] s.heap.size = A at hD ⊢
  have hA : ∀ q : Nat, s.heap.size ≤ q → A q := fun q h => by rw [← hAe]; exact Or.inr h
  have hS : va_S A s.heap s.heap [] := va_S.rf
  have hl := lv_entry ([.ref (q 0), .int p0, .int p1]) (n := 3) (Nat.le_of_ble_eq_true rfl)
  rw [lg_entry_eq]
  generalize (lg_sl ([.ref (q 0), .int p0, .int p1]) ++ List.replicate (3 - (lg_sl ([.ref (q 0), .int p0, .int p1])).length) Slot.unset).toArray = ls at hl ⊢
  have hl : lv_has ls 3 [(0, .ref (q 0)), (1, .int p0), (2, .int p1)] := hl
  refine lv_aload_n hx hb d_M_carried_0 rfl (lv_at hl 0 rfl) ?_
  refine lv_iload_n hx hb d_M_carried_1 rfl (lv_at hl 1 rfl) ?_
  refine lv_iconst (v := nI 1) hx hb d_M_carried_2 (by decide) ?_
  refine lv_bipush (v := nI 6) hx hb d_M_carried_3 (by decide) ?_
  refine ro_calli (va_runS (As := [.int p0, .int (nI 1), .int (nI 6)]) (rest := [.ref (q 0)]) ⟨hx, hb, hml, hown, hts⟩ (c_M_isIn l p0 (nI 1) (nI 6) 1 6 (nI_toInt (by decide)) (nI_toInt (by decide))) (cwS 3 hts (gw_S k_539 k_537 k_538 k_6) rfl rfl rfl (by decide +kernel) ⟨Nat.le_trans (Nat.le_of_ble_eq_true rfl) hfr, Nat.le_trans (Nat.le_of_ble_eq_true rfl) hlo⟩) ⟨pr_blind, pr_at hC (fun k q h => by simp at h)⟩ rfl rfl hl.1 rfl (lv_room (Nat.le_of_ble_eq_true rfl)) d_M_carried_5 ⟨hce, hsl⟩) (fun r9 h9 => ?_)
  subst h9
  refine nx_b_eq (tgt := 25) hx hb d_M_carried_8 (by decide) (fun h1 => ?_) (fun h1 => ?_)
  · refine lv_iconst (v := nI 1) hx hb d_M_carried_25 (by decide) ?_
    refine lv_goto (tgt := 41) hx hb d_M_carried_26 (by decide) ?_
    refine va_put (D := (dC, dI)) (ci := 6) (v := .int (nI 1)) (ty := (.int)) (C := R_M) (T := F_M) (N := 17) hx hb hts i_M ft_M ft_M_ok n_M hown hK hP hD hS 0 rfl rfl 0 (by decide) (hts _ k_477) (fun _ h9 => h9) rfl (by decide +kernel) rfl rfl (Nat.le_of_ble_eq_true rfl) d_M_carried_41 (fun H locs hP hD hS => ?_)
    have hP : va_P (dC, dI) vwCl [(q 0, .inr (6, (mF q (nI 1) F nt ab be))), (q 1, .inl (cI, 13, .inl (fun j => nI (pp j)))), (q 2, .inl (cI, 13, .inl (fun j => nI (hh j)))), (q 4, .inl (cI, 6, .inl (fun j => nI (rm j)))), (q 5, .inl (cI, 6, .inl (fun j => nI (sd j)))), (q 6, .inl (cI, 6, .inl (fun j => nI (dr j)))), (q 7, .inl (cI, 6, .inl (fun j => nI (pe j))))] H := hP
    have hD : va_D A [(q 0, .inr (6, (mF q (nI 1) F nt ab be))), (q 1, .inl (cI, 13, .inl (fun j => nI (pp j)))), (q 2, .inl (cI, 13, .inl (fun j => nI (hh j)))), (q 4, .inl (cI, 6, .inl (fun j => nI (rm j)))), (q 5, .inl (cI, 6, .inl (fun j => nI (sd j)))), (q 6, .inl (cI, 6, .inl (fun j => nI (dr j)))), (q 7, .inl (cI, 6, .inl (fun j => nI (pe j))))] := hD
    refine lv_aload_n hx hb d_M_carried_44 rfl (lv_at hl 0 rfl) ?_
    refine va_get (D := (dC, dI)) (ci := 6) (v := .int (nI 1)) (C := R_M) (T := F_M) (N := 17) hx hb hts i_M hown hK hP 0 rfl rfl 0 (by decide) (hts _ k_477) (fun _ h9 => h9) rfl d_M_carried_45 ?_
    refine nx_if_le (tgt := 55) hx hb d_M_carried_48 (by decide) (by omega) (fun h9 => ?_) (fun h9 => ?_)
    · exact absurd h9 (by omega)
    · refine lv_lconst (v := lN 0) hx hb d_M_carried_51 (by decide) ?_
      refine lv_goto (tgt := 61) hx hb d_M_carried_52 (by decide) ?_
      exact W.lret hx hb hr (fun t ht hW => ⟨⟨_, (), rfl, rfl, by rw [ht]; exact hP, hD⟩, hS.F ht⟩) hS.2.2 d_M_carried_61
  · refine lv_iload_n hx hb d_M_carried_11 rfl (lv_at hl 2 rfl) ?_
    refine lv_iconst (v := nI 0) hx hb d_M_carried_12 (by decide) ?_
    refine lv_aload_n hx hb d_M_carried_13 rfl (lv_at hl 0 rfl) ?_
    refine va_get (D := (dC, dI)) (ci := 6) (v := .int (nI nt)) (C := R_M) (T := F_M) (N := 17) hx hb hts i_M hown hK hP 0 rfl rfl 9 (by decide) (hts _ k_486) (fun _ h9 => h9) rfl d_M_carried_14 ?_
    refine lv_iconst (v := nI 1) hx hb d_M_carried_17 (by decide) ?_
    refine lv_isub hx hb d_M_carried_18 ?_
    refine ro_calli (va_runS (As := [.int p1, .int (nI 0), .int (nI nt - nI 1)]) (rest := [.ref (q 0)]) ⟨hx, hb, hml, hown, hts⟩ (c_M_isIn l p1 (nI 0) (nI nt - nI 1) 0 ((nt : Int) - 1) (nI_toInt (by decide)) (by rw [pk_sub_toInt (by omega) (by decide)]; rfl)) (cwS 3 hts (gw_S k_539 k_537 k_538 k_6) rfl rfl rfl (by decide +kernel) ⟨Nat.le_trans (Nat.le_of_ble_eq_true rfl) hfr, Nat.le_trans (Nat.le_of_ble_eq_true rfl) hlo⟩) ⟨pr_blind, pr_at hC (fun k q h => by simp at h)⟩ rfl rfl hl.1 rfl (lv_room (Nat.le_of_ble_eq_true rfl)) d_M_carried_19 ⟨hce, hsl⟩) (fun r9 h9 => ?_)
    subst h9
    refine nx_b_ne (tgt := 29) hx hb d_M_carried_22 (by decide) (fun h2 => ?_) (fun h2 => ?_)
    · exact absurd ⟨h1, (by unfold okTy; omega)⟩ hbad
    · refine lv_iconst (v := nI 1) hx hb d_M_carried_25 (by decide) ?_
      refine lv_goto (tgt := 41) hx hb d_M_carried_26 (by decide) ?_
      refine va_put (D := (dC, dI)) (ci := 6) (v := .int (nI 1)) (ty := (.int)) (C := R_M) (T := F_M) (N := 17) hx hb hts i_M ft_M ft_M_ok n_M hown hK hP hD hS 0 rfl rfl 0 (by decide) (hts _ k_477) (fun _ h9 => h9) rfl (by decide +kernel) rfl rfl (Nat.le_of_ble_eq_true rfl) d_M_carried_41 (fun H locs hP hD hS => ?_)
      have hP : va_P (dC, dI) vwCl [(q 0, .inr (6, (mF q (nI 1) F nt ab be))), (q 1, .inl (cI, 13, .inl (fun j => nI (pp j)))), (q 2, .inl (cI, 13, .inl (fun j => nI (hh j)))), (q 4, .inl (cI, 6, .inl (fun j => nI (rm j)))), (q 5, .inl (cI, 6, .inl (fun j => nI (sd j)))), (q 6, .inl (cI, 6, .inl (fun j => nI (dr j)))), (q 7, .inl (cI, 6, .inl (fun j => nI (pe j))))] H := hP
      have hD : va_D A [(q 0, .inr (6, (mF q (nI 1) F nt ab be))), (q 1, .inl (cI, 13, .inl (fun j => nI (pp j)))), (q 2, .inl (cI, 13, .inl (fun j => nI (hh j)))), (q 4, .inl (cI, 6, .inl (fun j => nI (rm j)))), (q 5, .inl (cI, 6, .inl (fun j => nI (sd j)))), (q 6, .inl (cI, 6, .inl (fun j => nI (dr j)))), (q 7, .inl (cI, 6, .inl (fun j => nI (pe j))))] := hD
      refine lv_aload_n hx hb d_M_carried_44 rfl (lv_at hl 0 rfl) ?_
      refine va_get (D := (dC, dI)) (ci := 6) (v := .int (nI 1)) (C := R_M) (T := F_M) (N := 17) hx hb hts i_M hown hK hP 0 rfl rfl 0 (by decide) (hts _ k_477) (fun _ h9 => h9) rfl d_M_carried_45 ?_
      refine nx_if_le (tgt := 55) hx hb d_M_carried_48 (by decide) (by omega) (fun h9 => ?_) (fun h9 => ?_)
      · exact absurd h9 (by omega)
      · refine lv_lconst (v := lN 0) hx hb d_M_carried_51 (by decide) ?_
        refine lv_goto (tgt := 61) hx hb d_M_carried_52 (by decide) ?_
        exact W.lret hx hb hr (fun t ht hW => ⟨⟨_, (), rfl, rfl, by rw [ht]; exact hP, hD⟩, hS.F ht⟩) hS.2.2 d_M_carried_61
set_option maxHeartbeats 4000000 in
set_option maxRecDepth 100000 in
theorem c_M_carried_b2 (l : Launch) {dC : Nat → ClassId} {dI : Nat → Nat → Nat} {cI cL cT : ClassId} {sa : Nat → Nat} (sz : Nat) (q : Nat → Nat) (th : Int32) (F nt : Nat) (ab be : Int64) (pp hh rm sd dr pe : Nat → Nat) (cars t0 : Nat) (hF12 : F ≤ 12) (hn6 : nt ≤ 6) (hc1 : 1 ≤ cars) (hcars : cars ≤ 6) (ht0 : t0 < nt) (hbad : F = 0) : Met l y_M_carried (Cond.code y_M_carried b_M_carried 3 (some .long) :: gw) ({ frames := 4, cells := 0, slots := 0, locals := 109 } : Room) (wr dC dI cI cL cT sa [.ref (q 0), .int (nI cars), .int (nI t0)] [(q 0, .inr (6, (mF q th F nt ab be))), (q 1, .inl (cI, 13, .inl (fun j => nI (pp j)))), (q 2, .inl (cI, 13, .inl (fun j => nI (hh j)))), (q 4, .inl (cI, 6, .inl (fun j => nI (rm j)))), (q 5, .inl (cI, 6, .inl (fun j => nI (sd j)))), (q 6, .inl (cI, 6, .inl (fun j => nI (dr j)))), (q 7, .inl (cI, 6, .inl (fun j => nI (pe j))))] sz) (va_Ql (fun r (_ : Unit) => r = lN 0) (wB dC dI [(q 0, .inr (6, (mF q th F nt ab be))), (q 1, .inl (cI, 13, .inl (fun j => nI (pp j)))), (q 2, .inl (cI, 13, .inl (fun j => nI (hh j)))), (q 4, .inl (cI, 6, .inl (fun j => nI (rm j)))), (q 5, .inl (cI, 6, .inl (fun j => nI (sd j)))), (q 6, .inl (cI, 6, .inl (fun j => nI (dr j)))), (q 7, .inl (cI, 6, .inl (fun j => nI (pe j))))] [(q 0, .inr (6, (mF q (nI 2) F nt ab be))), (q 1, .inl (cI, 13, .inl (fun j => nI (pp j)))), (q 2, .inl (cI, 13, .inl (fun j => nI (hh j)))), (q 4, .inl (cI, 6, .inl (fun j => nI (rm j)))), (q 5, .inl (cI, 6, .inl (fun j => nI (sd j)))), (q 6, .inl (cI, 6, .inl (fun j => nI (dr j)))), (q 7, .inl (cI, 6, .inl (fun j => nI (pe j))))] sz) (va_A [(q 0, .inr (6, (mF q th F nt ab be))), (q 1, .inl (cI, 13, .inl (fun j => nI (pp j)))), (q 2, .inl (cI, 13, .inl (fun j => nI (hh j)))), (q 4, .inl (cI, 6, .inl (fun j => nI (rm j)))), (q 5, .inl (cI, 6, .inl (fun j => nI (sd j)))), (q 6, .inl (cI, 6, .inl (fun j => nI (dr j)))), (q 7, .inl (cI, 6, .inl (fun j => nI (pe j))))] sz)) 0 0 (va_A [(q 0, .inr (6, (mF q th F nt ab be))), (q 1, .inl (cI, 13, .inl (fun j => nI (pp j)))), (q 2, .inl (cI, 13, .inl (fun j => nI (hh j)))), (q 4, .inl (cI, 6, .inl (fun j => nI (rm j)))), (q 5, .inl (cI, 6, .inl (fun j => nI (sd j)))), (q 6, .inl (cI, 6, .inl (fun j => nI (dr j)))), (q 7, .inl (cI, 6, .inl (fun j => nI (pe j))))] sz) := by
  refine Met.ofW (cc := b_M_carried) (maxL := 3) (ret := (some .long)) (by decide) rfl ?_
  intro p e s m args below meth c s₁ B hml hv
  obtain ⟨rfl, hsz, hC, hP, hD0⟩ := hv
  have hx := B.exec
  have hb := B.bytes
  have hr := B.returns
  have hts : ∀ w ∈ gw, w.before ([.ref (q 0), .int (nI cars), .int (nI t0)] : List Value).toArray s = true := fun w hw => atoms_spec (ws := Cond.code y_M_carried b_M_carried 3 (some .long) :: gw) B.pre w (List.mem_cons_of_mem _ hw)
  have hown : s.vm.findClass R_M = some m.cls := findClass_of_methodNamed B.named
  have hlocks := B.notSynchronized
  have hK := hC.1
  have hfr : 4 ≤ (headSpec (Cond.code y_M_carried b_M_carried 3 (some .long) :: gw) ({ frames := 4, cells := 0, slots := 0, locals := 109 } : Room)).room.frames := Nat.le_refl _
  have hlo : 109 ≤ (headSpec (Cond.code y_M_carried b_M_carried 3 (some .long) :: gw) ({ frames := 4, cells := 0, slots := 0, locals := 109 } : Room)).room.locals := Nat.le_refl _
  have hce : 0 ≤ (headSpec (Cond.code y_M_carried b_M_carried 3 (some .long) :: gw) ({ frames := 4, cells := 0, slots := 0, locals := 109 } : Room)).room.cells := Nat.zero_le _
  have hsl : 0 ≤ (headSpec (Cond.code y_M_carried b_M_carried 3 (some .long) :: gw) ({ frames := 4, cells := 0, slots := 0, locals := 109 } : Room)).room.slots := Nat.zero_le _
  subst hsz
  have hD := hD0.self (sz := s.heap.size)
  unfold wB
  generalize hAe : va_A [(q 0, .inr (6, (mF q th F nt ab be))), (q 1, .inl (cI, 13, .inl (fun j => nI (pp j)))), (q 2, .inl (cI, 13, .inl (fun j => nI (hh j)))), (q 4, .inl (cI, 6, .inl (fun j => nI (rm j)))), (q 5, .inl (cI, 6, .inl (fun j => nI (sd j)))), (q 6, .inl (cI, 6, .inl (fun j => nI (dr j)))), (q 7, .inl (cI, 6, .inl (fun j => nI (pe j))))] s.heap.size = A at hD ⊢
  have hA : ∀ q : Nat, s.heap.size ≤ q → A q := fun q h => by rw [← hAe]; exact Or.inr h
  have hS : va_S A s.heap s.heap [] := va_S.rf
  have hl := lv_entry ([.ref (q 0), .int (nI cars), .int (nI t0)]) (n := 3) (Nat.le_of_ble_eq_true rfl)
  rw [lg_entry_eq]
  generalize (lg_sl ([.ref (q 0), .int (nI cars), .int (nI t0)]) ++ List.replicate (3 - (lg_sl ([.ref (q 0), .int (nI cars), .int (nI t0)])).length) Slot.unset).toArray = ls at hl ⊢
  have hl : lv_has ls 3 [(0, .ref (q 0)), (1, .int (nI cars)), (2, .int (nI t0))] := hl
  have hk1 := okTy_N ht0 hn6
  refine lv_aload_n hx hb d_M_carried_0 rfl (lv_at hl 0 rfl) ?_
  refine lv_iload_n hx hb d_M_carried_1 rfl (lv_at hl 1 rfl) ?_
  refine lv_iconst (v := nI 1) hx hb d_M_carried_2 (by decide) ?_
  refine lv_bipush (v := nI 6) hx hb d_M_carried_3 (by decide) ?_
  refine ro_calli (va_runS (As := [.int (nI cars), .int (nI 1), .int (nI 6)]) (rest := [.ref (q 0)]) ⟨hx, hb, hml, hown, hts⟩ (c_M_isInN l cars 1 6 (by omega) (by decide) (by decide)) (cwS 3 hts (gw_S k_539 k_537 k_538 k_6) rfl rfl rfl (by decide +kernel) ⟨Nat.le_trans (Nat.le_of_ble_eq_true rfl) hfr, Nat.le_trans (Nat.le_of_ble_eq_true rfl) hlo⟩) ⟨pr_blind, pr_at hC (fun k q h => by simp at h)⟩ rfl rfl hl.1 rfl (lv_room (Nat.le_of_ble_eq_true rfl)) d_M_carried_5 ⟨hce, hsl⟩) (fun r9 h9 => ?_)
  subst h9
  refine nx_b_eq (tgt := 25) hx hb d_M_carried_8 (by decide) (fun h1 => ?_) (fun h1 => ?_)
  · exact absurd (show 1 ≤ cars ∧ cars ≤ 6 by omega) h1
  · refine lv_iload_n hx hb d_M_carried_11 rfl (lv_at hl 2 rfl) ?_
    refine lv_iconst (v := nI 0) hx hb d_M_carried_12 (by decide) ?_
    refine lv_aload_n hx hb d_M_carried_13 rfl (lv_at hl 0 rfl) ?_
    refine va_get (D := (dC, dI)) (ci := 6) (v := .int (nI nt)) (C := R_M) (T := F_M) (N := 17) hx hb hts i_M hown hK hP 0 rfl rfl 9 (by decide) (hts _ k_486) (fun _ h9 => h9) rfl d_M_carried_14 ?_
    refine lv_iconst (v := nI 1) hx hb d_M_carried_17 (by decide) ?_
    refine lv_isub hx hb d_M_carried_18 ?_
    refine ro_calli (va_runS (As := [.int (nI t0), .int (nI 0), .int (nI nt - nI 1)]) (rest := [.ref (q 0)]) ⟨hx, hb, hml, hown, hts⟩ (c_M_isIn l (nI t0) (nI 0) (nI nt - nI 1) 0 ((nt : Int) - 1) (nI_toInt (by decide)) (by rw [pk_sub_toInt (by omega) (by decide)]; rfl)) (cwS 3 hts (gw_S k_539 k_537 k_538 k_6) rfl rfl rfl (by decide +kernel) ⟨Nat.le_trans (Nat.le_of_ble_eq_true rfl) hfr, Nat.le_trans (Nat.le_of_ble_eq_true rfl) hlo⟩) ⟨pr_blind, pr_at hC (fun k q h => by simp at h)⟩ rfl rfl hl.1 rfl (lv_room (Nat.le_of_ble_eq_true rfl)) d_M_carried_19 ⟨hce, hsl⟩) (fun r9 h9 => ?_)
    subst h9
    refine nx_b_ne (tgt := 29) hx hb d_M_carried_22 (by decide) (fun h2 => ?_) (fun h2 => ?_)
    · refine lv_aload_n hx hb d_M_carried_29 rfl (lv_at hl 0 rfl) ?_
      refine va_get (D := (dC, dI)) (ci := 6) (v := .int (nI F)) (C := R_M) (T := F_M) (N := 17) hx hb hts i_M hown hK hP 0 rfl rfl 3 (by decide) (hts _ k_480) (fun _ h9 => h9) rfl d_M_carried_30 ?_
      refine nx_if_ne (tgt := 40) hx hb d_M_carried_33 (by decide) (by omega) (fun h3 => ?_) (fun h3 => ?_)
      · exact absurd hbad (by omega)
      · refine lv_iconst (v := nI 2) hx hb d_M_carried_36 (by decide) ?_
        refine lv_goto (tgt := 41) hx hb d_M_carried_37 (by decide) ?_
        refine va_put (D := (dC, dI)) (ci := 6) (v := .int (nI 2)) (ty := (.int)) (C := R_M) (T := F_M) (N := 17) hx hb hts i_M ft_M ft_M_ok n_M hown hK hP hD hS 0 rfl rfl 0 (by decide) (hts _ k_477) (fun _ h9 => h9) rfl (by decide +kernel) rfl rfl (Nat.le_of_ble_eq_true rfl) d_M_carried_41 (fun H locs hP hD hS => ?_)
        have hP : va_P (dC, dI) vwCl [(q 0, .inr (6, (mF q (nI 2) F nt ab be))), (q 1, .inl (cI, 13, .inl (fun j => nI (pp j)))), (q 2, .inl (cI, 13, .inl (fun j => nI (hh j)))), (q 4, .inl (cI, 6, .inl (fun j => nI (rm j)))), (q 5, .inl (cI, 6, .inl (fun j => nI (sd j)))), (q 6, .inl (cI, 6, .inl (fun j => nI (dr j)))), (q 7, .inl (cI, 6, .inl (fun j => nI (pe j))))] H := hP
        have hD : va_D A [(q 0, .inr (6, (mF q (nI 2) F nt ab be))), (q 1, .inl (cI, 13, .inl (fun j => nI (pp j)))), (q 2, .inl (cI, 13, .inl (fun j => nI (hh j)))), (q 4, .inl (cI, 6, .inl (fun j => nI (rm j)))), (q 5, .inl (cI, 6, .inl (fun j => nI (sd j)))), (q 6, .inl (cI, 6, .inl (fun j => nI (dr j)))), (q 7, .inl (cI, 6, .inl (fun j => nI (pe j))))] := hD
        refine lv_aload_n hx hb d_M_carried_44 rfl (lv_at hl 0 rfl) ?_
        refine va_get (D := (dC, dI)) (ci := 6) (v := .int (nI 2)) (C := R_M) (T := F_M) (N := 17) hx hb hts i_M hown hK hP 0 rfl rfl 0 (by decide) (hts _ k_477) (fun _ h9 => h9) rfl d_M_carried_45 ?_
        refine nx_if_le (tgt := 55) hx hb d_M_carried_48 (by decide) (by omega) (fun h9 => ?_) (fun h9 => ?_)
        · exact absurd h9 (by omega)
        · refine lv_lconst (v := lN 0) hx hb d_M_carried_51 (by decide) ?_
          refine lv_goto (tgt := 61) hx hb d_M_carried_52 (by decide) ?_
          exact W.lret hx hb hr (fun t ht hW => ⟨⟨_, (), rfl, rfl, by rw [ht]; exact hP, hD⟩, hS.F ht⟩) hS.2.2 d_M_carried_61
    · exact absurd (by unfold okTy at hk1; omega) h2
set_option maxHeartbeats 4000000 in
set_option maxRecDepth 100000 in
theorem c_M_carried (l : Launch) {dC : Nat → ClassId} {dI : Nat → Nat → Nat} {cI cL cT : ClassId} {sa : Nat → Nat} (sz : Nat) (q : Nat → Nat) (th : Int32) (F nt : Nat) (ab be : Int64) (pp hh rm sd dr pe : Nat → Nat) (cars t0 : Nat) (hF12 : F ≤ 12) (hn6 : nt ≤ 6) (hc1 : 1 ≤ cars) (hcars : cars ≤ 6) (ht0 : t0 < nt) (hF1 : 1 ≤ F) (hU2 : sm pp 1 F ≤ 200) (hhh : ∀ k, k < F → hh (1 + k) ≤ 1200) (hrm : 1 ≤ rm t0 ∧ rm t0 ≤ 5) (hsd : 1 ≤ sd t0 ∧ sd t0 ≤ 100) (hdr : dr t0 ≤ 30) (hpe : pe t0 ≤ 10) : Met l y_M_carried (Cond.code y_M_carried b_M_carried 3 (some .long) :: gw) ({ frames := 4, cells := 0, slots := 0, locals := 109 } : Room) (wr dC dI cI cL cT sa [.ref (q 0), .int (nI cars), .int (nI t0)] [(q 0, .inr (6, (mF q th F nt ab be))), (q 1, .inl (cI, 13, .inl (fun j => nI (pp j)))), (q 2, .inl (cI, 13, .inl (fun j => nI (hh j)))), (q 4, .inl (cI, 6, .inl (fun j => nI (rm j)))), (q 5, .inl (cI, 6, .inl (fun j => nI (sd j)))), (q 6, .inl (cI, 6, .inl (fun j => nI (dr j)))), (q 7, .inl (cI, 6, .inl (fun j => nI (pe j))))] sz) (va_Ql (fun r (_ : Unit) => r = lN (oC cars (rm t0) (tA pp hh 1 F (rm t0) (sd t0) (dr t0) (pe t0)) (tB pp 1 F (rm t0) (sd t0)))) (wB dC dI [(q 0, .inr (6, (mF q th F nt ab be))), (q 1, .inl (cI, 13, .inl (fun j => nI (pp j)))), (q 2, .inl (cI, 13, .inl (fun j => nI (hh j)))), (q 4, .inl (cI, 6, .inl (fun j => nI (rm j)))), (q 5, .inl (cI, 6, .inl (fun j => nI (sd j)))), (q 6, .inl (cI, 6, .inl (fun j => nI (dr j)))), (q 7, .inl (cI, 6, .inl (fun j => nI (pe j))))] [(q 0, .inr (6, (mF q (nI 0) F nt (lN ((tA pp hh 1 F (rm t0) (sd t0) (dr t0) (pe t0)) / Nat.gcd (tA pp hh 1 F (rm t0) (sd t0) (dr t0) (pe t0)) (tB pp 1 F (rm t0) (sd t0)))) (lN ((tB pp 1 F (rm t0) (sd t0)) / Nat.gcd (tA pp hh 1 F (rm t0) (sd t0) (dr t0) (pe t0)) (tB pp 1 F (rm t0) (sd t0))))))), (q 1, .inl (cI, 13, .inl (fun j => nI (pp j)))), (q 2, .inl (cI, 13, .inl (fun j => nI (hh j)))), (q 4, .inl (cI, 6, .inl (fun j => nI (rm j)))), (q 5, .inl (cI, 6, .inl (fun j => nI (sd j)))), (q 6, .inl (cI, 6, .inl (fun j => nI (dr j)))), (q 7, .inl (cI, 6, .inl (fun j => nI (pe j))))] sz) (va_A [(q 0, .inr (6, (mF q th F nt ab be))), (q 1, .inl (cI, 13, .inl (fun j => nI (pp j)))), (q 2, .inl (cI, 13, .inl (fun j => nI (hh j)))), (q 4, .inl (cI, 6, .inl (fun j => nI (rm j)))), (q 5, .inl (cI, 6, .inl (fun j => nI (sd j)))), (q 6, .inl (cI, 6, .inl (fun j => nI (dr j)))), (q 7, .inl (cI, 6, .inl (fun j => nI (pe j))))] sz)) 0 0 (va_A [(q 0, .inr (6, (mF q th F nt ab be))), (q 1, .inl (cI, 13, .inl (fun j => nI (pp j)))), (q 2, .inl (cI, 13, .inl (fun j => nI (hh j)))), (q 4, .inl (cI, 6, .inl (fun j => nI (rm j)))), (q 5, .inl (cI, 6, .inl (fun j => nI (sd j)))), (q 6, .inl (cI, 6, .inl (fun j => nI (dr j)))), (q 7, .inl (cI, 6, .inl (fun j => nI (pe j))))] sz) := by
  refine Met.ofW (cc := b_M_carried) (maxL := 3) (ret := (some .long)) (by decide) rfl ?_
  intro p e s m args below meth c s₁ B hml hv
  obtain ⟨rfl, hsz, hC, hP, hD0⟩ := hv
  have hx := B.exec
  have hb := B.bytes
  have hr := B.returns
  have hts : ∀ w ∈ gw, w.before ([.ref (q 0), .int (nI cars), .int (nI t0)] : List Value).toArray s = true := fun w hw => atoms_spec (ws := Cond.code y_M_carried b_M_carried 3 (some .long) :: gw) B.pre w (List.mem_cons_of_mem _ hw)
  have hown : s.vm.findClass R_M = some m.cls := findClass_of_methodNamed B.named
  have hlocks := B.notSynchronized
  have hK := hC.1
  have hfr : 4 ≤ (headSpec (Cond.code y_M_carried b_M_carried 3 (some .long) :: gw) ({ frames := 4, cells := 0, slots := 0, locals := 109 } : Room)).room.frames := Nat.le_refl _
  have hlo : 109 ≤ (headSpec (Cond.code y_M_carried b_M_carried 3 (some .long) :: gw) ({ frames := 4, cells := 0, slots := 0, locals := 109 } : Room)).room.locals := Nat.le_refl _
  have hce : 0 ≤ (headSpec (Cond.code y_M_carried b_M_carried 3 (some .long) :: gw) ({ frames := 4, cells := 0, slots := 0, locals := 109 } : Room)).room.cells := Nat.zero_le _
  have hsl : 0 ≤ (headSpec (Cond.code y_M_carried b_M_carried 3 (some .long) :: gw) ({ frames := 4, cells := 0, slots := 0, locals := 109 } : Room)).room.slots := Nat.zero_le _
  subst hsz
  have hD := hD0.self (sz := s.heap.size)
  unfold wB
  generalize hAe : va_A [(q 0, .inr (6, (mF q th F nt ab be))), (q 1, .inl (cI, 13, .inl (fun j => nI (pp j)))), (q 2, .inl (cI, 13, .inl (fun j => nI (hh j)))), (q 4, .inl (cI, 6, .inl (fun j => nI (rm j)))), (q 5, .inl (cI, 6, .inl (fun j => nI (sd j)))), (q 6, .inl (cI, 6, .inl (fun j => nI (dr j)))), (q 7, .inl (cI, 6, .inl (fun j => nI (pe j))))] s.heap.size = A at hD ⊢
  have hA : ∀ q : Nat, s.heap.size ≤ q → A q := fun q h => by rw [← hAe]; exact Or.inr h
  have hS : va_S A s.heap s.heap [] := va_S.rf
  have hl := lv_entry ([.ref (q 0), .int (nI cars), .int (nI t0)]) (n := 3) (Nat.le_of_ble_eq_true rfl)
  rw [lg_entry_eq]
  generalize (lg_sl ([.ref (q 0), .int (nI cars), .int (nI t0)]) ++ List.replicate (3 - (lg_sl ([.ref (q 0), .int (nI cars), .int (nI t0)])).length) Slot.unset).toArray = ls at hl ⊢
  have hl : lv_has ls 3 [(0, .ref (q 0)), (1, .int (nI cars)), (2, .int (nI t0))] := hl
  have hk1 := okTy_N ht0 hn6
  refine lv_aload_n hx hb d_M_carried_0 rfl (lv_at hl 0 rfl) ?_
  refine lv_iload_n hx hb d_M_carried_1 rfl (lv_at hl 1 rfl) ?_
  refine lv_iconst (v := nI 1) hx hb d_M_carried_2 (by decide) ?_
  refine lv_bipush (v := nI 6) hx hb d_M_carried_3 (by decide) ?_
  refine ro_calli (va_runS (As := [.int (nI cars), .int (nI 1), .int (nI 6)]) (rest := [.ref (q 0)]) ⟨hx, hb, hml, hown, hts⟩ (c_M_isInN l cars 1 6 (by omega) (by decide) (by decide)) (cwS 3 hts (gw_S k_539 k_537 k_538 k_6) rfl rfl rfl (by decide +kernel) ⟨Nat.le_trans (Nat.le_of_ble_eq_true rfl) hfr, Nat.le_trans (Nat.le_of_ble_eq_true rfl) hlo⟩) ⟨pr_blind, pr_at hC (fun k q h => by simp at h)⟩ rfl rfl hl.1 rfl (lv_room (Nat.le_of_ble_eq_true rfl)) d_M_carried_5 ⟨hce, hsl⟩) (fun r9 h9 => ?_)
  subst h9
  refine nx_b_eq (tgt := 25) hx hb d_M_carried_8 (by decide) (fun h1 => ?_) (fun h1 => ?_)
  · exact absurd (show 1 ≤ cars ∧ cars ≤ 6 by omega) h1
  · refine lv_iload_n hx hb d_M_carried_11 rfl (lv_at hl 2 rfl) ?_
    refine lv_iconst (v := nI 0) hx hb d_M_carried_12 (by decide) ?_
    refine lv_aload_n hx hb d_M_carried_13 rfl (lv_at hl 0 rfl) ?_
    refine va_get (D := (dC, dI)) (ci := 6) (v := .int (nI nt)) (C := R_M) (T := F_M) (N := 17) hx hb hts i_M hown hK hP 0 rfl rfl 9 (by decide) (hts _ k_486) (fun _ h9 => h9) rfl d_M_carried_14 ?_
    refine lv_iconst (v := nI 1) hx hb d_M_carried_17 (by decide) ?_
    refine lv_isub hx hb d_M_carried_18 ?_
    refine ro_calli (va_runS (As := [.int (nI t0), .int (nI 0), .int (nI nt - nI 1)]) (rest := [.ref (q 0)]) ⟨hx, hb, hml, hown, hts⟩ (c_M_isIn l (nI t0) (nI 0) (nI nt - nI 1) 0 ((nt : Int) - 1) (nI_toInt (by decide)) (by rw [pk_sub_toInt (by omega) (by decide)]; rfl)) (cwS 3 hts (gw_S k_539 k_537 k_538 k_6) rfl rfl rfl (by decide +kernel) ⟨Nat.le_trans (Nat.le_of_ble_eq_true rfl) hfr, Nat.le_trans (Nat.le_of_ble_eq_true rfl) hlo⟩) ⟨pr_blind, pr_at hC (fun k q h => by simp at h)⟩ rfl rfl hl.1 rfl (lv_room (Nat.le_of_ble_eq_true rfl)) d_M_carried_19 ⟨hce, hsl⟩) (fun r9 h9 => ?_)
    subst h9
    refine nx_b_ne (tgt := 29) hx hb d_M_carried_22 (by decide) (fun h2 => ?_) (fun h2 => ?_)
    · refine lv_aload_n hx hb d_M_carried_29 rfl (lv_at hl 0 rfl) ?_
      refine va_get (D := (dC, dI)) (ci := 6) (v := .int (nI F)) (C := R_M) (T := F_M) (N := 17) hx hb hts i_M hown hK hP 0 rfl rfl 3 (by decide) (hts _ k_480) (fun _ h9 => h9) rfl d_M_carried_30 ?_
      refine nx_if_ne (tgt := 40) hx hb d_M_carried_33 (by decide) (by omega) (fun h3 => ?_) (fun h3 => ?_)
      · refine lv_iconst (v := nI 0) hx hb d_M_carried_40 (by decide) ?_
        refine va_put (D := (dC, dI)) (ci := 6) (v := .int (nI 0)) (ty := (.int)) (C := R_M) (T := F_M) (N := 17) hx hb hts i_M ft_M ft_M_ok n_M hown hK hP hD hS 0 rfl rfl 0 (by decide) (hts _ k_477) (fun _ h9 => h9) rfl (by decide +kernel) rfl rfl (Nat.le_of_ble_eq_true rfl) d_M_carried_41 (fun H locs hP hD hS => ?_)
        have hP : va_P (dC, dI) vwCl [(q 0, .inr (6, (mF q (nI 0) F nt ab be))), (q 1, .inl (cI, 13, .inl (fun j => nI (pp j)))), (q 2, .inl (cI, 13, .inl (fun j => nI (hh j)))), (q 4, .inl (cI, 6, .inl (fun j => nI (rm j)))), (q 5, .inl (cI, 6, .inl (fun j => nI (sd j)))), (q 6, .inl (cI, 6, .inl (fun j => nI (dr j)))), (q 7, .inl (cI, 6, .inl (fun j => nI (pe j))))] H := hP
        have hD : va_D A [(q 0, .inr (6, (mF q (nI 0) F nt ab be))), (q 1, .inl (cI, 13, .inl (fun j => nI (pp j)))), (q 2, .inl (cI, 13, .inl (fun j => nI (hh j)))), (q 4, .inl (cI, 6, .inl (fun j => nI (rm j)))), (q 5, .inl (cI, 6, .inl (fun j => nI (sd j)))), (q 6, .inl (cI, 6, .inl (fun j => nI (dr j)))), (q 7, .inl (cI, 6, .inl (fun j => nI (pe j))))] := hD
        refine lv_aload_n hx hb d_M_carried_44 rfl (lv_at hl 0 rfl) ?_
        refine va_get (D := (dC, dI)) (ci := 6) (v := .int (nI 0)) (C := R_M) (T := F_M) (N := 17) hx hb hts i_M hown hK hP 0 rfl rfl 0 (by decide) (hts _ k_477) (fun _ h9 => h9) rfl d_M_carried_45 ?_
        refine nx_if_le (tgt := 55) hx hb d_M_carried_48 (by decide) (by omega) (fun h9 => ?_) (fun h9 => ?_)
        · refine lv_aload_n hx hb d_M_carried_55 rfl (lv_at hl 0 rfl) ?_
          refine lv_iload_n hx hb d_M_carried_56 rfl (lv_at hl 1 rfl) ?_
          refine lv_iload_n hx hb d_M_carried_57 rfl (lv_at hl 2 rfl) ?_
          have hPc := hP.sub (ws' := [(q 0, .inr (6, (mF q (nI 0) F nt ab be))), (q 1, .inl (cI, 13, .inl (fun j => nI (pp j)))), (q 2, .inl (cI, 13, .inl (fun j => nI (hh j)))), (q 4, .inl (cI, 6, .inl (fun j => nI (rm j)))), (q 5, .inl (cI, 6, .inl (fun j => nI (sd j)))), (q 6, .inl (cI, 6, .inl (fun j => nI (dr j)))), (q 7, .inl (cI, 6, .inl (fun j => nI (pe j))))]) [0, 1, 2, 3, 4, 5, 6] rfl
          have hDc := hD.sub (ws' := [(q 0, .inr (6, (mF q (nI 0) F nt ab be))), (q 1, .inl (cI, 13, .inl (fun j => nI (pp j)))), (q 2, .inl (cI, 13, .inl (fun j => nI (hh j)))), (q 4, .inl (cI, 6, .inl (fun j => nI (rm j)))), (q 5, .inl (cI, 6, .inl (fun j => nI (sd j)))), (q 6, .inl (cI, 6, .inl (fun j => nI (dr j)))), (q 7, .inl (cI, 6, .inl (fun j => nI (pe j))))]) [0, 1, 2, 3, 4, 5, 6] (by decide) rfl
          have hFc := va_free (wc := [(q 0, .inr (6, (mF q (nI 0) F nt ab be))), (q 1, .inl (cI, 13, .inl (fun j => nI (pp j)))), (q 2, .inl (cI, 13, .inl (fun j => nI (hh j)))), (q 4, .inl (cI, 6, .inl (fun j => nI (rm j)))), (q 5, .inl (cI, 6, .inl (fun j => nI (sd j)))), (q 6, .inl (cI, 6, .inl (fun j => nI (dr j)))), (q 7, .inl (cI, 6, .inl (fun j => nI (pe j))))]) hD hS hA [0, 1, 2, 3, 4, 5, 6] rfl
          refine va_calll (va_runV (As := [.int (nI cars), .int (nI t0)]) (rest := []) ⟨hx, hb, hml, hown, hts⟩ (c_M_carriedBy l _ q (nI 0) F nt ab be pp hh rm sd dr pe cars t0 hF12 (by omega) hcars hU2 hhh hrm hsd hdr hpe) (cwV 2 hts (gw_V k_615 k_612 k_614 ks_M_carriedBy k_6) rfl rfl rfl (by decide +kernel) ⟨Nat.le_trans (Nat.le_of_ble_eq_true rfl) hfr, Nat.le_trans (Nat.le_of_ble_eq_true rfl) hlo⟩) ⟨wr_blind, va_recv hK hP (ci := 6) (q0 := 0) rfl rfl, wr_at hC hPc hDc⟩ rfl rfl hl.1 rfl (lv_room (Nat.le_of_ble_eq_true rfl)) d_M_carried_58 ⟨hce, hsl⟩) hS (fun q _ h => hFc q h) hFc (fun r9 u t H1 locs ht hvm hw hB hz1 hk1 hS => ?_)
          obtain ⟨hP1, hD1⟩ := hB
          rw [ht] at hP1
          obtain ⟨hP, hD⟩ := va_join (wr := []) (w1 := [(q 0, .inr (6, (mF q (nI 0) F nt (lN ((tA pp hh 1 F (rm t0) (sd t0) (dr t0) (pe t0)) / Nat.gcd (tA pp hh 1 F (rm t0) (sd t0) (dr t0) (pe t0)) (tB pp 1 F (rm t0) (sd t0)))) (lN ((tB pp 1 F (rm t0) (sd t0)) / Nat.gcd (tA pp hh 1 F (rm t0) (sd t0) (dr t0) (pe t0)) (tB pp 1 F (rm t0) (sd t0))))))), (q 1, .inl (cI, 13, .inl (fun j => nI (pp j)))), (q 2, .inl (cI, 13, .inl (fun j => nI (hh j)))), (q 4, .inl (cI, 6, .inl (fun j => nI (rm j)))), (q 5, .inl (cI, 6, .inl (fun j => nI (sd j)))), (q 6, .inl (cI, 6, .inl (fun j => nI (dr j)))), (q 7, .inl (cI, 6, .inl (fun j => nI (pe j))))]) hP hD [0, 1, 2, 3, 4, 5, 6] [] rfl rfl (by decide) (by decide) hk1 hFc hP1 hD1
          generalize H1 = H at hP hS ⊢
          have hP := hP.sub (ws' := [(q 0, .inr (6, (mF q (nI 0) F nt (lN ((tA pp hh 1 F (rm t0) (sd t0) (dr t0) (pe t0)) / Nat.gcd (tA pp hh 1 F (rm t0) (sd t0) (dr t0) (pe t0)) (tB pp 1 F (rm t0) (sd t0)))) (lN ((tB pp 1 F (rm t0) (sd t0)) / Nat.gcd (tA pp hh 1 F (rm t0) (sd t0) (dr t0) (pe t0)) (tB pp 1 F (rm t0) (sd t0))))))), (q 1, .inl (cI, 13, .inl (fun j => nI (pp j)))), (q 2, .inl (cI, 13, .inl (fun j => nI (hh j)))), (q 4, .inl (cI, 6, .inl (fun j => nI (rm j)))), (q 5, .inl (cI, 6, .inl (fun j => nI (sd j)))), (q 6, .inl (cI, 6, .inl (fun j => nI (dr j)))), (q 7, .inl (cI, 6, .inl (fun j => nI (pe j))))]) [0, 1, 2, 3, 4, 5, 6] rfl
          have hD := hD.sub (ws' := [(q 0, .inr (6, (mF q (nI 0) F nt (lN ((tA pp hh 1 F (rm t0) (sd t0) (dr t0) (pe t0)) / Nat.gcd (tA pp hh 1 F (rm t0) (sd t0) (dr t0) (pe t0)) (tB pp 1 F (rm t0) (sd t0)))) (lN ((tB pp 1 F (rm t0) (sd t0)) / Nat.gcd (tA pp hh 1 F (rm t0) (sd t0) (dr t0) (pe t0)) (tB pp 1 F (rm t0) (sd t0))))))), (q 1, .inl (cI, 13, .inl (fun j => nI (pp j)))), (q 2, .inl (cI, 13, .inl (fun j => nI (hh j)))), (q 4, .inl (cI, 6, .inl (fun j => nI (rm j)))), (q 5, .inl (cI, 6, .inl (fun j => nI (sd j)))), (q 6, .inl (cI, 6, .inl (fun j => nI (dr j)))), (q 7, .inl (cI, 6, .inl (fun j => nI (pe j))))]) [0, 1, 2, 3, 4, 5, 6] (by decide) rfl
          subst hw
          exact W.lret hx hb hr (fun t ht hW => ⟨⟨_, (), rfl, rfl, by rw [ht]; exact hP, hD⟩, hS.F ht⟩) hS.2.2 d_M_carried_61
        · exact absurd h9 (by omega)
      · exact absurd h3 (by omega)
    · exact absurd (by unfold okTy at hk1; omega) h2
