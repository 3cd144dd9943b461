set_option maxHeartbeats 4000000 in
set_option maxRecDepth 100000 in
theorem c_M_floor_b1 (l : Launch) {dC : Nat → ClassId} {dI : Nat → Nat → Nat} {cI cL cT : ClassId} {sa : Nat → Nat} (sz : Nat) (q : Nat → Nat) (th : Int32) (F nt : Nat) (ab be : Int64) (pp hh : Nat → Nat) (p0 p1 : Int32) (hbad : ¬ ((0 ≤ p0.toInt ∧ p0.toInt ≤ 200) ∧ (10 ≤ p1.toInt ∧ p1.toInt ≤ 100))) : Met l y_M_floor (Cond.code y_M_floor b_M_floor 3 (some .int) :: gw) ({ frames := 1, cells := 0, slots := 0, locals := 22 } : Room) (wr dC dI cI cL cT sa [.ref (q 0), .int p0, .int p1] [(q 0, .inr (6, (mF q th F nt ab be))), (q 1, .inl (cI, 13, .inl (fun j => nI (pp j)))), (q 2, .inl (cI, 13, .inl (fun j => nI (hh j))))] sz) (va_Qi (fun r (_ : Unit) => r = nI 0) (wB dC dI [(q 0, .inr (6, (mF q th F nt ab be))), (q 1, .inl (cI, 13, .inl (fun j => nI (pp j)))), (q 2, .inl (cI, 13, .inl (fun j => nI (hh j))))] [(q 0, .inr (6, (mF q (nI 1) F nt ab be))), (q 1, .inl (cI, 13, .inl (fun j => nI (pp j)))), (q 2, .inl (cI, 13, .inl (fun j => nI (hh j))))] sz) (va_A [(q 0, .inr (6, (mF q th F nt ab be))), (q 1, .inl (cI, 13, .inl (fun j => nI (pp j)))), (q 2, .inl (cI, 13, .inl (fun j => nI (hh j))))] sz)) 0 0 (va_A [(q 0, .inr (6, (mF q th F nt ab be))), (q 1, .inl (cI, 13, .inl (fun j => nI (pp j)))), (q 2, .inl (cI, 13, .inl (fun j => nI (hh j))))] sz) := by
  refine Met.ofW (cc := b_M_floor) (maxL := 3) (ret := (some .int)) (by decide) rfl ?_
  intro p e s m args below meth c s₁ B hml hv
  obtain ⟨rfl, hsz, hC, hP, hD0⟩ := hv
  have hx := B.exec
  have hb := B.bytes
  have hr := B.returns
  have hts : ∀ w ∈ gw, w.before ([.ref (q 0), .int p0, .int p1] : List Value).toArray s = true := fun w hw => atoms_spec (ws := Cond.code y_M_floor b_M_floor 3 (some .int) :: gw) B.pre w (List.mem_cons_of_mem _ hw)
  have hown : s.vm.findClass R_M = some m.cls := findClass_of_methodNamed B.named
  have hlocks := B.notSynchronized
  have hK := hC.1
  have hfr : 1 ≤ (headSpec (Cond.code y_M_floor b_M_floor 3 (some .int) :: gw) ({ frames := 1, cells := 0, slots := 0, locals := 22 } : Room)).room.frames := Nat.le_refl _
  have hlo : 22 ≤ (headSpec (Cond.code y_M_floor b_M_floor 3 (some .int) :: gw) ({ frames := 1, cells := 0, slots := 0, locals := 22 } : Room)).room.locals := Nat.le_refl _
  have hce : 0 ≤ (headSpec (Cond.code y_M_floor b_M_floor 3 (some .int) :: gw) ({ frames := 1, cells := 0, slots := 0, locals := 22 } : Room)).room.cells := Nat.zero_le _
  have hsl : 0 ≤ (headSpec (Cond.code y_M_floor b_M_floor 3 (some .int) :: gw) ({ frames := 1, cells := 0, slots := 0, locals := 22 } : Room)).room.slots := Nat.zero_le _
  subst hsz
  have hD := hD0.self (sz := s.heap.size)
  unfold wB
  generalize hAe : va_A [(q 0, .inr (6, (mF q th F nt ab be))), (q 1, .inl (cI, 13, .inl (fun j => nI (pp j)))), (q 2, .inl (cI, 13, .inl (fun j => nI (hh j))))] s.heap.size = A at hD ⊢
  have hA : ∀ q : Nat, s.heap.size ≤ q → A q := fun q h => by rw [← hAe]; exact Or.inr h
  have hS : va_S A s.heap s.heap [] := va_S.rf
  have hl := lv_entry ([.ref (q 0), .int p0, .int p1]) (n := 3) (Nat.le_of_ble_eq_true rfl)
  rw [lg_entry_eq]
  generalize (lg_sl ([.ref (q 0), .int p0, .int p1]) ++ List.replicate (3 - (lg_sl ([.ref (q 0), .int p0, .int p1])).length) Slot.unset).toArray = ls at hl ⊢
  have hl : lv_has ls 3 [(0, .ref (q 0)), (1, .int p0), (2, .int p1)] := hl
  refine lv_aload_n hx hb d_M_floor_0 rfl (lv_at hl 0 rfl) ?_
  refine lv_iload_n hx hb d_M_floor_1 rfl (lv_at hl 1 rfl) ?_
  refine lv_iconst (v := nI 0) hx hb d_M_floor_2 (by decide) ?_
  refine lv_sipush (v := nI 200) hx hb d_M_floor_3 (by decide) ?_
  refine ro_calli (va_runS (As := [.int p0, .int (nI 0), .int (nI 200)]) (rest := [.ref (q 0)]) ⟨hx, hb, hml, hown, hts⟩ (c_M_isIn l p0 (nI 0) (nI 200) 0 200 (nI_toInt (by decide)) (nI_toInt (by decide))) (cwS 3 hts (gw_S k_539 k_537 k_538 k_6) rfl rfl rfl (by decide +kernel) ⟨Nat.le_trans (Nat.le_of_ble_eq_true rfl) hfr, Nat.le_trans (Nat.le_of_ble_eq_true rfl) hlo⟩) ⟨pr_blind, pr_at hC (fun k q h => by simp at h)⟩ rfl rfl hl.1 rfl (lv_room (Nat.le_of_ble_eq_true rfl)) d_M_floor_6 ⟨hce, hsl⟩) (fun r9 h9 => ?_)
  subst h9
  refine nx_b_eq (tgt := 23) hx hb d_M_floor_9 (by decide) (fun h1 => ?_) (fun h1 => ?_)
  · refine lv_iconst (v := nI 1) hx hb d_M_floor_23 (by decide) ?_
    refine lv_goto (tgt := 53) hx hb d_M_floor_24 (by decide) ?_
    refine va_put (D := (dC, dI)) (ci := 6) (v := .int (nI 1)) (ty := (.int)) (C := R_M) (T := F_M) (N := 17) hx hb hts i_M ft_M ft_M_ok n_M hown hK hP hD hS 0 rfl rfl 0 (by decide) (hts _ k_477) (fun _ h9 => h9) rfl (by decide +kernel) rfl rfl (Nat.le_of_ble_eq_true rfl) d_M_floor_53 (fun H locs hP hD hS => ?_)
    have hP : va_P (dC, dI) vwCl [(q 0, .inr (6, (mF q (nI 1) F nt ab be))), (q 1, .inl (cI, 13, .inl (fun j => nI (pp j)))), (q 2, .inl (cI, 13, .inl (fun j => nI (hh j))))] H := hP
    have hD : va_D A [(q 0, .inr (6, (mF q (nI 1) F nt ab be))), (q 1, .inl (cI, 13, .inl (fun j => nI (pp j)))), (q 2, .inl (cI, 13, .inl (fun j => nI (hh j))))] := hD
    refine lv_aload_n hx hb d_M_floor_56 rfl (lv_at hl 0 rfl) ?_
    refine va_get (D := (dC, dI)) (ci := 6) (v := .int (nI 1)) (C := R_M) (T := F_M) (N := 17) hx hb hts i_M hown hK hP 0 rfl rfl 0 (by decide) (hts _ k_477) (fun _ h9 => h9) rfl d_M_floor_57 ?_
    refine nx_if_le (tgt := 65) hx hb d_M_floor_60 (by decide) (by omega) (fun h9 => ?_) (fun h9 => ?_)
    · exact absurd h9 (by omega)
    · refine lv_iconst (v := nI 0) hx hb d_M_floor_63 (by decide) ?_
      exact W.iret hx hb hr (fun t ht hW => ⟨⟨_, (), rfl, rfl, by rw [ht]; exact hP, hD⟩, hS.F ht⟩) hS.2.2 d_M_floor_64
  · refine lv_iload_n hx hb d_M_floor_12 rfl (lv_at hl 2 rfl) ?_
    refine lv_bipush (v := nI 10) hx hb d_M_floor_13 (by decide) ?_
    refine lv_bipush (v := nI 100) hx hb d_M_floor_15 (by decide) ?_
    refine ro_calli (va_runS (As := [.int p1, .int (nI 10), .int (nI 100)]) (rest := [.ref (q 0)]) ⟨hx, hb, hml, hown, hts⟩ (c_M_isIn l p1 (nI 10) (nI 100) 10 100 (nI_toInt (by decide)) (nI_toInt (by decide))) (cwS 3 hts (gw_S k_539 k_537 k_538 k_6) rfl rfl rfl (by decide +kernel) ⟨Nat.le_trans (Nat.le_of_ble_eq_true rfl) hfr, Nat.le_trans (Nat.le_of_ble_eq_true rfl) hlo⟩) ⟨pr_blind, pr_at hC (fun k q h => by simp at h)⟩ rfl rfl hl.1 rfl (lv_room (Nat.le_of_ble_eq_true rfl)) d_M_floor_17 ⟨hce, hsl⟩) (fun r9 h9 => ?_)
    subst h9
    refine nx_b_ne (tgt := 27) hx hb d_M_floor_20 (by decide) (fun h2 => ?_) (fun h2 => ?_)
    · exact absurd ⟨h1, h2⟩ hbad
    · refine lv_iconst (v := nI 1) hx hb d_M_floor_23 (by decide) ?_
      refine lv_goto (tgt := 53) hx hb d_M_floor_24 (by decide) ?_
      refine va_put (D := (dC, dI)) (ci := 6) (v := .int (nI 1)) (ty := (.int)) (C := R_M) (T := F_M) (N := 17) hx hb hts i_M ft_M ft_M_ok n_M hown hK hP hD hS 0 rfl rfl 0 (by decide) (hts _ k_477) (fun _ h9 => h9) rfl (by decide +kernel) rfl rfl (Nat.le_of_ble_eq_true rfl) d_M_floor_53 (fun H locs hP hD hS => ?_)
      have hP : va_P (dC, dI) vwCl [(q 0, .inr (6, (mF q (nI 1) F nt ab be))), (q 1, .inl (cI, 13, .inl (fun j => nI (pp j)))), (q 2, .inl (cI, 13, .inl (fun j => nI (hh j))))] H := hP
      have hD : va_D A [(q 0, .inr (6, (mF q (nI 1) F nt ab be))), (q 1, .inl (cI, 13, .inl (fun j => nI (pp j)))), (q 2, .inl (cI, 13, .inl (fun j => nI (hh j))))] := hD
      refine lv_aload_n hx hb d_M_floor_56 rfl (lv_at hl 0 rfl) ?_
      refine va_get (D := (dC, dI)) (ci := 6) (v := .int (nI 1)) (C := R_M) (T := F_M) (N := 17) hx hb hts i_M hown hK hP 0 rfl rfl 0 (by decide) (hts _ k_477) (fun _ h9 => h9) rfl d_M_floor_57 ?_
      refine nx_if_le (tgt := 65) hx hb d_M_floor_60 (by decide) (by omega) (fun h9 => ?_) (fun h9 => ?_)
      · exact absurd h9 (by omega)
      · refine lv_iconst (v := nI 0) hx hb d_M_floor_63 (by decide) ?_
        exact W.iret hx hb hr (fun t ht hW => ⟨⟨_, (), rfl, rfl, by rw [ht]; exact hP, hD⟩, hS.F ht⟩) hS.2.2 d_M_floor_64
set_option maxHeartbeats 4000000 in
set_option maxRecDepth 100000 in
theorem c_M_floor_b2 (l : Launch) {dC : Nat → ClassId} {dI : Nat → Nat → Nat} {cI cL cT : ClassId} {sa : Nat → Nat} (sz : Nat) (q : Nat → Nat) (th : Int32) (F nt : Nat) (ab be : Int64) (pp hh : Nat → Nat) (a b : Nat) (ha : a ≤ 200) (hb1 : 10 ≤ b) (hb2 : b ≤ 100) (hF12 : F ≤ 12) (hE : sm pp 1 F ≤ 200) (hbad : F = 12 ∨ 200 < sm pp 1 F + a) : Met l y_M_floor (Cond.code y_M_floor b_M_floor 3 (some .int) :: gw) ({ frames := 1, cells := 0, slots := 0, locals := 22 } : Room) (wr dC dI cI cL cT sa [.ref (q 0), .int (nI a), .int (nI b)] [(q 0, .inr (6, (mF q th F nt ab be))), (q 1, .inl (cI, 13, .inl (fun j => nI (pp j)))), (q 2, .inl (cI, 13, .inl (fun j => nI (hh j))))] sz) (va_Qi (fun r (_ : Unit) => r = nI 0) (wB dC dI [(q 0, .inr (6, (mF q th F nt ab be))), (q 1, .inl (cI, 13, .inl (fun j => nI (pp j)))), (q 2, .inl (cI, 13, .inl (fun j => nI (hh j))))] [(q 0, .inr (6, (mF q (nI 2) F nt ab be))), (q 1, .inl (cI, 13, .inl (fun j => nI (pp j)))), (q 2, .inl (cI, 13, .inl (fun j => nI (hh j))))] sz) (va_A [(q 0, .inr (6, (mF q th F nt ab be))), (q 1, .inl (cI, 13, .inl (fun j => nI (pp j)))), (q 2, .inl (cI, 13, .inl (fun j => nI (hh j))))] sz)) 0 0 (va_A [(q 0, .inr (6, (mF q th F nt ab be))), (q 1, .inl (cI, 13, .inl (fun j => nI (pp j)))), (q 2, .inl (cI, 13, .inl (fun j => nI (hh j))))] sz) := by
  refine Met.ofW (cc := b_M_floor) (maxL := 3) (ret := (some .int)) (by decide) rfl ?_
  intro p e s m args below meth c s₁ B hml hv
  obtain ⟨rfl, hsz, hC, hP, hD0⟩ := hv
  have hx := B.exec
  have hb := B.bytes
  have hr := B.returns
  have hts : ∀ w ∈ gw, w.before ([.ref (q 0), .int (nI a), .int (nI b)] : List Value).toArray s = true := fun w hw => atoms_spec (ws := Cond.code y_M_floor b_M_floor 3 (some .int) :: gw) B.pre w (List.mem_cons_of_mem _ hw)
  have hown : s.vm.findClass R_M = some m.cls := findClass_of_methodNamed B.named
  have hlocks := B.notSynchronized
  have hK := hC.1
  have hfr : 1 ≤ (headSpec (Cond.code y_M_floor b_M_floor 3 (some .int) :: gw) ({ frames := 1, cells := 0, slots := 0, locals := 22 } : Room)).room.frames := Nat.le_refl _
  have hlo : 22 ≤ (headSpec (Cond.code y_M_floor b_M_floor 3 (some .int) :: gw) ({ frames := 1, cells := 0, slots := 0, locals := 22 } : Room)).room.locals := Nat.le_refl _
  have hce : 0 ≤ (headSpec (Cond.code y_M_floor b_M_floor 3 (some .int) :: gw) ({ frames := 1, cells := 0, slots := 0, locals := 22 } : Room)).room.cells := Nat.zero_le _
  have hsl : 0 ≤ (headSpec (Cond.code y_M_floor b_M_floor 3 (some .int) :: gw) ({ frames := 1, cells := 0, slots := 0, locals := 22 } : Room)).room.slots := Nat.zero_le _
  subst hsz
  have hD := hD0.self (sz := s.heap.size)
  unfold wB
  generalize hAe : va_A [(q 0, .inr (6, (mF q th F nt ab be))), (q 1, .inl (cI, 13, .inl (fun j => nI (pp j)))), (q 2, .inl (cI, 13, .inl (fun j => nI (hh j))))] s.heap.size = A at hD ⊢
  have hA : ∀ q : Nat, s.heap.size ≤ q → A q := fun q h => by rw [← hAe]; exact Or.inr h
  have hS : va_S A s.heap s.heap [] := va_S.rf
  have hl := lv_entry ([.ref (q 0), .int (nI a), .int (nI b)]) (n := 3) (Nat.le_of_ble_eq_true rfl)
  rw [lg_entry_eq]
  generalize (lg_sl ([.ref (q 0), .int (nI a), .int (nI b)]) ++ List.replicate (3 - (lg_sl ([.ref (q 0), .int (nI a), .int (nI b)])).length) Slot.unset).toArray = ls at hl ⊢
  have hl : lv_has ls 3 [(0, .ref (q 0)), (1, .int (nI a)), (2, .int (nI b))] := hl
  refine lv_aload_n hx hb d_M_floor_0 rfl (lv_at hl 0 rfl) ?_
  refine lv_iload_n hx hb d_M_floor_1 rfl (lv_at hl 1 rfl) ?_
  refine lv_iconst (v := nI 0) hx hb d_M_floor_2 (by decide) ?_
  refine lv_sipush (v := nI 200) hx hb d_M_floor_3 (by decide) ?_
  refine ro_calli (va_runS (As := [.int (nI a), .int (nI 0), .int (nI 200)]) (rest := [.ref (q 0)]) ⟨hx, hb, hml, hown, hts⟩ (c_M_isInN l a 0 200 (by omega) (by decide) (by decide)) (cwS 3 hts (gw_S k_539 k_537 k_538 k_6) rfl rfl rfl (by decide +kernel) ⟨Nat.le_trans (Nat.le_of_ble_eq_true rfl) hfr, Nat.le_trans (Nat.le_of_ble_eq_true rfl) hlo⟩) ⟨pr_blind, pr_at hC (fun k q h => by simp at h)⟩ rfl rfl hl.1 rfl (lv_room (Nat.le_of_ble_eq_true rfl)) d_M_floor_6 ⟨hce, hsl⟩) (fun r9 h9 => ?_)
  subst h9
  refine nx_b_eq (tgt := 23) hx hb d_M_floor_9 (by decide) (fun h1 => ?_) (fun h1 => ?_)
  · exact absurd (show 0 ≤ a ∧ a ≤ 200 by omega) h1
  · refine lv_iload_n hx hb d_M_floor_12 rfl (lv_at hl 2 rfl) ?_
    refine lv_bipush (v := nI 10) hx hb d_M_floor_13 (by decide) ?_
    refine lv_bipush (v := nI 100) hx hb d_M_floor_15 (by decide) ?_
    refine ro_calli (va_runS (As := [.int (nI b), .int (nI 10), .int (nI 100)]) (rest := [.ref (q 0)]) ⟨hx, hb, hml, hown, hts⟩ (c_M_isInN l b 10 100 (by omega) (by decide) (by decide)) (cwS 3 hts (gw_S k_539 k_537 k_538 k_6) rfl rfl rfl (by decide +kernel) ⟨Nat.le_trans (Nat.le_of_ble_eq_true rfl) hfr, Nat.le_trans (Nat.le_of_ble_eq_true rfl) hlo⟩) ⟨pr_blind, pr_at hC (fun k q h => by simp at h)⟩ rfl rfl hl.1 rfl (lv_room (Nat.le_of_ble_eq_true rfl)) d_M_floor_17 ⟨hce, hsl⟩) (fun r9 h9 => ?_)
    subst h9
    refine nx_b_ne (tgt := 27) hx hb d_M_floor_20 (by decide) (fun h2 => ?_) (fun h2 => ?_)
    · refine lv_aload_n hx hb d_M_floor_27 rfl (lv_at hl 0 rfl) ?_
      refine va_get (D := (dC, dI)) (ci := 6) (v := .int (nI F)) (C := R_M) (T := F_M) (N := 17) hx hb hts i_M hown hK hP 0 rfl rfl 3 (by decide) (hts _ k_480) (fun _ h9 => h9) rfl d_M_floor_28 ?_
      refine lv_bipush (v := nI 12) hx hb d_M_floor_31 (by decide) ?_
      refine nx_icmp_eq (tgt := 48) hx hb d_M_floor_33 (by decide) (by omega) (by omega) (fun h3 => ?_) (fun h3 => ?_)
      · refine lv_iconst (v := nI 2) hx hb d_M_floor_48 (by decide) ?_
        refine lv_goto (tgt := 53) hx hb d_M_floor_49 (by decide) ?_
        refine va_put (D := (dC, dI)) (ci := 6) (v := .int (nI 2)) (ty := (.int)) (C := R_M) (T := F_M) (N := 17) hx hb hts i_M ft_M ft_M_ok n_M hown hK hP hD hS 0 rfl rfl 0 (by decide) (hts _ k_477) (fun _ h9 => h9) rfl (by decide +kernel) rfl rfl (Nat.le_of_ble_eq_true rfl) d_M_floor_53 (fun H locs hP hD hS => ?_)
        have hP : va_P (dC, dI) vwCl [(q 0, .inr (6, (mF q (nI 2) F nt ab be))), (q 1, .inl (cI, 13, .inl (fun j => nI (pp j)))), (q 2, .inl (cI, 13, .inl (fun j => nI (hh j))))] H := hP
        have hD : va_D A [(q 0, .inr (6, (mF q (nI 2) F nt ab be))), (q 1, .inl (cI, 13, .inl (fun j => nI (pp j)))), (q 2, .inl (cI, 13, .inl (fun j => nI (hh j))))] := hD
        refine lv_aload_n hx hb d_M_floor_56 rfl (lv_at hl 0 rfl) ?_
        refine va_get (D := (dC, dI)) (ci := 6) (v := .int (nI 2)) (C := R_M) (T := F_M) (N := 17) hx hb hts i_M hown hK hP 0 rfl rfl 0 (by decide) (hts _ k_477) (fun _ h9 => h9) rfl d_M_floor_57 ?_
        refine nx_if_le (tgt := 65) hx hb d_M_floor_60 (by decide) (by omega) (fun h9 => ?_) (fun h9 => ?_)
        · exact absurd h9 (by omega)
        · refine lv_iconst (v := nI 0) hx hb d_M_floor_63 (by decide) ?_
          exact W.iret hx hb hr (fun t ht hW => ⟨⟨_, (), rfl, rfl, by rw [ht]; exact hP, hD⟩, hS.F ht⟩) hS.2.2 d_M_floor_64
      · refine lv_aload_n hx hb d_M_floor_36 rfl (lv_at hl 0 rfl) ?_
        refine ro_calli (va_runV (As := []) (rest := [.ref (q 0)]) ⟨hx, hb, hml, hown, hts⟩ (c_M_allPersons l q th F nt ab be pp hF12) (cwV 0 hts (gw_V k_543 k_540 k_542 ks_M_allPersons k_6) rfl rfl rfl (by decide +kernel) ⟨Nat.le_trans (Nat.le_of_ble_eq_true rfl) hfr, Nat.le_trans (Nat.le_of_ble_eq_true rfl) hlo⟩) ⟨pr_blind, va_recv hK hP (ci := 6) (q0 := 0) rfl rfl, pr_at hC (hP.sub (ws' := [(q 0, .inr (6, (mF q th F nt ab be))), (q 1, .inl (cI, 13, .inl (fun j => nI (pp j))))]) [0, 1] rfl)⟩ rfl rfl hl.1 rfl (lv_room (Nat.le_of_ble_eq_true rfl)) d_M_floor_37 ⟨hce, hsl⟩) (fun r9 h9 => ?_)
        subst h9
        refine lv_iload_n hx hb d_M_floor_40 rfl (lv_at hl 1 rfl) ?_
        refine nx_iadd hx hb d_M_floor_41 ?_
        refine lv_sipush (v := nI 200) hx hb d_M_floor_42 (by decide) ?_
        refine nx_icmp_le (tgt := 52) hx hb d_M_floor_45 (by decide) (by omega) (by omega) (fun h4 => ?_) (fun h4 => ?_)
        · exact absurd hbad (by omega)
        · refine lv_iconst (v := nI 2) hx hb d_M_floor_48 (by decide) ?_
          refine lv_goto (tgt := 53) hx hb d_M_floor_49 (by decide) ?_
          refine va_put (D := (dC, dI)) (ci := 6) (v := .int (nI 2)) (ty := (.int)) (C := R_M) (T := F_M) (N := 17) hx hb hts i_M ft_M ft_M_ok n_M hown hK hP hD hS 0 rfl rfl 0 (by decide) (hts _ k_477) (fun _ h9 => h9) rfl (by decide +kernel) rfl rfl (Nat.le_of_ble_eq_true rfl) d_M_floor_53 (fun H locs hP hD hS => ?_)
          have hP : va_P (dC, dI) vwCl [(q 0, .inr (6, (mF q (nI 2) F nt ab be))), (q 1, .inl (cI, 13, .inl (fun j => nI (pp j)))), (q 2, .inl (cI, 13, .inl (fun j => nI (hh j))))] H := hP
          have hD : va_D A [(q 0, .inr (6, (mF q (nI 2) F nt ab be))), (q 1, .inl (cI, 13, .inl (fun j => nI (pp j)))), (q 2, .inl (cI, 13, .inl (fun j => nI (hh j))))] := hD
          refine lv_aload_n hx hb d_M_floor_56 rfl (lv_at hl 0 rfl) ?_
          refine va_get (D := (dC, dI)) (ci := 6) (v := .int (nI 2)) (C := R_M) (T := F_M) (N := 17) hx hb hts i_M hown hK hP 0 rfl rfl 0 (by decide) (hts _ k_477) (fun _ h9 => h9) rfl d_M_floor_57 ?_
          refine nx_if_le (tgt := 65) hx hb d_M_floor_60 (by decide) (by omega) (fun h9 => ?_) (fun h9 => ?_)
          · exact absurd h9 (by omega)
          · refine lv_iconst (v := nI 0) hx hb d_M_floor_63 (by decide) ?_
            exact W.iret hx hb hr (fun t ht hW => ⟨⟨_, (), rfl, rfl, by rw [ht]; exact hP, hD⟩, hS.F ht⟩) hS.2.2 d_M_floor_64
    · exact absurd (show 10 ≤ b ∧ b ≤ 100 by omega) h2
set_option maxHeartbeats 4000000 in
set_option maxRecDepth 100000 in
theorem c_M_floor (l : Launch) {dC : Nat → ClassId} {dI : Nat → Nat → Nat} {cI cL cT : ClassId} {sa : Nat → Nat} (sz : Nat) (q : Nat → Nat) (th : Int32) (F nt : Nat) (ab be : Int64) (pp hh : Nat → Nat) (a b : Nat) (ha : a ≤ 200) (hb1 : 10 ≤ b) (hb2 : b ≤ 100) (hF12 : F ≤ 12) (hE : sm pp 1 F ≤ 200) (h12 : F < 12) (hok : sm pp 1 F + a ≤ 200) : Met l y_M_floor (Cond.code y_M_floor b_M_floor 3 (some .int) :: gw) ({ frames := 1, cells := 0, slots := 0, locals := 22 } : Room) (wr dC dI cI cL cT sa [.ref (q 0), .int (nI a), .int (nI b)] [(q 0, .inr (6, (mF q th F nt ab be))), (q 1, .inl (cI, 13, .inl (fun j => nI (pp j)))), (q 2, .inl (cI, 13, .inl (fun j => nI (hh j))))] sz) (va_Qi (fun r (_ : Unit) => r = nI (F + 1)) (wB dC dI [(q 0, .inr (6, (mF q th F nt ab be))), (q 1, .inl (cI, 13, .inl (fun j => nI (pp j)))), (q 2, .inl (cI, 13, .inl (fun j => nI (hh j))))] [(q 0, .inr (6, (mF q (nI 0) (F + 1) nt ab be))), (q 1, .inl (cI, 13, .inl (fun j => nI ((up pp (F + 1) a) j)))), (q 2, .inl (cI, 13, .inl (fun j => nI ((up hh (F + 1) (hh F + b)) j))))] sz) (va_A [(q 0, .inr (6, (mF q th F nt ab be))), (q 1, .inl (cI, 13, .inl (fun j => nI (pp j)))), (q 2, .inl (cI, 13, .inl (fun j => nI (hh j))))] sz)) 0 0 (va_A [(q 0, .inr (6, (mF q th F nt ab be))), (q 1, .inl (cI, 13, .inl (fun j => nI (pp j)))), (q 2, .inl (cI, 13, .inl (fun j => nI (hh j))))] sz) := by
  refine Met.ofW (cc := b_M_floor) (maxL := 3) (ret := (some .int)) (by decide) rfl ?_
  intro p e s m args below meth c s₁ B hml hv
  obtain ⟨rfl, hsz, hC, hP, hD0⟩ := hv
  have hx := B.exec
  have hb := B.bytes
  have hr := B.returns
  have hts : ∀ w ∈ gw, w.before ([.ref (q 0), .int (nI a), .int (nI b)] : List Value).toArray s = true := fun w hw => atoms_spec (ws := Cond.code y_M_floor b_M_floor 3 (some .int) :: gw) B.pre w (List.mem_cons_of_mem _ hw)
  have hown : s.vm.findClass R_M = some m.cls := findClass_of_methodNamed B.named
  have hlocks := B.notSynchronized
  have hK := hC.1
  have hfr : 1 ≤ (headSpec (Cond.code y_M_floor b_M_floor 3 (some .int) :: gw) ({ frames := 1, cells := 0, slots := 0, locals := 22 } : Room)).room.frames := Nat.le_refl _
  have hlo : 22 ≤ (headSpec (Cond.code y_M_floor b_M_floor 3 (some .int) :: gw) ({ frames := 1, cells := 0, slots := 0, locals := 22 } : Room)).room.locals := Nat.le_refl _
  have hce : 0 ≤ (headSpec (Cond.code y_M_floor b_M_floor 3 (some .int) :: gw) ({ frames := 1, cells := 0, slots := 0, locals := 22 } : Room)).room.cells := Nat.zero_le _
  have hsl : 0 ≤ (headSpec (Cond.code y_M_floor b_M_floor 3 (some .int) :: gw) ({ frames := 1, cells := 0, slots := 0, locals := 22 } : Room)).room.slots := Nat.zero_le _
  subst hsz
  have hD := hD0.self (sz := s.heap.size)
  unfold wB
  generalize hAe : va_A [(q 0, .inr (6, (mF q th F nt ab be))), (q 1, .inl (cI, 13, .inl (fun j => nI (pp j)))), (q 2, .inl (cI, 13, .inl (fun j => nI (hh j))))] s.heap.size = A at hD ⊢
  have hA : ∀ q : Nat, s.heap.size ≤ q → A q := fun q h => by rw [← hAe]; exact Or.inr h
  have hS : va_S A s.heap s.heap [] := va_S.rf
  have hl := lv_entry ([.ref (q 0), .int (nI a), .int (nI b)]) (n := 3) (Nat.le_of_ble_eq_true rfl)
  rw [lg_entry_eq]
  generalize (lg_sl ([.ref (q 0), .int (nI a), .int (nI b)]) ++ List.replicate (3 - (lg_sl ([.ref (q 0), .int (nI a), .int (nI b)])).length) Slot.unset).toArray = ls at hl ⊢
  have hl : lv_has ls 3 [(0, .ref (q 0)), (1, .int (nI a)), (2, .int (nI b))] := hl
  refine lv_aload_n hx hb d_M_floor_0 rfl (lv_at hl 0 rfl) ?_
  refine lv_iload_n hx hb d_M_floor_1 rfl (lv_at hl 1 rfl) ?_
  refine lv_iconst (v := nI 0) hx hb d_M_floor_2 (by decide) ?_
  refine lv_sipush (v := nI 200) hx hb d_M_floor_3 (by decide) ?_
  refine ro_calli (va_runS (As := [.int (nI a), .int (nI 0), .int (nI 200)]) (rest := [.ref (q 0)]) ⟨hx, hb, hml, hown, hts⟩ (c_M_isInN l a 0 200 (by omega) (by decide) (by decide)) (cwS 3 hts (gw_S k_539 k_537 k_538 k_6) rfl rfl rfl (by decide +kernel) ⟨Nat.le_trans (Nat.le_of_ble_eq_true rfl) hfr, Nat.le_trans (Nat.le_of_ble_eq_true rfl) hlo⟩) ⟨pr_blind, pr_at hC (fun k q h => by simp at h)⟩ rfl rfl hl.1 rfl (lv_room (Nat.le_of_ble_eq_true rfl)) d_M_floor_6 ⟨hce, hsl⟩) (fun r9 h9 => ?_)
  subst h9
  refine nx_b_eq (tgt := 23) hx hb d_M_floor_9 (by decide) (fun h1 => ?_) (fun h1 => ?_)
  · exact absurd (show 0 ≤ a ∧ a ≤ 200 by omega) h1
  · refine lv_iload_n hx hb d_M_floor_12 rfl (lv_at hl 2 rfl) ?_
    refine lv_bipush (v := nI 10) hx hb d_M_floor_13 (by decide) ?_
    refine lv_bipush (v := nI 100) hx hb d_M_floor_15 (by decide) ?_
    refine ro_calli (va_runS (As := [.int (nI b), .int (nI 10), .int (nI 100)]) (rest := [.ref (q 0)]) ⟨hx, hb, hml, hown, hts⟩ (c_M_isInN l b 10 100 (by omega) (by decide) (by decide)) (cwS 3 hts (gw_S k_539 k_537 k_538 k_6) rfl rfl rfl (by decide +kernel) ⟨Nat.le_trans (Nat.le_of_ble_eq_true rfl) hfr, Nat.le_trans (Nat.le_of_ble_eq_true rfl) hlo⟩) ⟨pr_blind, pr_at hC (fun k q h => by simp at h)⟩ rfl rfl hl.1 rfl (lv_room (Nat.le_of_ble_eq_true rfl)) d_M_floor_17 ⟨hce, hsl⟩) (fun r9 h9 => ?_)
    subst h9
    refine nx_b_ne (tgt := 27) hx hb d_M_floor_20 (by decide) (fun h2 => ?_) (fun h2 => ?_)
    · refine lv_aload_n hx hb d_M_floor_27 rfl (lv_at hl 0 rfl) ?_
      refine va_get (D := (dC, dI)) (ci := 6) (v := .int (nI F)) (C := R_M) (T := F_M) (N := 17) hx hb hts i_M hown hK hP 0 rfl rfl 3 (by decide) (hts _ k_480) (fun _ h9 => h9) rfl d_M_floor_28 ?_
      refine lv_bipush (v := nI 12) hx hb d_M_floor_31 (by decide) ?_
      refine nx_icmp_eq (tgt := 48) hx hb d_M_floor_33 (by decide) (by omega) (by omega) (fun h3 => ?_) (fun h3 => ?_)
      · exact absurd h3 (by omega)
      · refine lv_aload_n hx hb d_M_floor_36 rfl (lv_at hl 0 rfl) ?_
        refine ro_calli (va_runV (As := []) (rest := [.ref (q 0)]) ⟨hx, hb, hml, hown, hts⟩ (c_M_allPersons l q th F nt ab be pp hF12) (cwV 0 hts (gw_V k_543 k_540 k_542 ks_M_allPersons k_6) rfl rfl rfl (by decide +kernel) ⟨Nat.le_trans (Nat.le_of_ble_eq_true rfl) hfr, Nat.le_trans (Nat.le_of_ble_eq_true rfl) hlo⟩) ⟨pr_blind, va_recv hK hP (ci := 6) (q0 := 0) rfl rfl, pr_at hC (hP.sub (ws' := [(q 0, .inr (6, (mF q th F nt ab be))), (q 1, .inl (cI, 13, .inl (fun j => nI (pp j))))]) [0, 1] rfl)⟩ rfl rfl hl.1 rfl (lv_room (Nat.le_of_ble_eq_true rfl)) d_M_floor_37 ⟨hce, hsl⟩) (fun r9 h9 => ?_)
        subst h9
        refine lv_iload_n hx hb d_M_floor_40 rfl (lv_at hl 1 rfl) ?_
        refine nx_iadd hx hb d_M_floor_41 ?_
        refine lv_sipush (v := nI 200) hx hb d_M_floor_42 (by decide) ?_
        refine nx_icmp_le (tgt := 52) hx hb d_M_floor_45 (by decide) (by omega) (by omega) (fun h4 => ?_) (fun h4 => ?_)
        · refine lv_iconst (v := nI 0) hx hb d_M_floor_52 (by decide) ?_
          refine va_put (D := (dC, dI)) (ci := 6) (v := .int (nI 0)) (ty := (.int)) (C := R_M) (T := F_M) (N := 17) hx hb hts i_M ft_M ft_M_ok n_M hown hK hP hD hS 0 rfl rfl 0 (by decide) (hts _ k_477) (fun _ h9 => h9) rfl (by decide +kernel) rfl rfl (Nat.le_of_ble_eq_true rfl) d_M_floor_53 (fun H locs hP hD hS => ?_)
          have hP : va_P (dC, dI) vwCl [(q 0, .inr (6, (mF q (nI 0) F nt ab be))), (q 1, .inl (cI, 13, .inl (fun j => nI (pp j)))), (q 2, .inl (cI, 13, .inl (fun j => nI (hh j))))] H := hP
          have hD : va_D A [(q 0, .inr (6, (mF q (nI 0) F nt ab be))), (q 1, .inl (cI, 13, .inl (fun j => nI (pp j)))), (q 2, .inl (cI, 13, .inl (fun j => nI (hh j))))] := hD
          refine lv_aload_n hx hb d_M_floor_56 rfl (lv_at hl 0 rfl) ?_
          refine va_get (D := (dC, dI)) (ci := 6) (v := .int (nI 0)) (C := R_M) (T := F_M) (N := 17) hx hb hts i_M hown hK hP 0 rfl rfl 0 (by decide) (hts _ k_477) (fun _ h9 => h9) rfl d_M_floor_57 ?_
          refine nx_if_le (tgt := 65) hx hb d_M_floor_60 (by decide) (by omega) (fun h9 => ?_) (fun h9 => ?_)
          · refine lv_aload_n hx hb d_M_floor_65 rfl (lv_at hl 0 rfl) ?_
            refine lv_dup hx hb d_M_floor_66 rfl ?_
            refine va_get (D := (dC, dI)) (ci := 6) (v := .int (nI F)) (C := R_M) (T := F_M) (N := 17) hx hb hts i_M hown hK hP 0 rfl rfl 3 (by decide) (hts _ k_480) (fun _ h9 => h9) rfl d_M_floor_67 ?_
            refine lv_iconst (v := nI 1) hx hb d_M_floor_70 (by decide) ?_
            refine nx_iadd hx hb d_M_floor_71 ?_
            refine va_put (D := (dC, dI)) (ci := 6) (v := .int (nI (F + 1))) (ty := (.int)) (C := R_M) (T := F_M) (N := 17) hx hb hts i_M ft_M ft_M_ok n_M hown hK hP hD hS 0 rfl rfl 3 (by decide) (hts _ k_480) (fun _ h9 => h9) rfl (by decide +kernel) rfl rfl (Nat.le_of_ble_eq_true rfl) d_M_floor_72 (fun H locs hP hD hS => ?_)
            have hP : va_P (dC, dI) vwCl [(q 0, .inr (6, (mF q (nI 0) (F + 1) nt ab be))), (q 1, .inl (cI, 13, .inl (fun j => nI (pp j)))), (q 2, .inl (cI, 13, .inl (fun j => nI (hh j))))] H := hP
            have hD : va_D A [(q 0, .inr (6, (mF q (nI 0) (F + 1) nt ab be))), (q 1, .inl (cI, 13, .inl (fun j => nI (pp j)))), (q 2, .inl (cI, 13, .inl (fun j => nI (hh j))))] := hD
            refine lv_aload_n hx hb d_M_floor_75 rfl (lv_at hl 0 rfl) ?_
            refine va_get (D := (dC, dI)) (ci := 6) (v := .ref (q 1)) (C := R_M) (T := F_M) (N := 17) hx hb hts i_M hown hK hP 0 rfl rfl 1 (by decide) (hts _ k_478) (fun _ h9 => h9) rfl d_M_floor_76 ?_
            refine lv_aload_n hx hb d_M_floor_79 rfl (lv_at hl 0 rfl) ?_
            refine va_get (D := (dC, dI)) (ci := 6) (v := .int (nI (F + 1))) (C := R_M) (T := F_M) (N := 17) hx hb hts i_M hown hK hP 0 rfl rfl 3 (by decide) (hts _ k_480) (fun _ h9 => h9) rfl d_M_floor_80 ?_
            refine lv_iload_n hx hb d_M_floor_83 rfl (lv_at hl 1 rfl) ?_
            refine nx_iast hx hb hK hP hD hS 1 0 rfl rfl (k := F + 1) (x := nI a) (by omega) (by decide) d_M_floor_84 (fun H locs hP hD hS => ?_)
            have hP : va_P (dC, dI) vwCl [(q 0, .inr (6, (mF q (nI 0) (F + 1) nt ab be))), (q 1, .inl (cI, 13, .inl (upd (fun j => nI (pp j)) (F + 1) (nI a)))), (q 2, .inl (cI, 13, .inl (fun j => nI (hh j))))] H := hP
            have hD : va_D A [(q 0, .inr (6, (mF q (nI 0) (F + 1) nt ab be))), (q 1, .inl (cI, 13, .inl (upd (fun j => nI (pp j)) (F + 1) (nI a)))), (q 2, .inl (cI, 13, .inl (fun j => nI (hh j))))] := hD
            rw [up_eq] at hP hD
            refine lv_aload_n hx hb d_M_floor_85 rfl (lv_at hl 0 rfl) ?_
            refine va_get (D := (dC, dI)) (ci := 6) (v := .ref (q 2)) (C := R_M) (T := F_M) (N := 17) hx hb hts i_M hown hK hP 0 rfl rfl 2 (by decide) (hts _ k_479) (fun _ h9 => h9) rfl d_M_floor_86 ?_
            refine lv_aload_n hx hb d_M_floor_89 rfl (lv_at hl 0 rfl) ?_
            refine va_get (D := (dC, dI)) (ci := 6) (v := .int (nI (F + 1))) (C := R_M) (T := F_M) (N := 17) hx hb hts i_M hown hK hP 0 rfl rfl 3 (by decide) (hts _ k_480) (fun _ h9 => h9) rfl d_M_floor_90 ?_
            refine lv_aload_n hx hb d_M_floor_93 rfl (lv_at hl 0 rfl) ?_
            refine va_get (D := (dC, dI)) (ci := 6) (v := .ref (q 2)) (C := R_M) (T := F_M) (N := 17) hx hb hts i_M hown hK hP 0 rfl rfl 2 (by decide) (hts _ k_479) (fun _ h9 => h9) rfl d_M_floor_94 ?_
            refine lv_aload_n hx hb d_M_floor_97 rfl (lv_at hl 0 rfl) ?_
            refine va_get (D := (dC, dI)) (ci := 6) (v := .int (nI (F + 1))) (C := R_M) (T := F_M) (N := 17) hx hb hts i_M hown hK hP 0 rfl rfl 3 (by decide) (hts _ k_480) (fun _ h9 => h9) rfl d_M_floor_98 ?_
            refine lv_iconst (v := nI 1) hx hb d_M_floor_101 (by decide) ?_
            refine nx_isub hx hb d_M_floor_102 (by omega) ?_
            refine nx_iald hx hb hK hP 2 0 rfl rfl (k := (F + 1) - 1) (v := nI (hh ((F + 1) - 1))) (by omega) (by decide) rfl d_M_floor_103 ?_
            refine lv_iload_n hx hb d_M_floor_104 rfl (lv_at hl 2 rfl) ?_
            refine nx_iadd hx hb d_M_floor_105 ?_
            refine nx_iast hx hb hK hP hD hS 2 0 rfl rfl (k := F + 1) (x := nI ((hh ((F + 1) - 1)) + b)) (by omega) (by decide) d_M_floor_106 (fun H locs hP hD hS => ?_)
            have hP : va_P (dC, dI) vwCl [(q 0, .inr (6, (mF q (nI 0) (F + 1) nt ab be))), (q 1, .inl (cI, 13, .inl (fun j => nI ((up pp (F + 1) a) j)))), (q 2, .inl (cI, 13, .inl (upd (fun j => nI (hh j)) (F + 1) (nI ((hh ((F + 1) - 1)) + b)))))] H := hP
            have hD : va_D A [(q 0, .inr (6, (mF q (nI 0) (F + 1) nt ab be))), (q 1, .inl (cI, 13, .inl (fun j => nI ((up pp (F + 1) a) j)))), (q 2, .inl (cI, 13, .inl (upd (fun j => nI (hh j)) (F + 1) (nI ((hh ((F + 1) - 1)) + b)))))] := hD
            rw [up_eq] at hP hD
            refine lv_aload_n hx hb d_M_floor_107 rfl (lv_at hl 0 rfl) ?_
            refine va_get (D := (dC, dI)) (ci := 6) (v := .int (nI (F + 1))) (C := R_M) (T := F_M) (N := 17) hx hb hts i_M hown hK hP 0 rfl rfl 3 (by decide) (hts _ k_480) (fun _ h9 => h9) rfl d_M_floor_108 ?_
            exact W.iret hx hb hr (fun t ht hW => ⟨⟨_, (), rfl, rfl, by rw [ht]; exact hP, hD⟩, hS.F ht⟩) hS.2.2 d_M_floor_111
          · exact absurd h9 (by omega)
        · exact absurd h4 (by omega)
    · exact absurd (show 10 ≤ b ∧ b ≤ 100 by omega) h2
