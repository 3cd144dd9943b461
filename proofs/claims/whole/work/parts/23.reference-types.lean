set_option maxHeartbeats 4000000 in
set_option maxRecDepth 100000 in
theorem c_M_persons_b1 (l : Launch) {dC : Nat → ClassId} {dI : Nat → Nat → Nat} {cI cL cT : ClassId} {sa : Nat → Nat} (sz : Nat) (q : Nat → Nat) (th : Int32) (F nt : Nat) (ab be : Int64) (pp : Nat → Nat) (p0 p1 : Int32) (hF12 : F ≤ 12) (hbad : ¬ (okFl F p0 ∧ (0 ≤ p1.toInt ∧ p1.toInt ≤ 200))) : Met l y_M_persons (Cond.code y_M_persons b_M_persons 4 (some .int) :: gw) ({ frames := 2, cells := 0, slots := 0, locals := 43 } : Room) (wr dC dI cI cL cT sa [.ref (q 0), .int p0, .int p1] [(q 0, .inr (6, (mF q th F nt ab be))), (q 1, .inl (cI, 13, .inl (fun j => nI (pp j))))] sz) (va_Qi (fun r (_ : Unit) => r = nI 0) (wB dC dI [(q 0, .inr (6, (mF q th F nt ab be))), (q 1, .inl (cI, 13, .inl (fun j => nI (pp j))))] [(q 0, .inr (6, (mF q (nI 1) F nt ab be))), (q 1, .inl (cI, 13, .inl (fun j => nI (pp j))))] sz) (va_A [(q 0, .inr (6, (mF q th F nt ab be))), (q 1, .inl (cI, 13, .inl (fun j => nI (pp j))))] sz)) 0 0 (va_A [(q 0, .inr (6, (mF q th F nt ab be))), (q 1, .inl (cI, 13, .inl (fun j => nI (pp j))))] sz) := by
  refine Met.ofW (cc := b_M_persons) (maxL := 4) (ret := (some .int)) (by decide) rfl ?_
  intro p e s m args below meth c s₁ B hml hv
  obtain ⟨rfl, hsz, hC, hP, hD0⟩ := hv
  have hx := B.exec
  have hb := B.bytes
  have hr := B.returns
  have hts : ∀ w ∈ gw, w.before ([.ref (q 0), .int p0, .int p1] : List Value).toArray s = true := fun w hw => atoms_spec (ws := Cond.code y_M_persons b_M_persons 4 (some .int) :: gw) B.pre w (List.mem_cons_of_mem _ hw)
  have hown : s.vm.findClass R_M = some m.cls := findClass_of_methodNamed B.named
  have hlocks := B.notSynchronized
  have hK := hC.1
  have hfr : 2 ≤ (headSpec (Cond.code y_M_persons b_M_persons 4 (some .int) :: gw) ({ frames := 2, cells := 0, slots := 0, locals := 43 } : Room)).room.frames := Nat.le_refl _
  have hlo : 43 ≤ (headSpec (Cond.code y_M_persons b_M_persons 4 (some .int) :: gw) ({ frames := 2, cells := 0, slots := 0, locals := 43 } : Room)).room.locals := Nat.le_refl _
  have hce : 0 ≤ (headSpec (Cond.code y_M_persons b_M_persons 4 (some .int) :: gw) ({ frames := 2, cells := 0, slots := 0, locals := 43 } : Room)).room.cells := Nat.zero_le _
  have hsl : 0 ≤ (headSpec (Cond.code y_M_persons b_M_persons 4 (some .int) :: gw) ({ frames := 2, cells := 0, slots := 0, locals := 43 } : Room)).room.slots := Nat.zero_le _
  subst hsz
  have hD := hD0.self (sz := s.heap.size)
  unfold wB
  generalize hAe : va_A [(q 0, .inr (6, (mF q th F nt ab be))), (q 1, .inl (cI, 13, .inl (fun j => nI (pp j))))] s.heap.size = A at hD ⊢
  have hA : ∀ q : Nat, s.heap.size ≤ q → A q := fun q h => by rw [← hAe]; exact Or.inr h
  have hS : va_S A s.heap s.heap [] := va_S.rf
  have hl := lv_entry ([.ref (q 0), .int p0, .int p1]) (n := 4) (Nat.le_of_ble_eq_true rfl)
  rw [lg_entry_eq]
  generalize (lg_sl ([.ref (q 0), .int p0, .int p1]) ++ List.replicate (4 - (lg_sl ([.ref (q 0), .int p0, .int p1])).length) Slot.unset).toArray = ls at hl ⊢
  have hl : lv_has ls 4 [(0, .ref (q 0)), (1, .int p0), (2, .int p1)] := hl
  refine lv_aload_n hx hb d_M_persons_0 rfl (lv_at hl 0 rfl) ?_
  refine lv_aload_n hx hb d_M_persons_1 rfl (lv_at hl 0 rfl) ?_
  refine lv_iload_n hx hb d_M_persons_2 rfl (lv_at hl 1 rfl) ?_
  refine ro_calli (va_runV (As := [.int p0]) (rest := [.ref (q 0)]) ⟨hx, hb, hml, hown, hts⟩ (c_M_noFloor l q th F nt ab be p0 hF12) (cwV 1 hts (gw_V k_551 k_548 k_550 ks_M_noFloor k_6) rfl rfl rfl (by decide +kernel) ⟨Nat.le_trans (Nat.le_of_ble_eq_true rfl) hfr, Nat.le_trans (Nat.le_of_ble_eq_true rfl) hlo⟩) ⟨pr_blind, va_recv hK hP (ci := 6) (q0 := 0) rfl rfl, pr_at hC (hP.sub (ws' := [(q 0, .inr (6, (mF q th F nt ab be)))]) [0] rfl)⟩ rfl rfl hl.1 rfl (lv_room (Nat.le_of_ble_eq_true rfl)) d_M_persons_3 ⟨hce, hsl⟩) (fun r9 h9 => ?_)
  subst h9
  refine nx_b_ne (tgt := 20) hx hb d_M_persons_6 (by decide) (fun h1 => ?_) (fun h1 => ?_)
  · refine lv_iconst (v := nI 1) hx hb d_M_persons_20 (by decide) ?_
    refine lv_goto (tgt := 48) hx hb d_M_persons_21 (by decide) ?_
    refine va_put (D := (dC, dI)) (ci := 6) (v := .int (nI 1)) (ty := (.int)) (C := R_M) (T := F_M) (N := 17) hx hb hts i_M ft_M ft_M_ok n_M hown hK hP hD hS 0 rfl rfl 0 (by decide) (hts _ k_477) (fun _ h9 => h9) rfl (by decide +kernel) rfl rfl (Nat.le_of_ble_eq_true rfl) d_M_persons_48 (fun H locs hP hD hS => ?_)
    have hP : va_P (dC, dI) vwCl [(q 0, .inr (6, (mF q (nI 1) F nt ab be))), (q 1, .inl (cI, 13, .inl (fun j => nI (pp j))))] H := hP
    have hD : va_D A [(q 0, .inr (6, (mF q (nI 1) F nt ab be))), (q 1, .inl (cI, 13, .inl (fun j => nI (pp j))))] := hD
    refine lv_aload_n hx hb d_M_persons_51 rfl (lv_at hl 0 rfl) ?_
    refine va_get (D := (dC, dI)) (ci := 6) (v := .int (nI 1)) (C := R_M) (T := F_M) (N := 17) hx hb hts i_M hown hK hP 0 rfl rfl 0 (by decide) (hts _ k_477) (fun _ h9 => h9) rfl d_M_persons_52 ?_
    refine nx_if_le (tgt := 60) hx hb d_M_persons_55 (by decide) (by omega) (fun h9 => ?_) (fun h9 => ?_)
    · exact absurd h9 (by omega)
    · refine lv_iconst (v := nI 0) hx hb d_M_persons_58 (by decide) ?_
      exact W.iret hx hb hr (fun t ht hW => ⟨⟨_, (), rfl, rfl, by rw [ht]; exact hP, hD⟩, hS.F ht⟩) hS.2.2 d_M_persons_59
  · refine lv_iload_n hx hb d_M_persons_9 rfl (lv_at hl 2 rfl) ?_
    refine lv_iconst (v := nI 0) hx hb d_M_persons_10 (by decide) ?_
    refine lv_sipush (v := nI 200) hx hb d_M_persons_11 (by decide) ?_
    refine ro_calli (va_runS (As := [.int p1, .int (nI 0), .int (nI 200)]) (rest := [.ref (q 0)]) ⟨hx, hb, hml, hown, hts⟩ (c_M_isIn l p1 (nI 0) (nI 200) 0 200 (nI_toInt (by decide)) (nI_toInt (by decide))) (cwS 3 hts (gw_S k_539 k_537 k_538 k_6) rfl rfl rfl (by decide +kernel) ⟨Nat.le_trans (Nat.le_of_ble_eq_true rfl) hfr, Nat.le_trans (Nat.le_of_ble_eq_true rfl) hlo⟩) ⟨pr_blind, pr_at hC (fun k q h => by simp at h)⟩ rfl rfl hl.1 rfl (lv_room (Nat.le_of_ble_eq_true rfl)) d_M_persons_14 ⟨hce, hsl⟩) (fun r9 h9 => ?_)
    subst h9
    refine nx_b_ne (tgt := 24) hx hb d_M_persons_17 (by decide) (fun h2 => ?_) (fun h2 => ?_)
    · exact absurd ⟨Classical.not_not.mp h1, h2⟩ hbad
    · refine lv_iconst (v := nI 1) hx hb d_M_persons_20 (by decide) ?_
      refine lv_goto (tgt := 48) hx hb d_M_persons_21 (by decide) ?_
      refine va_put (D := (dC, dI)) (ci := 6) (v := .int (nI 1)) (ty := (.int)) (C := R_M) (T := F_M) (N := 17) hx hb hts i_M ft_M ft_M_ok n_M hown hK hP hD hS 0 rfl rfl 0 (by decide) (hts _ k_477) (fun _ h9 => h9) rfl (by decide +kernel) rfl rfl (Nat.le_of_ble_eq_true rfl) d_M_persons_48 (fun H locs hP hD hS => ?_)
      have hP : va_P (dC, dI) vwCl [(q 0, .inr (6, (mF q (nI 1) F nt ab be))), (q 1, .inl (cI, 13, .inl (fun j => nI (pp j))))] H := hP
      have hD : va_D A [(q 0, .inr (6, (mF q (nI 1) F nt ab be))), (q 1, .inl (cI, 13, .inl (fun j => nI (pp j))))] := hD
      refine lv_aload_n hx hb d_M_persons_51 rfl (lv_at hl 0 rfl) ?_
      refine va_get (D := (dC, dI)) (ci := 6) (v := .int (nI 1)) (C := R_M) (T := F_M) (N := 17) hx hb hts i_M hown hK hP 0 rfl rfl 0 (by decide) (hts _ k_477) (fun _ h9 => h9) rfl d_M_persons_52 ?_
      refine nx_if_le (tgt := 60) hx hb d_M_persons_55 (by decide) (by omega) (fun h9 => ?_) (fun h9 => ?_)
      · exact absurd h9 (by omega)
      · refine lv_iconst (v := nI 0) hx hb d_M_persons_58 (by decide) ?_
        exact W.iret hx hb hr (fun t ht hW => ⟨⟨_, (), rfl, rfl, by rw [ht]; exact hP, hD⟩, hS.F ht⟩) hS.2.2 d_M_persons_59
set_option maxHeartbeats 4000000 in
set_option maxRecDepth 100000 in
theorem c_M_persons_b2 (l : Launch) {dC : Nat → ClassId} {dI : Nat → Nat → Nat} {cI cL cT : ClassId} {sa : Nat → Nat} (sz : Nat) (q : Nat → Nat) (th : Int32) (F nt : Nat) (ab be : Int64) (pp : Nat → Nat) (fl a : Nat) (ha : a ≤ 200) (hf1 : 1 ≤ fl) (hf2 : fl ≤ F) (hF12 : F ≤ 12) (hE : sm pp 1 F ≤ 200) (hpl : pp fl ≤ sm pp 1 F) (hbad : 200 < sm pp 1 F - pp fl + a) : Met l y_M_persons (Cond.code y_M_persons b_M_persons 4 (some .int) :: gw) ({ frames := 2, cells := 0, slots := 0, locals := 43 } : Room) (wr dC dI cI cL cT sa [.ref (q 0), .int (nI fl), .int (nI a)] [(q 0, .inr (6, (mF q th F nt ab be))), (q 1, .inl (cI, 13, .inl (fun j => nI (pp j))))] sz) (va_Qi (fun r (_ : Unit) => r = nI 0) (wB dC dI [(q 0, .inr (6, (mF q th F nt ab be))), (q 1, .inl (cI, 13, .inl (fun j => nI (pp j))))] [(q 0, .inr (6, (mF q (nI 2) F nt ab be))), (q 1, .inl (cI, 13, .inl (fun j => nI (pp j))))] sz) (va_A [(q 0, .inr (6, (mF q th F nt ab be))), (q 1, .inl (cI, 13, .inl (fun j => nI (pp j))))] sz)) 0 0 (va_A [(q 0, .inr (6, (mF q th F nt ab be))), (q 1, .inl (cI, 13, .inl (fun j => nI (pp j))))] sz) := by
  refine Met.ofW (cc := b_M_persons) (maxL := 4) (ret := (some .int)) (by decide) rfl ?_
  intro p e s m args below meth c s₁ B hml hv
  obtain ⟨rfl, hsz, hC, hP, hD0⟩ := hv
  have hx := B.exec
  have hb := B.bytes
  have hr := B.returns
  have hts : ∀ w ∈ gw, w.before ([.ref (q 0), .int (nI fl), .int (nI a)] : List Value).toArray s = true := fun w hw => atoms_spec (ws := Cond.code y_M_persons b_M_persons 4 (some .int) :: gw) B.pre w (List.mem_cons_of_mem _ hw)
  have hown : s.vm.findClass R_M = some m.cls := findClass_of_methodNamed B.named
  have hlocks := B.notSynchronized
  have hK := hC.1
  have hfr : 2 ≤ (headSpec (Cond.code y_M_persons b_M_persons 4 (some .int) :: gw) ({ frames := 2, cells := 0, slots := 0, locals := 43 } : Room)).room.frames := Nat.le_refl _
  have hlo : 43 ≤ (headSpec (Cond.code y_M_persons b_M_persons 4 (some .int) :: gw) ({ frames := 2, cells := 0, slots := 0, locals := 43 } : Room)).room.locals := Nat.le_refl _
  have hce : 0 ≤ (headSpec (Cond.code y_M_persons b_M_persons 4 (some .int) :: gw) ({ frames := 2, cells := 0, slots := 0, locals := 43 } : Room)).room.cells := Nat.zero_le _
  have hsl : 0 ≤ (headSpec (Cond.code y_M_persons b_M_persons 4 (some .int) :: gw) ({ frames := 2, cells := 0, slots := 0, locals := 43 } : Room)).room.slots := Nat.zero_le _
  subst hsz
  have hD := hD0.self (sz := s.heap.size)
  unfold wB
  generalize hAe : va_A [(q 0, .inr (6, (mF q th F nt ab be))), (q 1, .inl (cI, 13, .inl (fun j => nI (pp j))))] s.heap.size = A at hD ⊢
  have hA : ∀ q : Nat, s.heap.size ≤ q → A q := fun q h => by rw [← hAe]; exact Or.inr h
  have hS : va_S A s.heap s.heap [] := va_S.rf
  have hl := lv_entry ([.ref (q 0), .int (nI fl), .int (nI a)]) (n := 4) (Nat.le_of_ble_eq_true rfl)
  rw [lg_entry_eq]
  generalize (lg_sl ([.ref (q 0), .int (nI fl), .int (nI a)]) ++ List.replicate (4 - (lg_sl ([.ref (q 0), .int (nI fl), .int (nI a)])).length) Slot.unset).toArray = ls at hl ⊢
  have hl : lv_has ls 4 [(0, .ref (q 0)), (1, .int (nI fl)), (2, .int (nI a))] := hl
  have hok : okFl F (nI fl) := okFl_N hf1 hf2 hF12
  refine lv_aload_n hx hb d_M_persons_0 rfl (lv_at hl 0 rfl) ?_
  refine lv_aload_n hx hb d_M_persons_1 rfl (lv_at hl 0 rfl) ?_
  refine lv_iload_n hx hb d_M_persons_2 rfl (lv_at hl 1 rfl) ?_
  refine ro_calli (va_runV (As := [.int (nI fl)]) (rest := [.ref (q 0)]) ⟨hx, hb, hml, hown, hts⟩ (c_M_noFloor l q th F nt ab be (nI fl) hF12) (cwV 1 hts (gw_V k_551 k_548 k_550 ks_M_noFloor k_6) rfl rfl rfl (by decide +kernel) ⟨Nat.le_trans (Nat.le_of_ble_eq_true rfl) hfr, Nat.le_trans (Nat.le_of_ble_eq_true rfl) hlo⟩) ⟨pr_blind, va_recv hK hP (ci := 6) (q0 := 0) rfl rfl, pr_at hC (hP.sub (ws' := [(q 0, .inr (6, (mF q th F nt ab be)))]) [0] rfl)⟩ rfl rfl hl.1 rfl (lv_room (Nat.le_of_ble_eq_true rfl)) d_M_persons_3 ⟨hce, hsl⟩) (fun r9 h9 => ?_)
  subst h9
  refine nx_b_ne (tgt := 20) hx hb d_M_persons_6 (by decide) (fun h1 => ?_) (fun h1 => ?_)
  · exact absurd hok h1
  · refine lv_iload_n hx hb d_M_persons_9 rfl (lv_at hl 2 rfl) ?_
    refine lv_iconst (v := nI 0) hx hb d_M_persons_10 (by decide) ?_
    refine lv_sipush (v := nI 200) hx hb d_M_persons_11 (by decide) ?_
    refine ro_calli (va_runS (As := [.int (nI a), .int (nI 0), .int (nI 200)]) (rest := [.ref (q 0)]) ⟨hx, hb, hml, hown, hts⟩ (c_M_isInN l a 0 200 (by omega) (by decide) (by decide)) (cwS 3 hts (gw_S k_539 k_537 k_538 k_6) rfl rfl rfl (by decide +kernel) ⟨Nat.le_trans (Nat.le_of_ble_eq_true rfl) hfr, Nat.le_trans (Nat.le_of_ble_eq_true rfl) hlo⟩) ⟨pr_blind, pr_at hC (fun k q h => by simp at h)⟩ rfl rfl hl.1 rfl (lv_room (Nat.le_of_ble_eq_true rfl)) d_M_persons_14 ⟨hce, hsl⟩) (fun r9 h9 => ?_)
    subst h9
    refine nx_b_ne (tgt := 24) hx hb d_M_persons_17 (by decide) (fun h2 => ?_) (fun h2 => ?_)
    · refine lv_aload_n hx hb d_M_persons_24 rfl (lv_at hl 0 rfl) ?_
      refine ro_calli (va_runV (As := []) (rest := [.ref (q 0)]) ⟨hx, hb, hml, hown, hts⟩ (c_M_allPersons l q th F nt ab be pp hF12) (cwV 0 hts (gw_V k_543 k_540 k_542 ks_M_allPersons k_6) rfl rfl rfl (by decide +kernel) ⟨Nat.le_trans (Nat.le_of_ble_eq_true rfl) hfr, Nat.le_trans (Nat.le_of_ble_eq_true rfl) hlo⟩) ⟨pr_blind, va_recv hK hP (ci := 6) (q0 := 0) rfl rfl, pr_at hC (hP.sub (ws' := [(q 0, .inr (6, (mF q th F nt ab be))), (q 1, .inl (cI, 13, .inl (fun j => nI (pp j))))]) [0, 1] rfl)⟩ rfl rfl hl.1 rfl (lv_room (Nat.le_of_ble_eq_true rfl)) d_M_persons_25 ⟨hce, hsl⟩) (fun r9 h9 => ?_)
      subst h9
      refine lv_aload_n hx hb d_M_persons_28 rfl (lv_at hl 0 rfl) ?_
      refine va_get (D := (dC, dI)) (ci := 6) (v := .ref (q 1)) (C := R_M) (T := F_M) (N := 17) hx hb hts i_M hown hK hP 0 rfl rfl 1 (by decide) (hts _ k_478) (fun _ h9 => h9) rfl d_M_persons_29 ?_
      refine lv_iload_n hx hb d_M_persons_32 rfl (lv_at hl 1 rfl) ?_
      refine nx_iald hx hb hK hP 1 0 rfl rfl (k := fl) (v := nI (pp fl)) (by omega) (by decide) rfl d_M_persons_33 ?_
      refine nx_isub hx hb d_M_persons_34 (by omega) ?_
      refine lv_iload_n hx hb d_M_persons_35 rfl (lv_at hl 2 rfl) ?_
      refine nx_iadd hx hb d_M_persons_36 ?_
      refine lv_sipush (v := nI 200) hx hb d_M_persons_37 (by decide) ?_
      refine nx_icmp_le (tgt := 47) hx hb d_M_persons_40 (by decide) (by omega) (by omega) (fun h4 => ?_) (fun h4 => ?_)
      · exact absurd hbad (by omega)
      · refine lv_iconst (v := nI 2) hx hb d_M_persons_43 (by decide) ?_
        refine lv_goto (tgt := 48) hx hb d_M_persons_44 (by decide) ?_
        refine va_put (D := (dC, dI)) (ci := 6) (v := .int (nI 2)) (ty := (.int)) (C := R_M) (T := F_M) (N := 17) hx hb hts i_M ft_M ft_M_ok n_M hown hK hP hD hS 0 rfl rfl 0 (by decide) (hts _ k_477) (fun _ h9 => h9) rfl (by decide +kernel) rfl rfl (Nat.le_of_ble_eq_true rfl) d_M_persons_48 (fun H locs hP hD hS => ?_)
        have hP : va_P (dC, dI) vwCl [(q 0, .inr (6, (mF q (nI 2) F nt ab be))), (q 1, .inl (cI, 13, .inl (fun j => nI (pp j))))] H := hP
        have hD : va_D A [(q 0, .inr (6, (mF q (nI 2) F nt ab be))), (q 1, .inl (cI, 13, .inl (fun j => nI (pp j))))] := hD
        refine lv_aload_n hx hb d_M_persons_51 rfl (lv_at hl 0 rfl) ?_
        refine va_get (D := (dC, dI)) (ci := 6) (v := .int (nI 2)) (C := R_M) (T := F_M) (N := 17) hx hb hts i_M hown hK hP 0 rfl rfl 0 (by decide) (hts _ k_477) (fun _ h9 => h9) rfl d_M_persons_52 ?_
        refine nx_if_le (tgt := 60) hx hb d_M_persons_55 (by decide) (by omega) (fun h9 => ?_) (fun h9 => ?_)
        · exact absurd h9 (by omega)
        · refine lv_iconst (v := nI 0) hx hb d_M_persons_58 (by decide) ?_
          exact W.iret hx hb hr (fun t ht hW => ⟨⟨_, (), rfl, rfl, by rw [ht]; exact hP, hD⟩, hS.F ht⟩) hS.2.2 d_M_persons_59
    · exact absurd (show 0 ≤ a ∧ a ≤ 200 by omega) h2
set_option maxHeartbeats 4000000 in
set_option maxRecDepth 100000 in
theorem c_M_persons (l : Launch) {dC : Nat → ClassId} {dI : Nat → Nat → Nat} {cI cL cT : ClassId} {sa : Nat → Nat} (sz : Nat) (q : Nat → Nat) (th : Int32) (F nt : Nat) (ab be : Int64) (pp : Nat → Nat) (fl a : Nat) (ha : a ≤ 200) (hf1 : 1 ≤ fl) (hf2 : fl ≤ F) (hF12 : F ≤ 12) (hE : sm pp 1 F ≤ 200) (hpl : pp fl ≤ sm pp 1 F) (hgood : sm pp 1 F - pp fl + a ≤ 200) : Met l y_M_persons (Cond.code y_M_persons b_M_persons 4 (some .int) :: gw) ({ frames := 2, cells := 0, slots := 0, locals := 43 } : Room) (wr dC dI cI cL cT sa [.ref (q 0), .int (nI fl), .int (nI a)] [(q 0, .inr (6, (mF q th F nt ab be))), (q 1, .inl (cI, 13, .inl (fun j => nI (pp j))))] sz) (va_Qi (fun r (_ : Unit) => r = nI (pp fl)) (wB dC dI [(q 0, .inr (6, (mF q th F nt ab be))), (q 1, .inl (cI, 13, .inl (fun j => nI (pp j))))] [(q 0, .inr (6, (mF q (nI 0) F nt ab be))), (q 1, .inl (cI, 13, .inl (fun j => nI ((up pp fl a) j))))] sz) (va_A [(q 0, .inr (6, (mF q th F nt ab be))), (q 1, .inl (cI, 13, .inl (fun j => nI (pp j))))] sz)) 0 0 (va_A [(q 0, .inr (6, (mF q th F nt ab be))), (q 1, .inl (cI, 13, .inl (fun j => nI (pp j))))] sz) := by
  refine Met.ofW (cc := b_M_persons) (maxL := 4) (ret := (some .int)) (by decide) rfl ?_
  intro p e s m args below meth c s₁ B hml hv
  obtain ⟨rfl, hsz, hC, hP, hD0⟩ := hv
  have hx := B.exec
  have hb := B.bytes
  have hr := B.returns
  have hts : ∀ w ∈ gw, w.before ([.ref (q 0), .int (nI fl), .int (nI a)] : List Value).toArray s = true := fun w hw => atoms_spec (ws := Cond.code y_M_persons b_M_persons 4 (some .int) :: gw) B.pre w (List.mem_cons_of_mem _ hw)
  have hown : s.vm.findClass R_M = some m.cls := findClass_of_methodNamed B.named
  have hlocks := B.notSynchronized
  have hK := hC.1
  have hfr : 2 ≤ (headSpec (Cond.code y_M_persons b_M_persons 4 (some .int) :: gw) ({ frames := 2, cells := 0, slots := 0, locals := 43 } : Room)).room.frames := Nat.le_refl _
  have hlo : 43 ≤ (headSpec (Cond.code y_M_persons b_M_persons 4 (some .int) :: gw) ({ frames := 2, cells := 0, slots := 0, locals := 43 } : Room)).room.locals := Nat.le_refl _
  have hce : 0 ≤ (headSpec (Cond.code y_M_persons b_M_persons 4 (some .int) :: gw) ({ frames := 2, cells := 0, slots := 0, locals := 43 } : Room)).room.cells := Nat.zero_le _
  have hsl : 0 ≤ (headSpec (Cond.code y_M_persons b_M_persons 4 (some .int) :: gw) ({ frames := 2, cells := 0, slots := 0, locals := 43 } : Room)).room.slots := Nat.zero_le _
  subst hsz
  have hD := hD0.self (sz := s.heap.size)
  unfold wB
  generalize hAe : va_A [(q 0, .inr (6, (mF q th F nt ab be))), (q 1, .inl (cI, 13, .inl (fun j => nI (pp j))))] s.heap.size = A at hD ⊢
  have hA : ∀ q : Nat, s.heap.size ≤ q → A q := fun q h => by rw [← hAe]; exact Or.inr h
  have hS : va_S A s.heap s.heap [] := va_S.rf
  have hl := lv_entry ([.ref (q 0), .int (nI fl), .int (nI a)]) (n := 4) (Nat.le_of_ble_eq_true rfl)
  rw [lg_entry_eq]
  generalize (lg_sl ([.ref (q 0), .int (nI fl), .int (nI a)]) ++ List.replicate (4 - (lg_sl ([.ref (q 0), .int (nI fl), .int (nI a)])).length) Slot.unset).toArray = ls at hl ⊢
  have hl : lv_has ls 4 [(0, .ref (q 0)), (1, .int (nI fl)), (2, .int (nI a))] := hl
  have hok : okFl F (nI fl) := okFl_N hf1 hf2 hF12
  refine lv_aload_n hx hb d_M_persons_0 rfl (lv_at hl 0 rfl) ?_
  refine lv_aload_n hx hb d_M_persons_1 rfl (lv_at hl 0 rfl) ?_
  refine lv_iload_n hx hb d_M_persons_2 rfl (lv_at hl 1 rfl) ?_
  refine ro_calli (va_runV (As := [.int (nI fl)]) (rest := [.ref (q 0)]) ⟨hx, hb, hml, hown, hts⟩ (c_M_noFloor l q th F nt ab be (nI fl) hF12) (cwV 1 hts (gw_V k_551 k_548 k_550 ks_M_noFloor k_6) rfl rfl rfl (by decide +kernel) ⟨Nat.le_trans (Nat.le_of_ble_eq_true rfl) hfr, Nat.le_trans (Nat.le_of_ble_eq_true rfl) hlo⟩) ⟨pr_blind, va_recv hK hP (ci := 6) (q0 := 0) rfl rfl, pr_at hC (hP.sub (ws' := [(q 0, .inr (6, (mF q th F nt ab be)))]) [0] rfl)⟩ rfl rfl hl.1 rfl (lv_room (Nat.le_of_ble_eq_true rfl)) d_M_persons_3 ⟨hce, hsl⟩) (fun r9 h9 => ?_)
  subst h9
  refine nx_b_ne (tgt := 20) hx hb d_M_persons_6 (by decide) (fun h1 => ?_) (fun h1 => ?_)
  · exact absurd hok h1
  · refine lv_iload_n hx hb d_M_persons_9 rfl (lv_at hl 2 rfl) ?_
    refine lv_iconst (v := nI 0) hx hb d_M_persons_10 (by decide) ?_
    refine lv_sipush (v := nI 200) hx hb d_M_persons_11 (by decide) ?_
    refine ro_calli (va_runS (As := [.int (nI a), .int (nI 0), .int (nI 200)]) (rest := [.ref (q 0)]) ⟨hx, hb, hml, hown, hts⟩ (c_M_isInN l a 0 200 (by omega) (by decide) (by decide)) (cwS 3 hts (gw_S k_539 k_537 k_538 k_6) rfl rfl rfl (by decide +kernel) ⟨Nat.le_trans (Nat.le_of_ble_eq_true rfl) hfr, Nat.le_trans (Nat.le_of_ble_eq_true rfl) hlo⟩) ⟨pr_blind, pr_at hC (fun k q h => by simp at h)⟩ rfl rfl hl.1 rfl (lv_room (Nat.le_of_ble_eq_true rfl)) d_M_persons_14 ⟨hce, hsl⟩) (fun r9 h9 => ?_)
    subst h9
    refine nx_b_ne (tgt := 24) hx hb d_M_persons_17 (by decide) (fun h2 => ?_) (fun h2 => ?_)
    · refine lv_aload_n hx hb d_M_persons_24 rfl (lv_at hl 0 rfl) ?_
      refine ro_calli (va_runV (As := []) (rest := [.ref (q 0)]) ⟨hx, hb, hml, hown, hts⟩ (c_M_allPersons l q th F nt ab be pp hF12) (cwV 0 hts (gw_V k_543 k_540 k_542 ks_M_allPersons k_6) rfl rfl rfl (by decide +kernel) ⟨Nat.le_trans (Nat.le_of_ble_eq_true rfl) hfr, Nat.le_trans (Nat.le_of_ble_eq_true rfl) hlo⟩) ⟨pr_blind, va_recv hK hP (ci := 6) (q0 := 0) rfl rfl, pr_at hC (hP.sub (ws' := [(q 0, .inr (6, (mF q th F nt ab be))), (q 1, .inl (cI, 13, .inl (fun j => nI (pp j))))]) [0, 1] rfl)⟩ rfl rfl hl.1 rfl (lv_room (Nat.le_of_ble_eq_true rfl)) d_M_persons_25 ⟨hce, hsl⟩) (fun r9 h9 => ?_)
      subst h9
      refine lv_aload_n hx hb d_M_persons_28 rfl (lv_at hl 0 rfl) ?_
      refine va_get (D := (dC, dI)) (ci := 6) (v := .ref (q 1)) (C := R_M) (T := F_M) (N := 17) hx hb hts i_M hown hK hP 0 rfl rfl 1 (by decide) (hts _ k_478) (fun _ h9 => h9) rfl d_M_persons_29 ?_
      refine lv_iload_n hx hb d_M_persons_32 rfl (lv_at hl 1 rfl) ?_
      refine nx_iald hx hb hK hP 1 0 rfl rfl (k := fl) (v := nI (pp fl)) (by omega) (by decide) rfl d_M_persons_33 ?_
      refine nx_isub hx hb d_M_persons_34 (by omega) ?_
      refine lv_iload_n hx hb d_M_persons_35 rfl (lv_at hl 2 rfl) ?_
      refine nx_iadd hx hb d_M_persons_36 ?_
      refine lv_sipush (v := nI 200) hx hb d_M_persons_37 (by decide) ?_
      refine nx_icmp_le (tgt := 47) hx hb d_M_persons_40 (by decide) (by omega) (by omega) (fun h4 => ?_) (fun h4 => ?_)
      · refine lv_iconst (v := nI 0) hx hb d_M_persons_47 (by decide) ?_
        refine va_put (D := (dC, dI)) (ci := 6) (v := .int (nI 0)) (ty := (.int)) (C := R_M) (T := F_M) (N := 17) hx hb hts i_M ft_M ft_M_ok n_M hown hK hP hD hS 0 rfl rfl 0 (by decide) (hts _ k_477) (fun _ h9 => h9) rfl (by decide +kernel) rfl rfl (Nat.le_of_ble_eq_true rfl) d_M_persons_48 (fun H locs hP hD hS => ?_)
        have hP : va_P (dC, dI) vwCl [(q 0, .inr (6, (mF q (nI 0) F nt ab be))), (q 1, .inl (cI, 13, .inl (fun j => nI (pp j))))] H := hP
        have hD : va_D A [(q 0, .inr (6, (mF q (nI 0) F nt ab be))), (q 1, .inl (cI, 13, .inl (fun j => nI (pp j))))] := hD
        refine lv_aload_n hx hb d_M_persons_51 rfl (lv_at hl 0 rfl) ?_
        refine va_get (D := (dC, dI)) (ci := 6) (v := .int (nI 0)) (C := R_M) (T := F_M) (N := 17) hx hb hts i_M hown hK hP 0 rfl rfl 0 (by decide) (hts _ k_477) (fun _ h9 => h9) rfl d_M_persons_52 ?_
        refine nx_if_le (tgt := 60) hx hb d_M_persons_55 (by decide) (by omega) (fun h9 => ?_) (fun h9 => ?_)
        · refine lv_aload_n hx hb d_M_persons_60 rfl (lv_at hl 0 rfl) ?_
          refine va_get (D := (dC, dI)) (ci := 6) (v := .ref (q 1)) (C := R_M) (T := F_M) (N := 17) hx hb hts i_M hown hK hP 0 rfl rfl 1 (by decide) (hts _ k_478) (fun _ h9 => h9) rfl d_M_persons_61 ?_
          refine lv_iload_n hx hb d_M_persons_64 rfl (lv_at hl 1 rfl) ?_
          refine nx_iald hx hb hK hP 1 0 rfl rfl (k := fl) (v := nI (pp fl)) (by omega) (by decide) rfl d_M_persons_65 ?_
          refine lv_istore_n (lv' := [(3, .int (nI (pp fl))), (0, .ref (q 0)), (1, .int (nI fl)), (2, .int (nI a))]) hx hb d_M_persons_66 rfl hl (by decide) rfl (fun ls hl => ?_)
          refine lv_aload_n hx hb d_M_persons_67 rfl (lv_at hl 1 rfl) ?_
          refine va_get (D := (dC, dI)) (ci := 6) (v := .ref (q 1)) (C := R_M) (T := F_M) (N := 17) hx hb hts i_M hown hK hP 0 rfl rfl 1 (by decide) (hts _ k_478) (fun _ h9 => h9) rfl d_M_persons_68 ?_
          refine lv_iload_n hx hb d_M_persons_71 rfl (lv_at hl 2 rfl) ?_
          refine lv_iload_n hx hb d_M_persons_72 rfl (lv_at hl 3 rfl) ?_
          refine nx_iast hx hb hK hP hD hS 1 0 rfl rfl (k := fl) (x := nI a) (by omega) (by decide) d_M_persons_73 (fun H locs hP hD hS => ?_)
          have hP : va_P (dC, dI) vwCl [(q 0, .inr (6, (mF q (nI 0) F nt ab be))), (q 1, .inl (cI, 13, .inl (upd (fun j => nI (pp j)) (fl) (nI a))))] H := hP
          have hD : va_D A [(q 0, .inr (6, (mF q (nI 0) F nt ab be))), (q 1, .inl (cI, 13, .inl (upd (fun j => nI (pp j)) (fl) (nI a))))] := hD
          rw [up_eq] at hP hD
          refine lv_iload_n hx hb d_M_persons_74 rfl (lv_at hl 0 rfl) ?_
          exact W.iret hx hb hr (fun t ht hW => ⟨⟨_, (), rfl, rfl, by rw [ht]; exact hP, hD⟩, hS.F ht⟩) hS.2.2 d_M_persons_75
        · exact absurd h9 (by omega)
      · exact absurd h4 (by omega)
    · exact absurd (show 0 ≤ a ∧ a ≤ 200 by omega) h2
set_option maxHeartbeats 4000000 in
set_option maxRecDepth 100000 in
theorem c_M_type_b1 (l : Launch) {dC : Nat → ClassId} {dI : Nat → Nat → Nat} {cI cL cT : ClassId} {sa : Nat → Nat} (sz : Nat) (q : Nat → Nat) (th : Int32) (F nt : Nat) (ab be : Int64) (rm sd dr pe ce : Nat → Nat) (p0 p1 p2 p3 p4 : Int32) (hbad : ¬ ((1 ≤ p0.toInt ∧ p0.toInt ≤ 5) ∧ (1 ≤ p1.toInt ∧ p1.toInt ≤ 100) ∧ (0 ≤ p2.toInt ∧ p2.toInt ≤ 30) ∧ (0 ≤ p3.toInt ∧ p3.toInt ≤ 10) ∧ (1 ≤ p4.toInt ∧ p4.toInt ≤ 100000))) : Met l y_M_type (Cond.code y_M_type b_M_type 7 (some .int) :: gw) ({ frames := 1, cells := 0, slots := 0, locals := 22 } : Room) (wr dC dI cI cL cT sa [.ref (q 0), .int p0, .int p1, .int p2, .int p3, .int p4] [(q 0, .inr (6, (mF q th F nt ab be))), (q 4, .inl (cI, 6, .inl (fun j => nI (rm j)))), (q 5, .inl (cI, 6, .inl (fun j => nI (sd j)))), (q 6, .inl (cI, 6, .inl (fun j => nI (dr j)))), (q 7, .inl (cI, 6, .inl (fun j => nI (pe j)))), (q 8, .inl (cI, 6, .inl (fun j => nI (ce j))))] sz) (va_Qi (fun r (_ : Unit) => r = nI 0) (wB dC dI [(q 0, .inr (6, (mF q th F nt ab be))), (q 4, .inl (cI, 6, .inl (fun j => nI (rm j)))), (q 5, .inl (cI, 6, .inl (fun j => nI (sd j)))), (q 6, .inl (cI, 6, .inl (fun j => nI (dr j)))), (q 7, .inl (cI, 6, .inl (fun j => nI (pe j)))), (q 8, .inl (cI, 6, .inl (fun j => nI (ce j))))] [(q 0, .inr (6, (mF q (nI 1) F nt ab be))), (q 4, .inl (cI, 6, .inl (fun j => nI (rm j)))), (q 5, .inl (cI, 6, .inl (fun j => nI (sd j)))), (q 6, .inl (cI, 6, .inl (fun j => nI (dr j)))), (q 7, .inl (cI, 6, .inl (fun j => nI (pe j)))), (q 8, .inl (cI, 6, .inl (fun j => nI (ce j))))] sz) (va_A [(q 0, .inr (6, (mF q th F nt ab be))), (q 4, .inl (cI, 6, .inl (fun j => nI (rm j)))), (q 5, .inl (cI, 6, .inl (fun j => nI (sd j)))), (q 6, .inl (cI, 6, .inl (fun j => nI (dr j)))), (q 7, .inl (cI, 6, .inl (fun j => nI (pe j)))), (q 8, .inl (cI, 6, .inl (fun j => nI (ce j))))] sz)) 0 0 (va_A [(q 0, .inr (6, (mF q th F nt ab be))), (q 4, .inl (cI, 6, .inl (fun j => nI (rm j)))), (q 5, .inl (cI, 6, .inl (fun j => nI (sd j)))), (q 6, .inl (cI, 6, .inl (fun j => nI (dr j)))), (q 7, .inl (cI, 6, .inl (fun j => nI (pe j)))), (q 8, .inl (cI, 6, .inl (fun j => nI (ce j))))] sz) := by
  refine Met.ofW (cc := b_M_type) (maxL := 7) (ret := (some .int)) (by decide) rfl ?_
  intro p e s m args below meth c s₁ B hml hv
  obtain ⟨rfl, hsz, hC, hP, hD0⟩ := hv
  have hx := B.exec
  have hb := B.bytes
  have hr := B.returns
  have hts : ∀ w ∈ gw, w.before ([.ref (q 0), .int p0, .int p1, .int p2, .int p3, .int p4] : List Value).toArray s = true := fun w hw => atoms_spec (ws := Cond.code y_M_type b_M_type 7 (some .int) :: gw) B.pre w (List.mem_cons_of_mem _ hw)
  have hown : s.vm.findClass R_M = some m.cls := findClass_of_methodNamed B.named
  have hlocks := B.notSynchronized
  have hK := hC.1
  have hfr : 1 ≤ (headSpec (Cond.code y_M_type b_M_type 7 (some .int) :: gw) ({ frames := 1, cells := 0, slots := 0, locals := 22 } : Room)).room.frames := Nat.le_refl _
  have hlo : 22 ≤ (headSpec (Cond.code y_M_type b_M_type 7 (some .int) :: gw) ({ frames := 1, cells := 0, slots := 0, locals := 22 } : Room)).room.locals := Nat.le_refl _
  have hce : 0 ≤ (headSpec (Cond.code y_M_type b_M_type 7 (some .int) :: gw) ({ frames := 1, cells := 0, slots := 0, locals := 22 } : Room)).room.cells := Nat.zero_le _
  have hsl : 0 ≤ (headSpec (Cond.code y_M_type b_M_type 7 (some .int) :: gw) ({ frames := 1, cells := 0, slots := 0, locals := 22 } : Room)).room.slots := Nat.zero_le _
  subst hsz
  have hD := hD0.self (sz := s.heap.size)
  unfold wB
  generalize hAe : va_A [(q 0, .inr (6, (mF q th F nt ab be))), (q 4, .inl (cI, 6, .inl (fun j => nI (rm j)))), (q 5, .inl (cI, 6, .inl (fun j => nI (sd j)))), (q 6, .inl (cI, 6, .inl (fun j => nI (dr j)))), (q 7, .inl (cI, 6, .inl (fun j => nI (pe j)))), (q 8, .inl (cI, 6, .inl (fun j => nI (ce j))))] s.heap.size = A at hD ⊢
  have hA : ∀ q : Nat, s.heap.size ≤ q → A q := fun q h => by rw [← hAe]; exact Or.inr h
  have hS : va_S A s.heap s.heap [] := va_S.rf
  have hl := lv_entry ([.ref (q 0), .int p0, .int p1, .int p2, .int p3, .int p4]) (n := 7) (Nat.le_of_ble_eq_true rfl)
  rw [lg_entry_eq]
  generalize (lg_sl ([.ref (q 0), .int p0, .int p1, .int p2, .int p3, .int p4]) ++ List.replicate (7 - (lg_sl ([.ref (q 0), .int p0, .int p1, .int p2, .int p3, .int p4])).length) Slot.unset).toArray = ls at hl ⊢
  have hl : lv_has ls 7 [(0, .ref (q 0)), (1, .int p0), (2, .int p1), (3, .int p2), (4, .int p3), (5, .int p4)] := hl
  refine lv_iload_n hx hb d_M_type_0 rfl (lv_at hl 1 rfl) ?_
  refine lv_iconst (v := nI 1) hx hb d_M_type_1 (by decide) ?_
  refine lv_iconst (v := nI 5) hx hb d_M_type_2 (by decide) ?_
  refine ro_calli (va_runS (As := [.int p0, .int (nI 1), .int (nI 5)]) (rest := []) ⟨hx, hb, hml, hown, hts⟩ (c_M_isIn l p0 (nI 1) (nI 5) 1 5 (nI_toInt (by decide)) (nI_toInt (by decide))) (cwS 3 hts (gw_S k_539 k_537 k_538 k_6) rfl rfl rfl (by decide +kernel) ⟨Nat.le_trans (Nat.le_of_ble_eq_true rfl) hfr, Nat.le_trans (Nat.le_of_ble_eq_true rfl) hlo⟩) ⟨pr_blind, pr_at hC (fun k q h => by simp at h)⟩ rfl rfl hl.1 rfl (lv_room (Nat.le_of_ble_eq_true rfl)) d_M_type_3 ⟨hce, hsl⟩) (fun r9 h9 => ?_)
  subst h9
  refine nx_b_eq (tgt := 55) hx hb d_M_type_6 (by decide) (fun h0 => ?_) (fun h0 => ?_)
  · refine lv_iconst (v := nI 0) hx hb d_M_type_55 (by decide) ?_
    refine lv_istore (lv' := [(6, .int (nI 0)), (0, .ref (q 0)), (1, .int p0), (2, .int p1), (3, .int p2), (4, .int p3), (5, .int p4)]) hx hb d_M_type_56 hl (by decide) rfl (fun ls hl => ?_)
    refine lv_aload_n hx hb d_M_type_58 rfl (lv_at hl 1 rfl) ?_
    refine lv_iload hx hb d_M_type_59 (lv_at hl 0 rfl) ?_
    refine nx_if_ne (tgt := 68) hx hb d_M_type_61 (by decide) (by omega) (fun h8 => ?_) (fun h8 => ?_)
    · exact absurd h8 (by omega)
    · refine lv_iconst (v := nI 1) hx hb d_M_type_64 (by decide) ?_
      refine lv_goto (tgt := 82) hx hb d_M_type_65 (by decide) ?_
      refine va_put (D := (dC, dI)) (ci := 6) (v := .int (nI 1)) (ty := (.int)) (C := R_M) (T := F_M) (N := 17) hx hb hts i_M ft_M ft_M_ok n_M hown hK hP hD hS 0 rfl rfl 0 (by decide) (hts _ k_477) (fun _ h9 => h9) rfl (by decide +kernel) rfl rfl (Nat.le_of_ble_eq_true rfl) d_M_type_82 (fun H locs hP hD hS => ?_)
      have hP : va_P (dC, dI) vwCl [(q 0, .inr (6, (mF q (nI 1) F nt ab be))), (q 4, .inl (cI, 6, .inl (fun j => nI (rm j)))), (q 5, .inl (cI, 6, .inl (fun j => nI (sd j)))), (q 6, .inl (cI, 6, .inl (fun j => nI (dr j)))), (q 7, .inl (cI, 6, .inl (fun j => nI (pe j)))), (q 8, .inl (cI, 6, .inl (fun j => nI (ce j))))] H := hP
      have hD : va_D A [(q 0, .inr (6, (mF q (nI 1) F nt ab be))), (q 4, .inl (cI, 6, .inl (fun j => nI (rm j)))), (q 5, .inl (cI, 6, .inl (fun j => nI (sd j)))), (q 6, .inl (cI, 6, .inl (fun j => nI (dr j)))), (q 7, .inl (cI, 6, .inl (fun j => nI (pe j)))), (q 8, .inl (cI, 6, .inl (fun j => nI (ce j))))] := hD
      refine lv_aload_n hx hb d_M_type_85 rfl (lv_at hl 1 rfl) ?_
      refine va_get (D := (dC, dI)) (ci := 6) (v := .int (nI 1)) (C := R_M) (T := F_M) (N := 17) hx hb hts i_M hown hK hP 0 rfl rfl 0 (by decide) (hts _ k_477) (fun _ h9 => h9) rfl d_M_type_86 ?_
      refine nx_if_le (tgt := 94) hx hb d_M_type_89 (by decide) (by omega) (fun h9 => ?_) (fun h9 => ?_)
      · exact absurd h9 (by omega)
      · refine lv_iconst (v := nI 0) hx hb d_M_type_92 (by decide) ?_
        exact W.iret hx hb hr (fun t ht hW => ⟨⟨_, (), rfl, rfl, by rw [ht]; exact hP, hD⟩, hS.F ht⟩) hS.2.2 d_M_type_93
  · refine lv_iload_n hx hb d_M_type_9 rfl (lv_at hl 2 rfl) ?_
    refine lv_iconst (v := nI 1) hx hb d_M_type_10 (by decide) ?_
    refine lv_bipush (v := nI 100) hx hb d_M_type_11 (by decide) ?_
    refine ro_calli (va_runS (As := [.int p1, .int (nI 1), .int (nI 100)]) (rest := []) ⟨hx, hb, hml, hown, hts⟩ (c_M_isIn l p1 (nI 1) (nI 100) 1 100 (nI_toInt (by decide)) (nI_toInt (by decide))) (cwS 3 hts (gw_S k_539 k_537 k_538 k_6) rfl rfl rfl (by decide +kernel) ⟨Nat.le_trans (Nat.le_of_ble_eq_true rfl) hfr, Nat.le_trans (Nat.le_of_ble_eq_true rfl) hlo⟩) ⟨pr_blind, pr_at hC (fun k q h => by simp at h)⟩ rfl rfl hl.1 rfl (lv_room (Nat.le_of_ble_eq_true rfl)) d_M_type_13 ⟨hce, hsl⟩) (fun r9 h9 => ?_)
    subst h9
    refine nx_b_eq (tgt := 55) hx hb d_M_type_16 (by decide) (fun h1 => ?_) (fun h1 => ?_)
    · refine lv_iconst (v := nI 0) hx hb d_M_type_55 (by decide) ?_
      refine lv_istore (lv' := [(6, .int (nI 0)), (0, .ref (q 0)), (1, .int p0), (2, .int p1), (3, .int p2), (4, .int p3), (5, .int p4)]) hx hb d_M_type_56 hl (by decide) rfl (fun ls hl => ?_)
      refine lv_aload_n hx hb d_M_type_58 rfl (lv_at hl 1 rfl) ?_
      refine lv_iload hx hb d_M_type_59 (lv_at hl 0 rfl) ?_
      refine nx_if_ne (tgt := 68) hx hb d_M_type_61 (by decide) (by omega) (fun h8 => ?_) (fun h8 => ?_)
      · exact absurd h8 (by omega)
      · refine lv_iconst (v := nI 1) hx hb d_M_type_64 (by decide) ?_
        refine lv_goto (tgt := 82) hx hb d_M_type_65 (by decide) ?_
        refine va_put (D := (dC, dI)) (ci := 6) (v := .int (nI 1)) (ty := (.int)) (C := R_M) (T := F_M) (N := 17) hx hb hts i_M ft_M ft_M_ok n_M hown hK hP hD hS 0 rfl rfl 0 (by decide) (hts _ k_477) (fun _ h9 => h9) rfl (by decide +kernel) rfl rfl (Nat.le_of_ble_eq_true rfl) d_M_type_82 (fun H locs hP hD hS => ?_)
        have hP : va_P (dC, dI) vwCl [(q 0, .inr (6, (mF q (nI 1) F nt ab be))), (q 4, .inl (cI, 6, .inl (fun j => nI (rm j)))), (q 5, .inl (cI, 6, .inl (fun j => nI (sd j)))), (q 6, .inl (cI, 6, .inl (fun j => nI (dr j)))), (q 7, .inl (cI, 6, .inl (fun j => nI (pe j)))), (q 8, .inl (cI, 6, .inl (fun j => nI (ce j))))] H := hP
        have hD : va_D A [(q 0, .inr (6, (mF q (nI 1) F nt ab be))), (q 4, .inl (cI, 6, .inl (fun j => nI (rm j)))), (q 5, .inl (cI, 6, .inl (fun j => nI (sd j)))), (q 6, .inl (cI, 6, .inl (fun j => nI (dr j)))), (q 7, .inl (cI, 6, .inl (fun j => nI (pe j)))), (q 8, .inl (cI, 6, .inl (fun j => nI (ce j))))] := hD
        refine lv_aload_n hx hb d_M_type_85 rfl (lv_at hl 1 rfl) ?_
        refine va_get (D := (dC, dI)) (ci := 6) (v := .int (nI 1)) (C := R_M) (T := F_M) (N := 17) hx hb hts i_M hown hK hP 0 rfl rfl 0 (by decide) (hts _ k_477) (fun _ h9 => h9) rfl d_M_type_86 ?_
        refine nx_if_le (tgt := 94) hx hb d_M_type_89 (by decide) (by omega) (fun h9 => ?_) (fun h9 => ?_)
        · exact absurd h9 (by omega)
        · refine lv_iconst (v := nI 0) hx hb d_M_type_92 (by decide) ?_
          exact W.iret hx hb hr (fun t ht hW => ⟨⟨_, (), rfl, rfl, by rw [ht]; exact hP, hD⟩, hS.F ht⟩) hS.2.2 d_M_type_93
    · refine lv_iload_n hx hb d_M_type_19 rfl (lv_at hl 3 rfl) ?_
      refine lv_iconst (v := nI 0) hx hb d_M_type_20 (by decide) ?_
      refine lv_bipush (v := nI 30) hx hb d_M_type_21 (by decide) ?_
      refine ro_calli (va_runS (As := [.int p2, .int (nI 0), .int (nI 30)]) (rest := []) ⟨hx, hb, hml, hown, hts⟩ (c_M_isIn l p2 (nI 0) (nI 30) 0 30 (nI_toInt (by decide)) (nI_toInt (by decide))) (cwS 3 hts (gw_S k_539 k_537 k_538 k_6) rfl rfl rfl (by decide +kernel) ⟨Nat.le_trans (Nat.le_of_ble_eq_true rfl) hfr, Nat.le_trans (Nat.le_of_ble_eq_true rfl) hlo⟩) ⟨pr_blind, pr_at hC (fun k q h => by simp at h)⟩ rfl rfl hl.1 rfl (lv_room (Nat.le_of_ble_eq_true rfl)) d_M_type_23 ⟨hce, hsl⟩) (fun r9 h9 => ?_)
      subst h9
      refine nx_b_eq (tgt := 55) hx hb d_M_type_26 (by decide) (fun h2 => ?_) (fun h2 => ?_)
      · refine lv_iconst (v := nI 0) hx hb d_M_type_55 (by decide) ?_
        refine lv_istore (lv' := [(6, .int (nI 0)), (0, .ref (q 0)), (1, .int p0), (2, .int p1), (3, .int p2), (4, .int p3), (5, .int p4)]) hx hb d_M_type_56 hl (by decide) rfl (fun ls hl => ?_)
        refine lv_aload_n hx hb d_M_type_58 rfl (lv_at hl 1 rfl) ?_
        refine lv_iload hx hb d_M_type_59 (lv_at hl 0 rfl) ?_
        refine nx_if_ne (tgt := 68) hx hb d_M_type_61 (by decide) (by omega) (fun h8 => ?_) (fun h8 => ?_)
        · exact absurd h8 (by omega)
        · refine lv_iconst (v := nI 1) hx hb d_M_type_64 (by decide) ?_
          refine lv_goto (tgt := 82) hx hb d_M_type_65 (by decide) ?_
          refine va_put (D := (dC, dI)) (ci := 6) (v := .int (nI 1)) (ty := (.int)) (C := R_M) (T := F_M) (N := 17) hx hb hts i_M ft_M ft_M_ok n_M hown hK hP hD hS 0 rfl rfl 0 (by decide) (hts _ k_477) (fun _ h9 => h9) rfl (by decide +kernel) rfl rfl (Nat.le_of_ble_eq_true rfl) d_M_type_82 (fun H locs hP hD hS => ?_)
          have hP : va_P (dC, dI) vwCl [(q 0, .inr (6, (mF q (nI 1) F nt ab be))), (q 4, .inl (cI, 6, .inl (fun j => nI (rm j)))), (q 5, .inl (cI, 6, .inl (fun j => nI (sd j)))), (q 6, .inl (cI, 6, .inl (fun j => nI (dr j)))), (q 7, .inl (cI, 6, .inl (fun j => nI (pe j)))), (q 8, .inl (cI, 6, .inl (fun j => nI (ce j))))] H := hP
          have hD : va_D A [(q 0, .inr (6, (mF q (nI 1) F nt ab be))), (q 4, .inl (cI, 6, .inl (fun j => nI (rm j)))), (q 5, .inl (cI, 6, .inl (fun j => nI (sd j)))), (q 6, .inl (cI, 6, .inl (fun j => nI (dr j)))), (q 7, .inl (cI, 6, .inl (fun j => nI (pe j)))), (q 8, .inl (cI, 6, .inl (fun j => nI (ce j))))] := hD
          refine lv_aload_n hx hb d_M_type_85 rfl (lv_at hl 1 rfl) ?_
          refine va_get (D := (dC, dI)) (ci := 6) (v := .int (nI 1)) (C := R_M) (T := F_M) (N := 17) hx hb hts i_M hown hK hP 0 rfl rfl 0 (by decide) (hts _ k_477) (fun _ h9 => h9) rfl d_M_type_86 ?_
          refine nx_if_le (tgt := 94) hx hb d_M_type_89 (by decide) (by omega) (fun h9 => ?_) (fun h9 => ?_)
          · exact absurd h9 (by omega)
          · refine lv_iconst (v := nI 0) hx hb d_M_type_92 (by decide) ?_
            exact W.iret hx hb hr (fun t ht hW => ⟨⟨_, (), rfl, rfl, by rw [ht]; exact hP, hD⟩, hS.F ht⟩) hS.2.2 d_M_type_93
      · refine lv_iload hx hb d_M_type_29 (lv_at hl 4 rfl) ?_
        refine lv_iconst (v := nI 0) hx hb d_M_type_31 (by decide) ?_
        refine lv_bipush (v := nI 10) hx hb d_M_type_32 (by decide) ?_
        refine ro_calli (va_runS (As := [.int p3, .int (nI 0), .int (nI 10)]) (rest := []) ⟨hx, hb, hml, hown, hts⟩ (c_M_isIn l p3 (nI 0) (nI 10) 0 10 (nI_toInt (by decide)) (nI_toInt (by decide))) (cwS 3 hts (gw_S k_539 k_537 k_538 k_6) rfl rfl rfl (by decide +kernel) ⟨Nat.le_trans (Nat.le_of_ble_eq_true rfl) hfr, Nat.le_trans (Nat.le_of_ble_eq_true rfl) hlo⟩) ⟨pr_blind, pr_at hC (fun k q h => by simp at h)⟩ rfl rfl hl.1 rfl (lv_room (Nat.le_of_ble_eq_true rfl)) d_M_type_34 ⟨hce, hsl⟩) (fun r9 h9 => ?_)
        subst h9
        refine nx_b_eq (tgt := 55) hx hb d_M_type_37 (by decide) (fun h3 => ?_) (fun h3 => ?_)
        · refine lv_iconst (v := nI 0) hx hb d_M_type_55 (by decide) ?_
          refine lv_istore (lv' := [(6, .int (nI 0)), (0, .ref (q 0)), (1, .int p0), (2, .int p1), (3, .int p2), (4, .int p3), (5, .int p4)]) hx hb d_M_type_56 hl (by decide) rfl (fun ls hl => ?_)
          refine lv_aload_n hx hb d_M_type_58 rfl (lv_at hl 1 rfl) ?_
          refine lv_iload hx hb d_M_type_59 (lv_at hl 0 rfl) ?_
          refine nx_if_ne (tgt := 68) hx hb d_M_type_61 (by decide) (by omega) (fun h8 => ?_) (fun h8 => ?_)
          · exact absurd h8 (by omega)
          · refine lv_iconst (v := nI 1) hx hb d_M_type_64 (by decide) ?_
            refine lv_goto (tgt := 82) hx hb d_M_type_65 (by decide) ?_
            refine va_put (D := (dC, dI)) (ci := 6) (v := .int (nI 1)) (ty := (.int)) (C := R_M) (T := F_M) (N := 17) hx hb hts i_M ft_M ft_M_ok n_M hown hK hP hD hS 0 rfl rfl 0 (by decide) (hts _ k_477) (fun _ h9 => h9) rfl (by decide +kernel) rfl rfl (Nat.le_of_ble_eq_true rfl) d_M_type_82 (fun H locs hP hD hS => ?_)
            have hP : va_P (dC, dI) vwCl [(q 0, .inr (6, (mF q (nI 1) F nt ab be))), (q 4, .inl (cI, 6, .inl (fun j => nI (rm j)))), (q 5, .inl (cI, 6, .inl (fun j => nI (sd j)))), (q 6, .inl (cI, 6, .inl (fun j => nI (dr j)))), (q 7, .inl (cI, 6, .inl (fun j => nI (pe j)))), (q 8, .inl (cI, 6, .inl (fun j => nI (ce j))))] H := hP
            have hD : va_D A [(q 0, .inr (6, (mF q (nI 1) F nt ab be))), (q 4, .inl (cI, 6, .inl (fun j => nI (rm j)))), (q 5, .inl (cI, 6, .inl (fun j => nI (sd j)))), (q 6, .inl (cI, 6, .inl (fun j => nI (dr j)))), (q 7, .inl (cI, 6, .inl (fun j => nI (pe j)))), (q 8, .inl (cI, 6, .inl (fun j => nI (ce j))))] := hD
            refine lv_aload_n hx hb d_M_type_85 rfl (lv_at hl 1 rfl) ?_
            refine va_get (D := (dC, dI)) (ci := 6) (v := .int (nI 1)) (C := R_M) (T := F_M) (N := 17) hx hb hts i_M hown hK hP 0 rfl rfl 0 (by decide) (hts _ k_477) (fun _ h9 => h9) rfl d_M_type_86 ?_
            refine nx_if_le (tgt := 94) hx hb d_M_type_89 (by decide) (by omega) (fun h9 => ?_) (fun h9 => ?_)
            · exact absurd h9 (by omega)
            · refine lv_iconst (v := nI 0) hx hb d_M_type_92 (by decide) ?_
              exact W.iret hx hb hr (fun t ht hW => ⟨⟨_, (), rfl, rfl, by rw [ht]; exact hP, hD⟩, hS.F ht⟩) hS.2.2 d_M_type_93
        · refine lv_iload hx hb d_M_type_40 (lv_at hl 5 rfl) ?_
          refine lv_iconst (v := nI 1) hx hb d_M_type_42 (by decide) ?_
          refine lv_ldc (v := nI 100000) hx hb hown (hts _ k_556) d_M_type_43 ?_
          refine ro_calli (va_runS (As := [.int p4, .int (nI 1), .int (nI 100000)]) (rest := []) ⟨hx, hb, hml, hown, hts⟩ (c_M_isIn l p4 (nI 1) (nI 100000) 1 100000 (nI_toInt (by decide)) (nI_toInt (by decide))) (cwS 3 hts (gw_S k_539 k_537 k_538 k_6) rfl rfl rfl (by decide +kernel) ⟨Nat.le_trans (Nat.le_of_ble_eq_true rfl) hfr, Nat.le_trans (Nat.le_of_ble_eq_true rfl) hlo⟩) ⟨pr_blind, pr_at hC (fun k q h => by simp at h)⟩ rfl rfl hl.1 rfl (lv_room (Nat.le_of_ble_eq_true rfl)) d_M_type_45 ⟨hce, hsl⟩) (fun r9 h9 => ?_)
          subst h9
          refine nx_b_eq (tgt := 55) hx hb d_M_type_48 (by decide) (fun h4 => ?_) (fun h4 => ?_)
          · refine lv_iconst (v := nI 0) hx hb d_M_type_55 (by decide) ?_
            refine lv_istore (lv' := [(6, .int (nI 0)), (0, .ref (q 0)), (1, .int p0), (2, .int p1), (3, .int p2), (4, .int p3), (5, .int p4)]) hx hb d_M_type_56 hl (by decide) rfl (fun ls hl => ?_)
            refine lv_aload_n hx hb d_M_type_58 rfl (lv_at hl 1 rfl) ?_
            refine lv_iload hx hb d_M_type_59 (lv_at hl 0 rfl) ?_
            refine nx_if_ne (tgt := 68) hx hb d_M_type_61 (by decide) (by omega) (fun h8 => ?_) (fun h8 => ?_)
            · exact absurd h8 (by omega)
            · refine lv_iconst (v := nI 1) hx hb d_M_type_64 (by decide) ?_
              refine lv_goto (tgt := 82) hx hb d_M_type_65 (by decide) ?_
              refine va_put (D := (dC, dI)) (ci := 6) (v := .int (nI 1)) (ty := (.int)) (C := R_M) (T := F_M) (N := 17) hx hb hts i_M ft_M ft_M_ok n_M hown hK hP hD hS 0 rfl rfl 0 (by decide) (hts _ k_477) (fun _ h9 => h9) rfl (by decide +kernel) rfl rfl (Nat.le_of_ble_eq_true rfl) d_M_type_82 (fun H locs hP hD hS => ?_)
              have hP : va_P (dC, dI) vwCl [(q 0, .inr (6, (mF q (nI 1) F nt ab be))), (q 4, .inl (cI, 6, .inl (fun j => nI (rm j)))), (q 5, .inl (cI, 6, .inl (fun j => nI (sd j)))), (q 6, .inl (cI, 6, .inl (fun j => nI (dr j)))), (q 7, .inl (cI, 6, .inl (fun j => nI (pe j)))), (q 8, .inl (cI, 6, .inl (fun j => nI (ce j))))] H := hP
              have hD : va_D A [(q 0, .inr (6, (mF q (nI 1) F nt ab be))), (q 4, .inl (cI, 6, .inl (fun j => nI (rm j)))), (q 5, .inl (cI, 6, .inl (fun j => nI (sd j)))), (q 6, .inl (cI, 6, .inl (fun j => nI (dr j)))), (q 7, .inl (cI, 6, .inl (fun j => nI (pe j)))), (q 8, .inl (cI, 6, .inl (fun j => nI (ce j))))] := hD
              refine lv_aload_n hx hb d_M_type_85 rfl (lv_at hl 1 rfl) ?_
              refine va_get (D := (dC, dI)) (ci := 6) (v := .int (nI 1)) (C := R_M) (T := F_M) (N := 17) hx hb hts i_M hown hK hP 0 rfl rfl 0 (by decide) (hts _ k_477) (fun _ h9 => h9) rfl d_M_type_86 ?_
              refine nx_if_le (tgt := 94) hx hb d_M_type_89 (by decide) (by omega) (fun h9 => ?_) (fun h9 => ?_)
              · exact absurd h9 (by omega)
              · refine lv_iconst (v := nI 0) hx hb d_M_type_92 (by decide) ?_
                exact W.iret hx hb hr (fun t ht hW => ⟨⟨_, (), rfl, rfl, by rw [ht]; exact hP, hD⟩, hS.F ht⟩) hS.2.2 d_M_type_93
          · exact absurd ⟨h0, h1, h2, h3, h4⟩ hbad
set_option maxHeartbeats 4000000 in
set_option maxRecDepth 100000 in
theorem c_M_type_b2 (l : Launch) {dC : Nat → ClassId} {dI : Nat → Nat → Nat} {cI cL cT : ClassId} {sa : Nat → Nat} (sz : Nat) (q : Nat → Nat) (th : Int32) (F nt : Nat) (ab be : Int64) (rm sd dr pe ce : Nat → Nat) (a0 a1 a2 a3 a4 : Nat) (ha0 : 1 ≤ a0 ∧ a0 ≤ 5) (ha1 : 1 ≤ a1 ∧ a1 ≤ 100) (ha2 : 0 ≤ a2 ∧ a2 ≤ 30) (ha3 : 0 ≤ a3 ∧ a3 ≤ 10) (ha4 : 1 ≤ a4 ∧ a4 ≤ 100000) (hn6 : nt ≤ 6) (hbad : nt = 6) : Met l y_M_type (Cond.code y_M_type b_M_type 7 (some .int) :: gw) ({ frames := 1, cells := 0, slots := 0, locals := 22 } : Room) (wr dC dI cI cL cT sa [.ref (q 0), .int (nI a0), .int (nI a1), .int (nI a2), .int (nI a3), .int (nI a4)] [(q 0, .inr (6, (mF q th F nt ab be))), (q 4, .inl (cI, 6, .inl (fun j => nI (rm j)))), (q 5, .inl (cI, 6, .inl (fun j => nI (sd j)))), (q 6, .inl (cI, 6, .inl (fun j => nI (dr j)))), (q 7, .inl (cI, 6, .inl (fun j => nI (pe j)))), (q 8, .inl (cI, 6, .inl (fun j => nI (ce j))))] sz) (va_Qi (fun r (_ : Unit) => r = nI 0) (wB dC dI [(q 0, .inr (6, (mF q th F nt ab be))), (q 4, .inl (cI, 6, .inl (fun j => nI (rm j)))), (q 5, .inl (cI, 6, .inl (fun j => nI (sd j)))), (q 6, .inl (cI, 6, .inl (fun j => nI (dr j)))), (q 7, .inl (cI, 6, .inl (fun j => nI (pe j)))), (q 8, .inl (cI, 6, .inl (fun j => nI (ce j))))] [(q 0, .inr (6, (mF q (nI 2) F nt ab be))), (q 4, .inl (cI, 6, .inl (fun j => nI (rm j)))), (q 5, .inl (cI, 6, .inl (fun j => nI (sd j)))), (q 6, .inl (cI, 6, .inl (fun j => nI (dr j)))), (q 7, .inl (cI, 6, .inl (fun j => nI (pe j)))), (q 8, .inl (cI, 6, .inl (fun j => nI (ce j))))] sz) (va_A [(q 0, .inr (6, (mF q th F nt ab be))), (q 4, .inl (cI, 6, .inl (fun j => nI (rm j)))), (q 5, .inl (cI, 6, .inl (fun j => nI (sd j)))), (q 6, .inl (cI, 6, .inl (fun j => nI (dr j)))), (q 7, .inl (cI, 6, .inl (fun j => nI (pe j)))), (q 8, .inl (cI, 6, .inl (fun j => nI (ce j))))] sz)) 0 0 (va_A [(q 0, .inr (6, (mF q th F nt ab be))), (q 4, .inl (cI, 6, .inl (fun j => nI (rm j)))), (q 5, .inl (cI, 6, .inl (fun j => nI (sd j)))), (q 6, .inl (cI, 6, .inl (fun j => nI (dr j)))), (q 7, .inl (cI, 6, .inl (fun j => nI (pe j)))), (q 8, .inl (cI, 6, .inl (fun j => nI (ce j))))] sz) := by
  refine Met.ofW (cc := b_M_type) (maxL := 7) (ret := (some .int)) (by decide) rfl ?_
  intro p e s m args below meth c s₁ B hml hv
  obtain ⟨rfl, hsz, hC, hP, hD0⟩ := hv
  have hx := B.exec
  have hb := B.bytes
  have hr := B.returns
  have hts : ∀ w ∈ gw, w.before ([.ref (q 0), .int (nI a0), .int (nI a1), .int (nI a2), .int (nI a3), .int (nI a4)] : List Value).toArray s = true := fun w hw => atoms_spec (ws := Cond.code y_M_type b_M_type 7 (some .int) :: gw) B.pre w (List.mem_cons_of_mem _ hw)
  have hown : s.vm.findClass R_M = some m.cls := findClass_of_methodNamed B.named
  have hlocks := B.notSynchronized
  have hK := hC.1
  have hfr : 1 ≤ (headSpec (Cond.code y_M_type b_M_type 7 (some .int) :: gw) ({ frames := 1, cells := 0, slots := 0, locals := 22 } : Room)).room.frames := Nat.le_refl _
  have hlo : 22 ≤ (headSpec (Cond.code y_M_type b_M_type 7 (some .int) :: gw) ({ frames := 1, cells := 0, slots := 0, locals := 22 } : Room)).room.locals := Nat.le_refl _
  have hce : 0 ≤ (headSpec (Cond.code y_M_type b_M_type 7 (some .int) :: gw) ({ frames := 1, cells := 0, slots := 0, locals := 22 } : Room)).room.cells := Nat.zero_le _
  have hsl : 0 ≤ (headSpec (Cond.code y_M_type b_M_type 7 (some .int) :: gw) ({ frames := 1, cells := 0, slots := 0, locals := 22 } : Room)).room.slots := Nat.zero_le _
  subst hsz
  have hD := hD0.self (sz := s.heap.size)
  unfold wB
  generalize hAe : va_A [(q 0, .inr (6, (mF q th F nt ab be))), (q 4, .inl (cI, 6, .inl (fun j => nI (rm j)))), (q 5, .inl (cI, 6, .inl (fun j => nI (sd j)))), (q 6, .inl (cI, 6, .inl (fun j => nI (dr j)))), (q 7, .inl (cI, 6, .inl (fun j => nI (pe j)))), (q 8, .inl (cI, 6, .inl (fun j => nI (ce j))))] s.heap.size = A at hD ⊢
  have hA : ∀ q : Nat, s.heap.size ≤ q → A q := fun q h => by rw [← hAe]; exact Or.inr h
  have hS : va_S A s.heap s.heap [] := va_S.rf
  have hl := lv_entry ([.ref (q 0), .int (nI a0), .int (nI a1), .int (nI a2), .int (nI a3), .int (nI a4)]) (n := 7) (Nat.le_of_ble_eq_true rfl)
  rw [lg_entry_eq]
  generalize (lg_sl ([.ref (q 0), .int (nI a0), .int (nI a1), .int (nI a2), .int (nI a3), .int (nI a4)]) ++ List.replicate (7 - (lg_sl ([.ref (q 0), .int (nI a0), .int (nI a1), .int (nI a2), .int (nI a3), .int (nI a4)])).length) Slot.unset).toArray = ls at hl ⊢
  have hl : lv_has ls 7 [(0, .ref (q 0)), (1, .int (nI a0)), (2, .int (nI a1)), (3, .int (nI a2)), (4, .int (nI a3)), (5, .int (nI a4))] := hl
  refine lv_iload_n hx hb d_M_type_0 rfl (lv_at hl 1 rfl) ?_
  refine lv_iconst (v := nI 1) hx hb d_M_type_1 (by decide) ?_
  refine lv_iconst (v := nI 5) hx hb d_M_type_2 (by decide) ?_
  refine ro_calli (va_runS (As := [.int (nI a0), .int (nI 1), .int (nI 5)]) (rest := []) ⟨hx, hb, hml, hown, hts⟩ (c_M_isInN l a0 1 5 (by omega) (by decide) (by decide)) (cwS 3 hts (gw_S k_539 k_537 k_538 k_6) rfl rfl rfl (by decide +kernel) ⟨Nat.le_trans (Nat.le_of_ble_eq_true rfl) hfr, Nat.le_trans (Nat.le_of_ble_eq_true rfl) hlo⟩) ⟨pr_blind, pr_at hC (fun k q h => by simp at h)⟩ rfl rfl hl.1 rfl (lv_room (Nat.le_of_ble_eq_true rfl)) d_M_type_3 ⟨hce, hsl⟩) (fun r9 h9 => ?_)
  subst h9
  refine nx_b_eq (tgt := 55) hx hb d_M_type_6 (by decide) (fun h0 => ?_) (fun h0 => ?_)
  · exact absurd ha0 h0
  · refine lv_iload_n hx hb d_M_type_9 rfl (lv_at hl 2 rfl) ?_
    refine lv_iconst (v := nI 1) hx hb d_M_type_10 (by decide) ?_
    refine lv_bipush (v := nI 100) hx hb d_M_type_11 (by decide) ?_
    refine ro_calli (va_runS (As := [.int (nI a1), .int (nI 1), .int (nI 100)]) (rest := []) ⟨hx, hb, hml, hown, hts⟩ (c_M_isInN l a1 1 100 (by omega) (by decide) (by decide)) (cwS 3 hts (gw_S k_539 k_537 k_538 k_6) rfl rfl rfl (by decide +kernel) ⟨Nat.le_trans (Nat.le_of_ble_eq_true rfl) hfr, Nat.le_trans (Nat.le_of_ble_eq_true rfl) hlo⟩) ⟨pr_blind, pr_at hC (fun k q h => by simp at h)⟩ rfl rfl hl.1 rfl (lv_room (Nat.le_of_ble_eq_true rfl)) d_M_type_13 ⟨hce, hsl⟩) (fun r9 h9 => ?_)
    subst h9
    refine nx_b_eq (tgt := 55) hx hb d_M_type_16 (by decide) (fun h1 => ?_) (fun h1 => ?_)
    · exact absurd ha1 h1
    · refine lv_iload_n hx hb d_M_type_19 rfl (lv_at hl 3 rfl) ?_
      refine lv_iconst (v := nI 0) hx hb d_M_type_20 (by decide) ?_
      refine lv_bipush (v := nI 30) hx hb d_M_type_21 (by decide) ?_
      refine ro_calli (va_runS (As := [.int (nI a2), .int (nI 0), .int (nI 30)]) (rest := []) ⟨hx, hb, hml, hown, hts⟩ (c_M_isInN l a2 0 30 (by omega) (by decide) (by decide)) (cwS 3 hts (gw_S k_539 k_537 k_538 k_6) rfl rfl rfl (by decide +kernel) ⟨Nat.le_trans (Nat.le_of_ble_eq_true rfl) hfr, Nat.le_trans (Nat.le_of_ble_eq_true rfl) hlo⟩) ⟨pr_blind, pr_at hC (fun k q h => by simp at h)⟩ rfl rfl hl.1 rfl (lv_room (Nat.le_of_ble_eq_true rfl)) d_M_type_23 ⟨hce, hsl⟩) (fun r9 h9 => ?_)
      subst h9
      refine nx_b_eq (tgt := 55) hx hb d_M_type_26 (by decide) (fun h2 => ?_) (fun h2 => ?_)
      · exact absurd ha2 h2
      · refine lv_iload hx hb d_M_type_29 (lv_at hl 4 rfl) ?_
        refine lv_iconst (v := nI 0) hx hb d_M_type_31 (by decide) ?_
        refine lv_bipush (v := nI 10) hx hb d_M_type_32 (by decide) ?_
        refine ro_calli (va_runS (As := [.int (nI a3), .int (nI 0), .int (nI 10)]) (rest := []) ⟨hx, hb, hml, hown, hts⟩ (c_M_isInN l a3 0 10 (by omega) (by decide) (by decide)) (cwS 3 hts (gw_S k_539 k_537 k_538 k_6) rfl rfl rfl (by decide +kernel) ⟨Nat.le_trans (Nat.le_of_ble_eq_true rfl) hfr, Nat.le_trans (Nat.le_of_ble_eq_true rfl) hlo⟩) ⟨pr_blind, pr_at hC (fun k q h => by simp at h)⟩ rfl rfl hl.1 rfl (lv_room (Nat.le_of_ble_eq_true rfl)) d_M_type_34 ⟨hce, hsl⟩) (fun r9 h9 => ?_)
        subst h9
        refine nx_b_eq (tgt := 55) hx hb d_M_type_37 (by decide) (fun h3 => ?_) (fun h3 => ?_)
        · exact absurd ha3 h3
        · refine lv_iload hx hb d_M_type_40 (lv_at hl 5 rfl) ?_
          refine lv_iconst (v := nI 1) hx hb d_M_type_42 (by decide) ?_
          refine lv_ldc (v := nI 100000) hx hb hown (hts _ k_556) d_M_type_43 ?_
          refine ro_calli (va_runS (As := [.int (nI a4), .int (nI 1), .int (nI 100000)]) (rest := []) ⟨hx, hb, hml, hown, hts⟩ (c_M_isInN l a4 1 100000 (by omega) (by decide) (by decide)) (cwS 3 hts (gw_S k_539 k_537 k_538 k_6) rfl rfl rfl (by decide +kernel) ⟨Nat.le_trans (Nat.le_of_ble_eq_true rfl) hfr, Nat.le_trans (Nat.le_of_ble_eq_true rfl) hlo⟩) ⟨pr_blind, pr_at hC (fun k q h => by simp at h)⟩ rfl rfl hl.1 rfl (lv_room (Nat.le_of_ble_eq_true rfl)) d_M_type_45 ⟨hce, hsl⟩) (fun r9 h9 => ?_)
          subst h9
          refine nx_b_eq (tgt := 55) hx hb d_M_type_48 (by decide) (fun h4 => ?_) (fun h4 => ?_)
          · exact absurd ha4 h4
          · refine lv_iconst (v := nI 1) hx hb d_M_type_51 (by decide) ?_
            refine lv_goto (tgt := 56) hx hb d_M_type_52 (by decide) ?_
            refine lv_istore (lv' := [(6, .int (nI 1)), (0, .ref (q 0)), (1, .int (nI a0)), (2, .int (nI a1)), (3, .int (nI a2)), (4, .int (nI a3)), (5, .int (nI a4))]) hx hb d_M_type_56 hl (by decide) rfl (fun ls hl => ?_)
            refine lv_aload_n hx hb d_M_type_58 rfl (lv_at hl 1 rfl) ?_
            refine lv_iload hx hb d_M_type_59 (lv_at hl 0 rfl) ?_
            refine nx_if_ne (tgt := 68) hx hb d_M_type_61 (by decide) (by omega) (fun h8 => ?_) (fun h8 => ?_)
            · refine lv_aload_n hx hb d_M_type_68 rfl (lv_at hl 1 rfl) ?_
              refine va_get (D := (dC, dI)) (ci := 6) (v := .int (nI nt)) (C := R_M) (T := F_M) (N := 17) hx hb hts i_M hown hK hP 0 rfl rfl 9 (by decide) (hts _ k_486) (fun _ h9 => h9) rfl d_M_type_69 ?_
              refine lv_bipush (v := nI 6) hx hb d_M_type_72 (by decide) ?_
              refine nx_icmp_ne (tgt := 81) hx hb d_M_type_74 (by decide) (by omega) (by omega) (fun h7 => ?_) (fun h7 => ?_)
              · exact absurd hbad h7
              · refine lv_iconst (v := nI 2) hx hb d_M_type_77 (by decide) ?_
                refine lv_goto (tgt := 82) hx hb d_M_type_78 (by decide) ?_
                refine va_put (D := (dC, dI)) (ci := 6) (v := .int (nI 2)) (ty := (.int)) (C := R_M) (T := F_M) (N := 17) hx hb hts i_M ft_M ft_M_ok n_M hown hK hP hD hS 0 rfl rfl 0 (by decide) (hts _ k_477) (fun _ h9 => h9) rfl (by decide +kernel) rfl rfl (Nat.le_of_ble_eq_true rfl) d_M_type_82 (fun H locs hP hD hS => ?_)
                have hP : va_P (dC, dI) vwCl [(q 0, .inr (6, (mF q (nI 2) F nt ab be))), (q 4, .inl (cI, 6, .inl (fun j => nI (rm j)))), (q 5, .inl (cI, 6, .inl (fun j => nI (sd j)))), (q 6, .inl (cI, 6, .inl (fun j => nI (dr j)))), (q 7, .inl (cI, 6, .inl (fun j => nI (pe j)))), (q 8, .inl (cI, 6, .inl (fun j => nI (ce j))))] H := hP
                have hD : va_D A [(q 0, .inr (6, (mF q (nI 2) F nt ab be))), (q 4, .inl (cI, 6, .inl (fun j => nI (rm j)))), (q 5, .inl (cI, 6, .inl (fun j => nI (sd j)))), (q 6, .inl (cI, 6, .inl (fun j => nI (dr j)))), (q 7, .inl (cI, 6, .inl (fun j => nI (pe j)))), (q 8, .inl (cI, 6, .inl (fun j => nI (ce j))))] := hD
                refine lv_aload_n hx hb d_M_type_85 rfl (lv_at hl 1 rfl) ?_
                refine va_get (D := (dC, dI)) (ci := 6) (v := .int (nI 2)) (C := R_M) (T := F_M) (N := 17) hx hb hts i_M hown hK hP 0 rfl rfl 0 (by decide) (hts _ k_477) (fun _ h9 => h9) rfl d_M_type_86 ?_
                refine nx_if_le (tgt := 94) hx hb d_M_type_89 (by decide) (by omega) (fun h9 => ?_) (fun h9 => ?_)
                · exact absurd h9 (by omega)
                · refine lv_iconst (v := nI 0) hx hb d_M_type_92 (by decide) ?_
                  exact W.iret hx hb hr (fun t ht hW => ⟨⟨_, (), rfl, rfl, by rw [ht]; exact hP, hD⟩, hS.F ht⟩) hS.2.2 d_M_type_93
            · exact absurd h8 (by omega)
set_option maxHeartbeats 4000000 in
set_option maxRecDepth 100000 in
theorem c_M_type (l : Launch) {dC : Nat → ClassId} {dI : Nat → Nat → Nat} {cI cL cT : ClassId} {sa : Nat → Nat} (sz : Nat) (q : Nat → Nat) (th : Int32) (F nt : Nat) (ab be : Int64) (rm sd dr pe ce : Nat → Nat) (a0 a1 a2 a3 a4 : Nat) (ha0 : 1 ≤ a0 ∧ a0 ≤ 5) (ha1 : 1 ≤ a1 ∧ a1 ≤ 100) (ha2 : 0 ≤ a2 ∧ a2 ≤ 30) (ha3 : 0 ≤ a3 ∧ a3 ≤ 10) (ha4 : 1 ≤ a4 ∧ a4 ≤ 100000) (hn6 : nt ≤ 6) (hgood : nt < 6) : Met l y_M_type (Cond.code y_M_type b_M_type 7 (some .int) :: gw) ({ frames := 1, cells := 0, slots := 0, locals := 22 } : Room) (wr dC dI cI cL cT sa [.ref (q 0), .int (nI a0), .int (nI a1), .int (nI a2), .int (nI a3), .int (nI a4)] [(q 0, .inr (6, (mF q th F nt ab be))), (q 4, .inl (cI, 6, .inl (fun j => nI (rm j)))), (q 5, .inl (cI, 6, .inl (fun j => nI (sd j)))), (q 6, .inl (cI, 6, .inl (fun j => nI (dr j)))), (q 7, .inl (cI, 6, .inl (fun j => nI (pe j)))), (q 8, .inl (cI, 6, .inl (fun j => nI (ce j))))] sz) (va_Qi (fun r (_ : Unit) => r = nI nt) (wB dC dI [(q 0, .inr (6, (mF q th F nt ab be))), (q 4, .inl (cI, 6, .inl (fun j => nI (rm j)))), (q 5, .inl (cI, 6, .inl (fun j => nI (sd j)))), (q 6, .inl (cI, 6, .inl (fun j => nI (dr j)))), (q 7, .inl (cI, 6, .inl (fun j => nI (pe j)))), (q 8, .inl (cI, 6, .inl (fun j => nI (ce j))))] [(q 0, .inr (6, (mF q (nI 0) F (nt + 1) ab be))), (q 4, .inl (cI, 6, .inl (fun j => nI ((up rm nt a0) j)))), (q 5, .inl (cI, 6, .inl (fun j => nI ((up sd nt a1) j)))), (q 6, .inl (cI, 6, .inl (fun j => nI ((up dr nt a2) j)))), (q 7, .inl (cI, 6, .inl (fun j => nI ((up pe nt a3) j)))), (q 8, .inl (cI, 6, .inl (fun j => nI ((up ce nt a4) j))))] sz) (va_A [(q 0, .inr (6, (mF q th F nt ab be))), (q 4, .inl (cI, 6, .inl (fun j => nI (rm j)))), (q 5, .inl (cI, 6, .inl (fun j => nI (sd j)))), (q 6, .inl (cI, 6, .inl (fun j => nI (dr j)))), (q 7, .inl (cI, 6, .inl (fun j => nI (pe j)))), (q 8, .inl (cI, 6, .inl (fun j => nI (ce j))))] sz)) 0 0 (va_A [(q 0, .inr (6, (mF q th F nt ab be))), (q 4, .inl (cI, 6, .inl (fun j => nI (rm j)))), (q 5, .inl (cI, 6, .inl (fun j => nI (sd j)))), (q 6, .inl (cI, 6, .inl (fun j => nI (dr j)))), (q 7, .inl (cI, 6, .inl (fun j => nI (pe j)))), (q 8, .inl (cI, 6, .inl (fun j => nI (ce j))))] sz) := by
  refine Met.ofW (cc := b_M_type) (maxL := 7) (ret := (some .int)) (by decide) rfl ?_
  intro p e s m args below meth c s₁ B hml hv
  obtain ⟨rfl, hsz, hC, hP, hD0⟩ := hv
  have hx := B.exec
  have hb := B.bytes
  have hr := B.returns
  have hts : ∀ w ∈ gw, w.before ([.ref (q 0), .int (nI a0), .int (nI a1), .int (nI a2), .int (nI a3), .int (nI a4)] : List Value).toArray s = true := fun w hw => atoms_spec (ws := Cond.code y_M_type b_M_type 7 (some .int) :: gw) B.pre w (List.mem_cons_of_mem _ hw)
  have hown : s.vm.findClass R_M = some m.cls := findClass_of_methodNamed B.named
  have hlocks := B.notSynchronized
  have hK := hC.1
  have hfr : 1 ≤ (headSpec (Cond.code y_M_type b_M_type 7 (some .int) :: gw) ({ frames := 1, cells := 0, slots := 0, locals := 22 } : Room)).room.frames := Nat.le_refl _
  have hlo : 22 ≤ (headSpec (Cond.code y_M_type b_M_type 7 (some .int) :: gw) ({ frames := 1, cells := 0, slots := 0, locals := 22 } : Room)).room.locals := Nat.le_refl _
  have hce : 0 ≤ (headSpec (Cond.code y_M_type b_M_type 7 (some .int) :: gw) ({ frames := 1, cells := 0, slots := 0, locals := 22 } : Room)).room.cells := Nat.zero_le _
  have hsl : 0 ≤ (headSpec (Cond.code y_M_type b_M_type 7 (some .int) :: gw) ({ frames := 1, cells := 0, slots := 0, locals := 22 } : Room)).room.slots := Nat.zero_le _
  subst hsz
  have hD := hD0.self (sz := s.heap.size)
  unfold wB
  generalize hAe : va_A [(q 0, .inr (6, (mF q th F nt ab be))), (q 4, .inl (cI, 6, .inl (fun j => nI (rm j)))), (q 5, .inl (cI, 6, .inl (fun j => nI (sd j)))), (q 6, .inl (cI, 6, .inl (fun j => nI (dr j)))), (q 7, .inl (cI, 6, .inl (fun j => nI (pe j)))), (q 8, .inl (cI, 6, .inl (fun j => nI (ce j))))] s.heap.size = A at hD ⊢
  have hA : ∀ q : Nat, s.heap.size ≤ q → A q := fun q h => by rw [← hAe]; exact Or.inr h
  have hS : va_S A s.heap s.heap [] := va_S.rf
  have hl := lv_entry ([.ref (q 0), .int (nI a0), .int (nI a1), .int (nI a2), .int (nI a3), .int (nI a4)]) (n := 7) (Nat.le_of_ble_eq_true rfl)
  rw [lg_entry_eq]
  generalize (lg_sl ([.ref (q 0), .int (nI a0), .int (nI a1), .int (nI a2), .int (nI a3), .int (nI a4)]) ++ List.replicate (7 - (lg_sl ([.ref (q 0), .int (nI a0), .int (nI a1), .int (nI a2), .int (nI a3), .int (nI a4)])).length) Slot.unset).toArray = ls at hl ⊢
  have hl : lv_has ls 7 [(0, .ref (q 0)), (1, .int (nI a0)), (2, .int (nI a1)), (3, .int (nI a2)), (4, .int (nI a3)), (5, .int (nI a4))] := hl
  refine lv_iload_n hx hb d_M_type_0 rfl (lv_at hl 1 rfl) ?_
  refine lv_iconst (v := nI 1) hx hb d_M_type_1 (by decide) ?_
  refine lv_iconst (v := nI 5) hx hb d_M_type_2 (by decide) ?_
  refine ro_calli (va_runS (As := [.int (nI a0), .int (nI 1), .int (nI 5)]) (rest := []) ⟨hx, hb, hml, hown, hts⟩ (c_M_isInN l a0 1 5 (by omega) (by decide) (by decide)) (cwS 3 hts (gw_S k_539 k_537 k_538 k_6) rfl rfl rfl (by decide +kernel) ⟨Nat.le_trans (Nat.le_of_ble_eq_true rfl) hfr, Nat.le_trans (Nat.le_of_ble_eq_true rfl) hlo⟩) ⟨pr_blind, pr_at hC (fun k q h => by simp at h)⟩ rfl rfl hl.1 rfl (lv_room (Nat.le_of_ble_eq_true rfl)) d_M_type_3 ⟨hce, hsl⟩) (fun r9 h9 => ?_)
  subst h9
  refine nx_b_eq (tgt := 55) hx hb d_M_type_6 (by decide) (fun h0 => ?_) (fun h0 => ?_)
  · exact absurd ha0 h0
  · refine lv_iload_n hx hb d_M_type_9 rfl (lv_at hl 2 rfl) ?_
    refine lv_iconst (v := nI 1) hx hb d_M_type_10 (by decide) ?_
    refine lv_bipush (v := nI 100) hx hb d_M_type_11 (by decide) ?_
    refine ro_calli (va_runS (As := [.int (nI a1), .int (nI 1), .int (nI 100)]) (rest := []) ⟨hx, hb, hml, hown, hts⟩ (c_M_isInN l a1 1 100 (by omega) (by decide) (by decide)) (cwS 3 hts (gw_S k_539 k_537 k_538 k_6) rfl rfl rfl (by decide +kernel) ⟨Nat.le_trans (Nat.le_of_ble_eq_true rfl) hfr, Nat.le_trans (Nat.le_of_ble_eq_true rfl) hlo⟩) ⟨pr_blind, pr_at hC (fun k q h => by simp at h)⟩ rfl rfl hl.1 rfl (lv_room (Nat.le_of_ble_eq_true rfl)) d_M_type_13 ⟨hce, hsl⟩) (fun r9 h9 => ?_)
    subst h9
    refine nx_b_eq (tgt := 55) hx hb d_M_type_16 (by decide) (fun h1 => ?_) (fun h1 => ?_)
    · exact absurd ha1 h1
    · refine lv_iload_n hx hb d_M_type_19 rfl (lv_at hl 3 rfl) ?_
      refine lv_iconst (v := nI 0) hx hb d_M_type_20 (by decide) ?_
      refine lv_bipush (v := nI 30) hx hb d_M_type_21 (by decide) ?_
      refine ro_calli (va_runS (As := [.int (nI a2), .int (nI 0), .int (nI 30)]) (rest := []) ⟨hx, hb, hml, hown, hts⟩ (c_M_isInN l a2 0 30 (by omega) (by decide) (by decide)) (cwS 3 hts (gw_S k_539 k_537 k_538 k_6) rfl rfl rfl (by decide +kernel) ⟨Nat.le_trans (Nat.le_of_ble_eq_true rfl) hfr, Nat.le_trans (Nat.le_of_ble_eq_true rfl) hlo⟩) ⟨pr_blind, pr_at hC (fun k q h => by simp at h)⟩ rfl rfl hl.1 rfl (lv_room (Nat.le_of_ble_eq_true rfl)) d_M_type_23 ⟨hce, hsl⟩) (fun r9 h9 => ?_)
      subst h9
      refine nx_b_eq (tgt := 55) hx hb d_M_type_26 (by decide) (fun h2 => ?_) (fun h2 => ?_)
      · exact absurd ha2 h2
      · refine lv_iload hx hb d_M_type_29 (lv_at hl 4 rfl) ?_
        refine lv_iconst (v := nI 0) hx hb d_M_type_31 (by decide) ?_
        refine lv_bipush (v := nI 10) hx hb d_M_type_32 (by decide) ?_
        refine ro_calli (va_runS (As := [.int (nI a3), .int (nI 0), .int (nI 10)]) (rest := []) ⟨hx, hb, hml, hown, hts⟩ (c_M_isInN l a3 0 10 (by omega) (by decide) (by decide)) (cwS 3 hts (gw_S k_539 k_537 k_538 k_6) rfl rfl rfl (by decide +kernel) ⟨Nat.le_trans (Nat.le_of_ble_eq_true rfl) hfr, Nat.le_trans (Nat.le_of_ble_eq_true rfl) hlo⟩) ⟨pr_blind, pr_at hC (fun k q h => by simp at h)⟩ rfl rfl hl.1 rfl (lv_room (Nat.le_of_ble_eq_true rfl)) d_M_type_34 ⟨hce, hsl⟩) (fun r9 h9 => ?_)
        subst h9
        refine nx_b_eq (tgt := 55) hx hb d_M_type_37 (by decide) (fun h3 => ?_) (fun h3 => ?_)
        · exact absurd ha3 h3
        · refine lv_iload hx hb d_M_type_40 (lv_at hl 5 rfl) ?_
          refine lv_iconst (v := nI 1) hx hb d_M_type_42 (by decide) ?_
          refine lv_ldc (v := nI 100000) hx hb hown (hts _ k_556) d_M_type_43 ?_
          refine ro_calli (va_runS (As := [.int (nI a4), .int (nI 1), .int (nI 100000)]) (rest := []) ⟨hx, hb, hml, hown, hts⟩ (c_M_isInN l a4 1 100000 (by omega) (by decide) (by decide)) (cwS 3 hts (gw_S k_539 k_537 k_538 k_6) rfl rfl rfl (by decide +kernel) ⟨Nat.le_trans (Nat.le_of_ble_eq_true rfl) hfr, Nat.le_trans (Nat.le_of_ble_eq_true rfl) hlo⟩) ⟨pr_blind, pr_at hC (fun k q h => by simp at h)⟩ rfl rfl hl.1 rfl (lv_room (Nat.le_of_ble_eq_true rfl)) d_M_type_45 ⟨hce, hsl⟩) (fun r9 h9 => ?_)
          subst h9
          refine nx_b_eq (tgt := 55) hx hb d_M_type_48 (by decide) (fun h4 => ?_) (fun h4 => ?_)
          · exact absurd ha4 h4
          · refine lv_iconst (v := nI 1) hx hb d_M_type_51 (by decide) ?_
            refine lv_goto (tgt := 56) hx hb d_M_type_52 (by decide) ?_
            refine lv_istore (lv' := [(6, .int (nI 1)), (0, .ref (q 0)), (1, .int (nI a0)), (2, .int (nI a1)), (3, .int (nI a2)), (4, .int (nI a3)), (5, .int (nI a4))]) hx hb d_M_type_56 hl (by decide) rfl (fun ls hl => ?_)
            refine lv_aload_n hx hb d_M_type_58 rfl (lv_at hl 1 rfl) ?_
            refine lv_iload hx hb d_M_type_59 (lv_at hl 0 rfl) ?_
            refine nx_if_ne (tgt := 68) hx hb d_M_type_61 (by decide) (by omega) (fun h8 => ?_) (fun h8 => ?_)
            · refine lv_aload_n hx hb d_M_type_68 rfl (lv_at hl 1 rfl) ?_
              refine va_get (D := (dC, dI)) (ci := 6) (v := .int (nI nt)) (C := R_M) (T := F_M) (N := 17) hx hb hts i_M hown hK hP 0 rfl rfl 9 (by decide) (hts _ k_486) (fun _ h9 => h9) rfl d_M_type_69 ?_
              refine lv_bipush (v := nI 6) hx hb d_M_type_72 (by decide) ?_
              refine nx_icmp_ne (tgt := 81) hx hb d_M_type_74 (by decide) (by omega) (by omega) (fun h7 => ?_) (fun h7 => ?_)
              · refine lv_iconst (v := nI 0) hx hb d_M_type_81 (by decide) ?_
                refine va_put (D := (dC, dI)) (ci := 6) (v := .int (nI 0)) (ty := (.int)) (C := R_M) (T := F_M) (N := 17) hx hb hts i_M ft_M ft_M_ok n_M hown hK hP hD hS 0 rfl rfl 0 (by decide) (hts _ k_477) (fun _ h9 => h9) rfl (by decide +kernel) rfl rfl (Nat.le_of_ble_eq_true rfl) d_M_type_82 (fun H locs hP hD hS => ?_)
                have hP : va_P (dC, dI) vwCl [(q 0, .inr (6, (mF q (nI 0) F nt ab be))), (q 4, .inl (cI, 6, .inl (fun j => nI (rm j)))), (q 5, .inl (cI, 6, .inl (fun j => nI (sd j)))), (q 6, .inl (cI, 6, .inl (fun j => nI (dr j)))), (q 7, .inl (cI, 6, .inl (fun j => nI (pe j)))), (q 8, .inl (cI, 6, .inl (fun j => nI (ce j))))] H := hP
                have hD : va_D A [(q 0, .inr (6, (mF q (nI 0) F nt ab be))), (q 4, .inl (cI, 6, .inl (fun j => nI (rm j)))), (q 5, .inl (cI, 6, .inl (fun j => nI (sd j)))), (q 6, .inl (cI, 6, .inl (fun j => nI (dr j)))), (q 7, .inl (cI, 6, .inl (fun j => nI (pe j)))), (q 8, .inl (cI, 6, .inl (fun j => nI (ce j))))] := hD
                refine lv_aload_n hx hb d_M_type_85 rfl (lv_at hl 1 rfl) ?_
                refine va_get (D := (dC, dI)) (ci := 6) (v := .int (nI 0)) (C := R_M) (T := F_M) (N := 17) hx hb hts i_M hown hK hP 0 rfl rfl 0 (by decide) (hts _ k_477) (fun _ h9 => h9) rfl d_M_type_86 ?_
                refine nx_if_le (tgt := 94) hx hb d_M_type_89 (by decide) (by omega) (fun h9 => ?_) (fun h9 => ?_)
                · refine lv_aload_n hx hb d_M_type_94 rfl (lv_at hl 1 rfl) ?_
                  refine va_get (D := (dC, dI)) (ci := 6) (v := .ref (q 4)) (C := R_M) (T := F_M) (N := 17) hx hb hts i_M hown hK hP 0 rfl rfl 4 (by decide) (hts _ k_481) (fun _ h9 => h9) rfl d_M_type_95 ?_
                  refine lv_aload_n hx hb d_M_type_98 rfl (lv_at hl 1 rfl) ?_
                  refine va_get (D := (dC, dI)) (ci := 6) (v := .int (nI nt)) (C := R_M) (T := F_M) (N := 17) hx hb hts i_M hown hK hP 0 rfl rfl 9 (by decide) (hts _ k_486) (fun _ h9 => h9) rfl d_M_type_99 ?_
                  refine lv_iload_n hx hb d_M_type_102 rfl (lv_at hl 2 rfl) ?_
                  refine nx_iast hx hb hK hP hD hS 1 0 rfl rfl (k := nt) (x := nI a0) (by omega) (by decide) d_M_type_103 (fun H locs hP hD hS => ?_)
                  have hP : va_P (dC, dI) vwCl [(q 0, .inr (6, (mF q (nI 0) F nt ab be))), (q 4, .inl (cI, 6, .inl (upd (fun j => nI (rm j)) (nt) (nI a0)))), (q 5, .inl (cI, 6, .inl (fun j => nI (sd j)))), (q 6, .inl (cI, 6, .inl (fun j => nI (dr j)))), (q 7, .inl (cI, 6, .inl (fun j => nI (pe j)))), (q 8, .inl (cI, 6, .inl (fun j => nI (ce j))))] H := hP
                  have hD : va_D A [(q 0, .inr (6, (mF q (nI 0) F nt ab be))), (q 4, .inl (cI, 6, .inl (upd (fun j => nI (rm j)) (nt) (nI a0)))), (q 5, .inl (cI, 6, .inl (fun j => nI (sd j)))), (q 6, .inl (cI, 6, .inl (fun j => nI (dr j)))), (q 7, .inl (cI, 6, .inl (fun j => nI (pe j)))), (q 8, .inl (cI, 6, .inl (fun j => nI (ce j))))] := hD
                  rw [up_eq] at hP hD
                  refine lv_aload_n hx hb d_M_type_104 rfl (lv_at hl 1 rfl) ?_
                  refine va_get (D := (dC, dI)) (ci := 6) (v := .ref (q 5)) (C := R_M) (T := F_M) (N := 17) hx hb hts i_M hown hK hP 0 rfl rfl 5 (by decide) (hts _ k_482) (fun _ h9 => h9) rfl d_M_type_105 ?_
                  refine lv_aload_n hx hb d_M_type_108 rfl (lv_at hl 1 rfl) ?_
                  refine va_get (D := (dC, dI)) (ci := 6) (v := .int (nI nt)) (C := R_M) (T := F_M) (N := 17) hx hb hts i_M hown hK hP 0 rfl rfl 9 (by decide) (hts _ k_486) (fun _ h9 => h9) rfl d_M_type_109 ?_
                  refine lv_iload_n hx hb d_M_type_112 rfl (lv_at hl 3 rfl) ?_
                  refine nx_iast hx hb hK hP hD hS 2 0 rfl rfl (k := nt) (x := nI a1) (by omega) (by decide) d_M_type_113 (fun H locs hP hD hS => ?_)
                  have hP : va_P (dC, dI) vwCl [(q 0, .inr (6, (mF q (nI 0) F nt ab be))), (q 4, .inl (cI, 6, .inl (fun j => nI ((up rm nt a0) j)))), (q 5, .inl (cI, 6, .inl (upd (fun j => nI (sd j)) (nt) (nI a1)))), (q 6, .inl (cI, 6, .inl (fun j => nI (dr j)))), (q 7, .inl (cI, 6, .inl (fun j => nI (pe j)))), (q 8, .inl (cI, 6, .inl (fun j => nI (ce j))))] H := hP
                  have hD : va_D A [(q 0, .inr (6, (mF q (nI 0) F nt ab be))), (q 4, .inl (cI, 6, .inl (fun j => nI ((up rm nt a0) j)))), (q 5, .inl (cI, 6, .inl (upd (fun j => nI (sd j)) (nt) (nI a1)))), (q 6, .inl (cI, 6, .inl (fun j => nI (dr j)))), (q 7, .inl (cI, 6, .inl (fun j => nI (pe j)))), (q 8, .inl (cI, 6, .inl (fun j => nI (ce j))))] := hD
                  rw [up_eq] at hP hD
                  refine lv_aload_n hx hb d_M_type_114 rfl (lv_at hl 1 rfl) ?_
                  refine va_get (D := (dC, dI)) (ci := 6) (v := .ref (q 6)) (C := R_M) (T := F_M) (N := 17) hx hb hts i_M hown hK hP 0 rfl rfl 6 (by decide) (hts _ k_483) (fun _ h9 => h9) rfl d_M_type_115 ?_
                  refine lv_aload_n hx hb d_M_type_118 rfl (lv_at hl 1 rfl) ?_
                  refine va_get (D := (dC, dI)) (ci := 6) (v := .int (nI nt)) (C := R_M) (T := F_M) (N := 17) hx hb hts i_M hown hK hP 0 rfl rfl 9 (by decide) (hts _ k_486) (fun _ h9 => h9) rfl d_M_type_119 ?_
                  refine lv_iload_n hx hb d_M_type_122 rfl (lv_at hl 4 rfl) ?_
                  refine nx_iast hx hb hK hP hD hS 3 0 rfl rfl (k := nt) (x := nI a2) (by omega) (by decide) d_M_type_123 (fun H locs hP hD hS => ?_)
                  have hP : va_P (dC, dI) vwCl [(q 0, .inr (6, (mF q (nI 0) F nt ab be))), (q 4, .inl (cI, 6, .inl (fun j => nI ((up rm nt a0) j)))), (q 5, .inl (cI, 6, .inl (fun j => nI ((up sd nt a1) j)))), (q 6, .inl (cI, 6, .inl (upd (fun j => nI (dr j)) (nt) (nI a2)))), (q 7, .inl (cI, 6, .inl (fun j => nI (pe j)))), (q 8, .inl (cI, 6, .inl (fun j => nI (ce j))))] H := hP
                  have hD : va_D A [(q 0, .inr (6, (mF q (nI 0) F nt ab be))), (q 4, .inl (cI, 6, .inl (fun j => nI ((up rm nt a0) j)))), (q 5, .inl (cI, 6, .inl (fun j => nI ((up sd nt a1) j)))), (q 6, .inl (cI, 6, .inl (upd (fun j => nI (dr j)) (nt) (nI a2)))), (q 7, .inl (cI, 6, .inl (fun j => nI (pe j)))), (q 8, .inl (cI, 6, .inl (fun j => nI (ce j))))] := hD
                  rw [up_eq] at hP hD
                  refine lv_aload_n hx hb d_M_type_124 rfl (lv_at hl 1 rfl) ?_
                  refine va_get (D := (dC, dI)) (ci := 6) (v := .ref (q 7)) (C := R_M) (T := F_M) (N := 17) hx hb hts i_M hown hK hP 0 rfl rfl 7 (by decide) (hts _ k_484) (fun _ h9 => h9) rfl d_M_type_125 ?_
                  refine lv_aload_n hx hb d_M_type_128 rfl (lv_at hl 1 rfl) ?_
                  refine va_get (D := (dC, dI)) (ci := 6) (v := .int (nI nt)) (C := R_M) (T := F_M) (N := 17) hx hb hts i_M hown hK hP 0 rfl rfl 9 (by decide) (hts _ k_486) (fun _ h9 => h9) rfl d_M_type_129 ?_
                  refine lv_iload hx hb d_M_type_132 (lv_at hl 5 rfl) ?_
                  refine nx_iast hx hb hK hP hD hS 4 0 rfl rfl (k := nt) (x := nI a3) (by omega) (by decide) d_M_type_134 (fun H locs hP hD hS => ?_)
                  have hP : va_P (dC, dI) vwCl [(q 0, .inr (6, (mF q (nI 0) F nt ab be))), (q 4, .inl (cI, 6, .inl (fun j => nI ((up rm nt a0) j)))), (q 5, .inl (cI, 6, .inl (fun j => nI ((up sd nt a1) j)))), (q 6, .inl (cI, 6, .inl (fun j => nI ((up dr nt a2) j)))), (q 7, .inl (cI, 6, .inl (upd (fun j => nI (pe j)) (nt) (nI a3)))), (q 8, .inl (cI, 6, .inl (fun j => nI (ce j))))] H := hP
                  have hD : va_D A [(q 0, .inr (6, (mF q (nI 0) F nt ab be))), (q 4, .inl (cI, 6, .inl (fun j => nI ((up rm nt a0) j)))), (q 5, .inl (cI, 6, .inl (fun j => nI ((up sd nt a1) j)))), (q 6, .inl (cI, 6, .inl (fun j => nI ((up dr nt a2) j)))), (q 7, .inl (cI, 6, .inl (upd (fun j => nI (pe j)) (nt) (nI a3)))), (q 8, .inl (cI, 6, .inl (fun j => nI (ce j))))] := hD
                  rw [up_eq] at hP hD
                  refine lv_aload_n hx hb d_M_type_135 rfl (lv_at hl 1 rfl) ?_
                  refine va_get (D := (dC, dI)) (ci := 6) (v := .ref (q 8)) (C := R_M) (T := F_M) (N := 17) hx hb hts i_M hown hK hP 0 rfl rfl 8 (by decide) (hts _ k_485) (fun _ h9 => h9) rfl d_M_type_136 ?_
                  refine lv_aload_n hx hb d_M_type_139 rfl (lv_at hl 1 rfl) ?_
                  refine va_get (D := (dC, dI)) (ci := 6) (v := .int (nI nt)) (C := R_M) (T := F_M) (N := 17) hx hb hts i_M hown hK hP 0 rfl rfl 9 (by decide) (hts _ k_486) (fun _ h9 => h9) rfl d_M_type_140 ?_
                  refine lv_iload hx hb d_M_type_143 (lv_at hl 6 rfl) ?_
                  refine nx_iast hx hb hK hP hD hS 5 0 rfl rfl (k := nt) (x := nI a4) (by omega) (by decide) d_M_type_145 (fun H locs hP hD hS => ?_)
                  have hP : va_P (dC, dI) vwCl [(q 0, .inr (6, (mF q (nI 0) F nt ab be))), (q 4, .inl (cI, 6, .inl (fun j => nI ((up rm nt a0) j)))), (q 5, .inl (cI, 6, .inl (fun j => nI ((up sd nt a1) j)))), (q 6, .inl (cI, 6, .inl (fun j => nI ((up dr nt a2) j)))), (q 7, .inl (cI, 6, .inl (fun j => nI ((up pe nt a3) j)))), (q 8, .inl (cI, 6, .inl (upd (fun j => nI (ce j)) (nt) (nI a4))))] H := hP
                  have hD : va_D A [(q 0, .inr (6, (mF q (nI 0) F nt ab be))), (q 4, .inl (cI, 6, .inl (fun j => nI ((up rm nt a0) j)))), (q 5, .inl (cI, 6, .inl (fun j => nI ((up sd nt a1) j)))), (q 6, .inl (cI, 6, .inl (fun j => nI ((up dr nt a2) j)))), (q 7, .inl (cI, 6, .inl (fun j => nI ((up pe nt a3) j)))), (q 8, .inl (cI, 6, .inl (upd (fun j => nI (ce j)) (nt) (nI a4))))] := hD
                  rw [up_eq] at hP hD
                  refine lv_aload_n hx hb d_M_type_146 rfl (lv_at hl 1 rfl) ?_
                  refine lv_dup hx hb d_M_type_147 rfl ?_
                  refine va_get (D := (dC, dI)) (ci := 6) (v := .int (nI nt)) (C := R_M) (T := F_M) (N := 17) hx hb hts i_M hown hK hP 0 rfl rfl 9 (by decide) (hts _ k_486) (fun _ h9 => h9) rfl d_M_type_148 ?_
                  refine lv_iconst (v := nI 1) hx hb d_M_type_151 (by decide) ?_
                  refine nx_iadd hx hb d_M_type_152 ?_
                  refine va_put (D := (dC, dI)) (ci := 6) (v := .int (nI (nt + 1))) (ty := (.int)) (C := R_M) (T := F_M) (N := 17) hx hb hts i_M ft_M ft_M_ok n_M hown hK hP hD hS 0 rfl rfl 9 (by decide) (hts _ k_486) (fun _ h9 => h9) rfl (by decide +kernel) rfl rfl (Nat.le_of_ble_eq_true rfl) d_M_type_153 (fun H locs hP hD hS => ?_)
                  have hP : va_P (dC, dI) vwCl [(q 0, .inr (6, (mF q (nI 0) F (nt + 1) ab be))), (q 4, .inl (cI, 6, .inl (fun j => nI ((up rm nt a0) j)))), (q 5, .inl (cI, 6, .inl (fun j => nI ((up sd nt a1) j)))), (q 6, .inl (cI, 6, .inl (fun j => nI ((up dr nt a2) j)))), (q 7, .inl (cI, 6, .inl (fun j => nI ((up pe nt a3) j)))), (q 8, .inl (cI, 6, .inl (fun j => nI ((up ce nt a4) j))))] H := hP
                  have hD : va_D A [(q 0, .inr (6, (mF q (nI 0) F (nt + 1) ab be))), (q 4, .inl (cI, 6, .inl (fun j => nI ((up rm nt a0) j)))), (q 5, .inl (cI, 6, .inl (fun j => nI ((up sd nt a1) j)))), (q 6, .inl (cI, 6, .inl (fun j => nI ((up dr nt a2) j)))), (q 7, .inl (cI, 6, .inl (fun j => nI ((up pe nt a3) j)))), (q 8, .inl (cI, 6, .inl (fun j => nI ((up ce nt a4) j))))] := hD
                  refine lv_aload_n hx hb d_M_type_156 rfl (lv_at hl 1 rfl) ?_
                  refine va_get (D := (dC, dI)) (ci := 6) (v := .int (nI (nt + 1))) (C := R_M) (T := F_M) (N := 17) hx hb hts i_M hown hK hP 0 rfl rfl 9 (by decide) (hts _ k_486) (fun _ h9 => h9) rfl d_M_type_157 ?_
                  refine lv_iconst (v := nI 1) hx hb d_M_type_160 (by decide) ?_
                  refine nx_isub hx hb d_M_type_161 (by omega) ?_
                  rw [Nat.add_sub_cancel]
                  exact W.iret hx hb hr (fun t ht hW => ⟨⟨_, (), rfl, rfl, by rw [ht]; exact hP, hD⟩, hS.F ht⟩) hS.2.2 d_M_type_162
                · exact absurd h9 (by omega)
              · exact absurd h7 (by omega)
            · exact absurd h8 (by omega)
