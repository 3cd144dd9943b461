theorem okTy_ex {n : Nat} {v : Int32} (h6 : n ≤ 6) (h : okTy n v) : ∃ k : Nat, k < n ∧ v = nI k := by
  unfold okTy at h
  refine ⟨v.toInt.toNat, by omega, Int32.toInt_inj.mp ?_⟩
  rw [nI_toInt (by omega)]
  omega
theorem okFl_ex {F : Nat} {v : Int32} (h12 : F ≤ 12) (h : okFl F v) : ∃ k : Nat, 1 ≤ k ∧ k ≤ F ∧ v = nI k := by
  unfold okFl at h
  refine ⟨v.toInt.toNat, by omega, by omega, Int32.toInt_inj.mp ?_⟩
  rw [nI_toInt (by omega)]
  omega
theorem in_ex {lo hi : Nat} {v : Int32} (h6 : hi < 2 ^ 31) (h : (lo : Int) ≤ v.toInt ∧ v.toInt ≤ (hi : Int)) : ∃ k : Nat, lo ≤ k ∧ k ≤ hi ∧ v = nI k := by
  refine ⟨v.toInt.toNat, by omega, by omega, Int32.toInt_inj.mp ?_⟩
  rw [nI_toInt (by omega)]
  omega
set_option maxHeartbeats 4000000 in
set_option maxRecDepth 100000 in
theorem c_T_floor_b1 (l : Launch) (hlt : l.stackTraces = false) {dC : Nat → ClassId} {dI : Nat → Nat → Nat} {cI cL cT : ClassId} {sa : Nat → Nat} (g ca : Nat → Nat) (F nt E : Nat) (p0 p1 : Int32) (hF12 : F ≤ 12) (hn6 : nt ≤ 6) (hbad : ¬ ((0 ≤ p0.toInt ∧ p0.toInt ≤ 200) ∧ (10 ≤ p1.toInt ∧ p1.toInt ≤ 100))) : vx_Met l y_T_floor (Cond.code y_T_floor b_T_floor 3 (some .int) :: gw) ({ frames := 9, cells := 1, slots := 6, locals := 190 } : Room) (px dC dI cI cL cT sa [.ref (g 0), .int p0, .int p1] [(g 0, .inr (5, [.ref (g 1), .ref (g 4), .int (nI nt), .ref (g 5), .ref (g 6), .ref (g 11)])), (g 1, .inr (0, [.ref (g 2), .ref (g 3), .int (nI F), .int (nI E)])), (g 4, .inl (cT, 6, .inr (.inr (.inr (.inr (tq ca nt))))))]) xQ (xX E_arg) 1 6 xF := by
  refine vx_ofW (cc := b_T_floor) (maxL := 3) (ret := (some .int)) (by decide) rfl ?_
  intro p e s m args below meth c s₁ B hml hxt hv
  obtain ⟨rfl, hC, hP, hT⟩ := hv
  have hx := B.exec
  have hb := B.bytes
  have hts : ∀ w ∈ gw, w.before ([.ref (g 0), .int p0, .int p1] : List Value).toArray s = true := fun w hw => atoms_spec (ws := Cond.code y_T_floor b_T_floor 3 (some .int) :: gw) B.pre w (List.mem_cons_of_mem _ hw)
  have hown : s.vm.findClass R_T = some m.cls := findClass_of_methodNamed B.named
  have hlocks := B.notSynchronized
  have hK := hC.1
  have hfr : 9 ≤ (headSpec (Cond.code y_T_floor b_T_floor 3 (some .int) :: gw) ({ frames := 9, cells := 1, slots := 6, locals := 190 } : Room)).room.frames := Nat.le_refl _
  have hlo : 190 ≤ (headSpec (Cond.code y_T_floor b_T_floor 3 (some .int) :: gw) ({ frames := 9, cells := 1, slots := 6, locals := 190 } : Room)).room.locals := Nat.le_refl _
  have hce : 0 ≤ (headSpec (Cond.code y_T_floor b_T_floor 3 (some .int) :: gw) ({ frames := 9, cells := 1, slots := 6, locals := 190 } : Room)).room.cells := Nat.zero_le _
  have hsl : 0 ≤ (headSpec (Cond.code y_T_floor b_T_floor 3 (some .int) :: gw) ({ frames := 9, cells := 1, slots := 6, locals := 190 } : Room)).room.slots := Nat.zero_le _
  have hc1 : 1 ≤ (headSpec (Cond.code y_T_floor b_T_floor 3 (some .int) :: gw) ({ frames := 9, cells := 1, slots := 6, locals := 190 } : Room)).room.cells := Nat.le_refl _
  have hs6 : 6 ≤ (headSpec (Cond.code y_T_floor b_T_floor 3 (some .int) :: gw) ({ frames := 9, cells := 1, slots := 6, locals := 190 } : Room)).room.slots := Nat.le_refl _
  have hl := lv_entry ([.ref (g 0), .int p0, .int p1]) (n := 3) (Nat.le_of_ble_eq_true rfl)
  rw [lg_entry_eq]
  generalize (lg_sl ([.ref (g 0), .int p0, .int p1]) ++ List.replicate (3 - (lg_sl ([.ref (g 0), .int p0, .int p1])).length) Slot.unset).toArray = ls at hl ⊢
  have hl : lv_has ls 3 [(0, .ref (g 0)), (1, .int p0), (2, .int p1)] := hl
  refine lv_iload_n hx hb d_T_floor_0 rfl (lv_at hl 1 rfl) ?_
  refine lv_iconst (v := nI 0) hx hb d_T_floor_1 (by decide) ?_
  refine lv_sipush (v := nI 200) hx hb d_T_floor_2 (by decide) ?_
  by_cases a0 : 0 ≤ p0.toInt ∧ p0.toInt ≤ 200
  · refine ro_callv (va_runS (As := [.int p0, .int (nI 0), .int (nI 200)]) (rest := []) ⟨hx, hb, hml, hown, hts⟩ (c_T_requireWithin l p0 (nI 0) (nI 200) 0 200 (nI_toInt (by decide)) (nI_toInt (by decide)) a0) (cwS 3 hts (gw_S k_150 k_148 k_149 k_1) rfl rfl rfl (by decide +kernel) ⟨Nat.le_trans (Nat.le_of_ble_eq_true rfl) hfr, Nat.le_trans (Nat.le_of_ble_eq_true rfl) hlo⟩) ⟨pr_blind, pr_at hC (fun k q h => by simp at h)⟩ rfl rfl hl.1 rfl (lv_room (Nat.le_of_ble_eq_true rfl)) d_T_floor_5 ⟨hce, hsl⟩) ?_
    refine lv_iload_n hx hb d_T_floor_8 rfl (lv_at hl 2 rfl) ?_
    refine lv_bipush (v := nI 10) hx hb d_T_floor_9 (by decide) ?_
    refine lv_bipush (v := nI 100) hx hb d_T_floor_11 (by decide) ?_
    refine tx_call (vx_runS (As := [.int p1, .int (nI 10), .int (nI 100)]) (rest := []) ⟨hx, hb, hml, hown, hts⟩ (c_T_requireWithin_b l hlt p1 (nI 10) (nI 100) 10 100 (nI_toInt (by decide)) (nI_toInt (by decide)) (fun a1 => hbad ⟨a0, a1⟩)) (cwS 3 hts (gw_S k_150 k_148 k_149 k_1) rfl rfl rfl (by decide +kernel) ⟨Nat.le_trans (Nat.le_of_ble_eq_true rfl) hfr, Nat.le_trans (Nat.le_of_ble_eq_true rfl) hlo⟩) ⟨px_blind, px_at hC (fun k q h => by simp at h) hT⟩ rfl rfl hl.1 rfl (lv_room (Nat.le_of_ble_eq_true rfl)) d_T_floor_13 ⟨hc1, hs6⟩) (fun ce q9 H1 hz1 hk1 hce1 hv1 hcl1 => ?_)
    exact tx_out hxt hlocks hz1 hk1 hce1 hv1 hcl1 (by decide) (by decide)
  · refine tx_call (vx_runS (As := [.int p0, .int (nI 0), .int (nI 200)]) (rest := []) ⟨hx, hb, hml, hown, hts⟩ (c_T_requireWithin_b l hlt p0 (nI 0) (nI 200) 0 200 (nI_toInt (by decide)) (nI_toInt (by decide)) a0) (cwS 3 hts (gw_S k_150 k_148 k_149 k_1) rfl rfl rfl (by decide +kernel) ⟨Nat.le_trans (Nat.le_of_ble_eq_true rfl) hfr, Nat.le_trans (Nat.le_of_ble_eq_true rfl) hlo⟩) ⟨px_blind, px_at hC (fun k q h => by simp at h) hT⟩ rfl rfl hl.1 rfl (lv_room (Nat.le_of_ble_eq_true rfl)) d_T_floor_5 ⟨hc1, hs6⟩) (fun ce q9 H1 hz1 hk1 hce1 hv1 hcl1 => ?_)
    exact tx_out hxt hlocks hz1 hk1 hce1 hv1 hcl1 (by decide) (by decide)
set_option maxHeartbeats 4000000 in
set_option maxRecDepth 100000 in
theorem c_T_floor_b2 (l : Launch) (hlt : l.stackTraces = false) {dC : Nat → ClassId} {dI : Nat → Nat → Nat} {cI cL cT : ClassId} {sa : Nat → Nat} (g ca : Nat → Nat) (F nt E : Nat) (a b : Nat) (hF12 : F ≤ 12) (hn6 : nt ≤ 6) (ha : a ≤ 200) (hb1 : 10 ≤ b) (hb2 : b ≤ 100) (hE : E ≤ 200) (hbad : F = 12 ∨ 200 < E + a) : vx_Met l y_T_floor (Cond.code y_T_floor b_T_floor 3 (some .int) :: gw) ({ frames := 9, cells := 1, slots := 6, locals := 190 } : Room) (px dC dI cI cL cT sa [.ref (g 0), .int (nI a), .int (nI b)] [(g 0, .inr (5, [.ref (g 1), .ref (g 4), .int (nI nt), .ref (g 5), .ref (g 6), .ref (g 11)])), (g 1, .inr (0, [.ref (g 2), .ref (g 3), .int (nI F), .int (nI E)])), (g 4, .inl (cT, 6, .inr (.inr (.inr (.inr (tq ca nt))))))]) xQ (xX E_sta) 1 6 xF := by
  refine vx_ofW (cc := b_T_floor) (maxL := 3) (ret := (some .int)) (by decide) rfl ?_
  intro p e s m args below meth c s₁ B hml hxt hv
  obtain ⟨rfl, hC, hP, hT⟩ := hv
  have hx := B.exec
  have hb := B.bytes
  have hts : ∀ w ∈ gw, w.before ([.ref (g 0), .int (nI a), .int (nI b)] : List Value).toArray s = true := fun w hw => atoms_spec (ws := Cond.code y_T_floor b_T_floor 3 (some .int) :: gw) B.pre w (List.mem_cons_of_mem _ hw)
  have hown : s.vm.findClass R_T = some m.cls := findClass_of_methodNamed B.named
  have hlocks := B.notSynchronized
  have hK := hC.1
  have hfr : 9 ≤ (headSpec (Cond.code y_T_floor b_T_floor 3 (some .int) :: gw) ({ frames := 9, cells := 1, slots := 6, locals := 190 } : Room)).room.frames := Nat.le_refl _
  have hlo : 190 ≤ (headSpec (Cond.code y_T_floor b_T_floor 3 (some .int) :: gw) ({ frames := 9, cells := 1, slots := 6, locals := 190 } : Room)).room.locals := Nat.le_refl _
  have hce : 0 ≤ (headSpec (Cond.code y_T_floor b_T_floor 3 (some .int) :: gw) ({ frames := 9, cells := 1, slots := 6, locals := 190 } : Room)).room.cells := Nat.zero_le _
  have hsl : 0 ≤ (headSpec (Cond.code y_T_floor b_T_floor 3 (some .int) :: gw) ({ frames := 9, cells := 1, slots := 6, locals := 190 } : Room)).room.slots := Nat.zero_le _
  have hc1 : 1 ≤ (headSpec (Cond.code y_T_floor b_T_floor 3 (some .int) :: gw) ({ frames := 9, cells := 1, slots := 6, locals := 190 } : Room)).room.cells := Nat.le_refl _
  have hs6 : 6 ≤ (headSpec (Cond.code y_T_floor b_T_floor 3 (some .int) :: gw) ({ frames := 9, cells := 1, slots := 6, locals := 190 } : Room)).room.slots := Nat.le_refl _
  have hl := lv_entry ([.ref (g 0), .int (nI a), .int (nI b)]) (n := 3) (Nat.le_of_ble_eq_true rfl)
  rw [lg_entry_eq]
  generalize (lg_sl ([.ref (g 0), .int (nI a), .int (nI b)]) ++ List.replicate (3 - (lg_sl ([.ref (g 0), .int (nI a), .int (nI b)])).length) Slot.unset).toArray = ls at hl ⊢
  have hl : lv_has ls 3 [(0, .ref (g 0)), (1, .int (nI a)), (2, .int (nI b))] := hl
  refine lv_iload_n hx hb d_T_floor_0 rfl (lv_at hl 1 rfl) ?_
  refine lv_iconst (v := nI 0) hx hb d_T_floor_1 (by decide) ?_
  refine lv_sipush (v := nI 200) hx hb d_T_floor_2 (by decide) ?_
  refine ro_callv (va_runS (As := [.int (nI a), .int (nI 0), .int (nI 200)]) (rest := []) ⟨hx, hb, hml, hown, hts⟩ (c_T_requireWithin l (nI a) (nI 0) (nI 200) 0 200 (nI_toInt (by decide)) (nI_toInt (by decide)) (by rw [nI_toInt (by omega)]; omega)) (cwS 3 hts (gw_S k_150 k_148 k_149 k_1) rfl rfl rfl (by decide +kernel) ⟨Nat.le_trans (Nat.le_of_ble_eq_true rfl) hfr, Nat.le_trans (Nat.le_of_ble_eq_true rfl) hlo⟩) ⟨pr_blind, pr_at hC (fun k q h => by simp at h)⟩ rfl rfl hl.1 rfl (lv_room (Nat.le_of_ble_eq_true rfl)) d_T_floor_5 ⟨hce, hsl⟩) ?_
  refine lv_iload_n hx hb d_T_floor_8 rfl (lv_at hl 2 rfl) ?_
  refine lv_bipush (v := nI 10) hx hb d_T_floor_9 (by decide) ?_
  refine lv_bipush (v := nI 100) hx hb d_T_floor_11 (by decide) ?_
  refine ro_callv (va_runS (As := [.int (nI b), .int (nI 10), .int (nI 100)]) (rest := []) ⟨hx, hb, hml, hown, hts⟩ (c_T_requireWithin l (nI b) (nI 10) (nI 100) 10 100 (nI_toInt (by decide)) (nI_toInt (by decide)) (by rw [nI_toInt (by omega)]; omega)) (cwS 3 hts (gw_S k_150 k_148 k_149 k_1) rfl rfl rfl (by decide +kernel) ⟨Nat.le_trans (Nat.le_of_ble_eq_true rfl) hfr, Nat.le_trans (Nat.le_of_ble_eq_true rfl) hlo⟩) ⟨pr_blind, pr_at hC (fun k q h => by simp at h)⟩ rfl rfl hl.1 rfl (lv_room (Nat.le_of_ble_eq_true rfl)) d_T_floor_13 ⟨hce, hsl⟩) ?_
  refine lv_aload_n hx hb d_T_floor_16 rfl (lv_at hl 0 rfl) ?_
  refine va_get (D := (dC, dI)) (ci := 5) (v := .ref (g 1)) (C := R_T) (T := F_T) (N := 6) hx hb hts i_T hown hK hP 0 rfl rfl 0 (by decide) (hts _ k_120) (fun _ h9 => h9) rfl d_T_floor_17 ?_
  refine va_get (D := (dC, dI)) (ci := 0) (v := .int (nI F)) (C := R_B) (T := F_B) (N := 4) hx hb hts i_B hown hK hP 1 rfl rfl 2 (by decide) (hts _ k_37) (fun _ h9 => h9) rfl d_T_floor_20 ?_
  refine lv_bipush (v := nI 12) hx hb d_T_floor_23 (by decide) ?_
  refine nx_icmp_lt (tgt := 38) hx hb d_T_floor_25 (by decide) (by omega) (by omega) (fun h1 => ?_) (fun h1 => ?_)
  · refine lv_aload_n hx hb d_T_floor_38 rfl (lv_at hl 0 rfl) ?_
    refine va_get (D := (dC, dI)) (ci := 5) (v := .ref (g 1)) (C := R_T) (T := F_T) (N := 6) hx hb hts i_T hown hK hP 0 rfl rfl 0 (by decide) (hts _ k_120) (fun _ h9 => h9) rfl d_T_floor_39 ?_
    refine va_get (D := (dC, dI)) (ci := 0) (v := .int (nI E)) (C := R_B) (T := F_B) (N := 4) hx hb hts i_B hown hK hP 1 rfl rfl 3 (by decide) (hts _ k_39) (fun _ h9 => h9) rfl d_T_floor_42 ?_
    refine lv_iload_n hx hb d_T_floor_45 rfl (lv_at hl 1 rfl) ?_
    refine nx_iadd hx hb d_T_floor_46 ?_
    refine tx_call (vx_runS (As := [.int (nI (E + a))]) (rest := []) ⟨hx, hb, hml, hown, hts⟩ (c_T_requireRoomForAll_b l hlt (E + a) (by omega) (by omega)) (cwS 1 hts (gw_S k_236 k_234 k_235 k_1) rfl rfl rfl (by decide +kernel) ⟨Nat.le_trans (Nat.le_of_ble_eq_true rfl) hfr, Nat.le_trans (Nat.le_of_ble_eq_true rfl) hlo⟩) ⟨px_blind, px_at hC (fun k q h => by simp at h) hT⟩ rfl rfl hl.1 rfl (lv_room (Nat.le_of_ble_eq_true rfl)) d_T_floor_47 ⟨hc1, hs6⟩) (fun ce q9 H1 hz1 hk1 hce1 hv1 hcl1 => ?_)
    exact tx_out hxt hlocks hz1 hk1 hce1 hv1 hcl1 (by decide) (by decide)
  · exact vx_throwS hx hb hlt hown xs_fit xn_fit (hts _ k_218) (hts _ k_11) (hC.2.2.1 (56, "there are 12 floors") (by simp [ct_str])) (xs_hat hts hC) xs_ot hT.1 hT.2 va_S.rf (hl.1.trans hml.symm) d_T_floor_28 d_T_floor_31 d_T_floor_32 d_T_floor_34 d_T_floor_37 (fun x hx => (hxt x hx).elim) (Nat.le_trans (Nat.le_of_ble_eq_true rfl) hfr) (Nat.le_trans (Nat.le_of_ble_eq_true rfl) hlo) hc1 hs6 hlocks (fun t _ h1 h2 => ⟨rfl, h1, fun q h _ => h2 q h⟩) (fun z hz => by cases hz) (by decide) (by decide)
set_option maxHeartbeats 4000000 in
set_option maxRecDepth 100000 in
theorem c_T_persons_b1 (l : Launch) (hlt : l.stackTraces = false) {dC : Nat → ClassId} {dI : Nat → Nat → Nat} {cI cL cT : ClassId} {sa : Nat → Nat} (g ca : Nat → Nat) (F nt E : Nat) (p0 p1 : Int32) (hF12 : F ≤ 12) (hn6 : nt ≤ 6) (hbad : ¬ (okFl F p0 ∧ (0 ≤ p1.toInt ∧ p1.toInt ≤ 200))) : vx_Met l y_T_persons (Cond.code y_T_persons b_T_persons 4 (some .int) :: gw) ({ frames := 9, cells := 1, slots := 6, locals := 190 } : Room) (px dC dI cI cL cT sa [.ref (g 0), .int p0, .int p1] [(g 0, .inr (5, [.ref (g 1), .ref (g 4), .int (nI nt), .ref (g 5), .ref (g 6), .ref (g 11)])), (g 1, .inr (0, [.ref (g 2), .ref (g 3), .int (nI F), .int (nI E)])), (g 4, .inl (cT, 6, .inr (.inr (.inr (.inr (tq ca nt))))))]) xQ (xX E_arg) 1 6 xF := by
  refine vx_ofW (cc := b_T_persons) (maxL := 4) (ret := (some .int)) (by decide) rfl ?_
  intro p e s m args below meth c s₁ B hml hxt hv
  obtain ⟨rfl, hC, hP, hT⟩ := hv
  have hx := B.exec
  have hb := B.bytes
  have hts : ∀ w ∈ gw, w.before ([.ref (g 0), .int p0, .int p1] : List Value).toArray s = true := fun w hw => atoms_spec (ws := Cond.code y_T_persons b_T_persons 4 (some .int) :: gw) B.pre w (List.mem_cons_of_mem _ hw)
  have hown : s.vm.findClass R_T = some m.cls := findClass_of_methodNamed B.named
  have hlocks := B.notSynchronized
  have hK := hC.1
  have hfr : 9 ≤ (headSpec (Cond.code y_T_persons b_T_persons 4 (some .int) :: gw) ({ frames := 9, cells := 1, slots := 6, locals := 190 } : Room)).room.frames := Nat.le_refl _
  have hlo : 190 ≤ (headSpec (Cond.code y_T_persons b_T_persons 4 (some .int) :: gw) ({ frames := 9, cells := 1, slots := 6, locals := 190 } : Room)).room.locals := Nat.le_refl _
  have hce : 0 ≤ (headSpec (Cond.code y_T_persons b_T_persons 4 (some .int) :: gw) ({ frames := 9, cells := 1, slots := 6, locals := 190 } : Room)).room.cells := Nat.zero_le _
  have hsl : 0 ≤ (headSpec (Cond.code y_T_persons b_T_persons 4 (some .int) :: gw) ({ frames := 9, cells := 1, slots := 6, locals := 190 } : Room)).room.slots := Nat.zero_le _
  have hc1 : 1 ≤ (headSpec (Cond.code y_T_persons b_T_persons 4 (some .int) :: gw) ({ frames := 9, cells := 1, slots := 6, locals := 190 } : Room)).room.cells := Nat.le_refl _
  have hs6 : 6 ≤ (headSpec (Cond.code y_T_persons b_T_persons 4 (some .int) :: gw) ({ frames := 9, cells := 1, slots := 6, locals := 190 } : Room)).room.slots := Nat.le_refl _
  have hl := lv_entry ([.ref (g 0), .int p0, .int p1]) (n := 4) (Nat.le_of_ble_eq_true rfl)
  rw [lg_entry_eq]
  generalize (lg_sl ([.ref (g 0), .int p0, .int p1]) ++ List.replicate (4 - (lg_sl ([.ref (g 0), .int p0, .int p1])).length) Slot.unset).toArray = ls at hl ⊢
  have hl : lv_has ls 4 [(0, .ref (g 0)), (1, .int p0), (2, .int p1)] := hl
  refine lv_aload_n hx hb d_T_persons_0 rfl (lv_at hl 0 rfl) ?_
  refine lv_iload_n hx hb d_T_persons_1 rfl (lv_at hl 1 rfl) ?_
  by_cases a0 : okFl F p0
  · refine ro_callv (va_runV (As := [.int p0]) (rest := []) ⟨hx, hb, hml, hown, hts⟩ (c_T_requireFloor l g F nt E p0 hF12 a0) (cwV 1 hts (gw_V k_252 k_249 k_251 ks_T_requireFloor k_1) rfl rfl rfl (by decide +kernel) ⟨Nat.le_trans (Nat.le_of_ble_eq_true rfl) hfr, Nat.le_trans (Nat.le_of_ble_eq_true rfl) hlo⟩) ⟨pr_blind, va_recv hK hP (ci := 5) (q0 := 0) rfl rfl, pr_at hC (hP.sub (ws' := [(g 0, .inr (5, [.ref (g 1), .ref (g 4), .int (nI nt), .ref (g 5), .ref (g 6), .ref (g 11)])), (g 1, .inr (0, [.ref (g 2), .ref (g 3), .int (nI F), .int (nI E)]))]) [0, 1] rfl)⟩ rfl rfl hl.1 rfl (lv_room (Nat.le_of_ble_eq_true rfl)) d_T_persons_2 ⟨hce, hsl⟩) ?_
    refine lv_iload_n hx hb d_T_persons_5 rfl (lv_at hl 2 rfl) ?_
    refine lv_iconst (v := nI 0) hx hb d_T_persons_6 (by decide) ?_
    refine lv_sipush (v := nI 200) hx hb d_T_persons_7 (by decide) ?_
    refine tx_call (vx_runS (As := [.int p1, .int (nI 0), .int (nI 200)]) (rest := []) ⟨hx, hb, hml, hown, hts⟩ (c_T_requireWithin_b l hlt p1 (nI 0) (nI 200) 0 200 (nI_toInt (by decide)) (nI_toInt (by decide)) (fun a1 => hbad ⟨a0, a1⟩)) (cwS 3 hts (gw_S k_150 k_148 k_149 k_1) rfl rfl rfl (by decide +kernel) ⟨Nat.le_trans (Nat.le_of_ble_eq_true rfl) hfr, Nat.le_trans (Nat.le_of_ble_eq_true rfl) hlo⟩) ⟨px_blind, px_at hC (fun k q h => by simp at h) hT⟩ rfl rfl hl.1 rfl (lv_room (Nat.le_of_ble_eq_true rfl)) d_T_persons_10 ⟨hc1, hs6⟩) (fun ce q9 H1 hz1 hk1 hce1 hv1 hcl1 => ?_)
    exact tx_out hxt hlocks hz1 hk1 hce1 hv1 hcl1 (by decide) (by decide)
  · refine tx_call (vx_runV (As := [.int p0]) (rest := []) ⟨hx, hb, hml, hown, hts⟩ (c_T_requireFloor_b l hlt g F nt E p0 hF12 a0) (cwV 1 hts (gw_V k_252 k_249 k_251 ks_T_requireFloor k_1) rfl rfl rfl (by decide +kernel) ⟨Nat.le_trans (Nat.le_of_ble_eq_true rfl) hfr, Nat.le_trans (Nat.le_of_ble_eq_true rfl) hlo⟩) ⟨px_blind, va_recv hK hP (ci := 5) (q0 := 0) rfl rfl, px_at hC (hP.sub (ws' := [(g 0, .inr (5, [.ref (g 1), .ref (g 4), .int (nI nt), .ref (g 5), .ref (g 6), .ref (g 11)])), (g 1, .inr (0, [.ref (g 2), .ref (g 3), .int (nI F), .int (nI E)]))]) [0, 1] rfl) hT⟩ rfl rfl hl.1 rfl (lv_room (Nat.le_of_ble_eq_true rfl)) d_T_persons_2 ⟨hc1, hs6⟩) (fun ce q9 H1 hz1 hk1 hce1 hv1 hcl1 => ?_)
    exact tx_out hxt hlocks hz1 hk1 hce1 hv1 hcl1 (by decide) (by decide)
set_option maxHeartbeats 4000000 in
set_option maxRecDepth 100000 in
theorem c_T_persons_b2 (l : Launch) (hlt : l.stackTraces = false) {dC : Nat → ClassId} {dI : Nat → Nat → Nat} {cI cL cT : ClassId} {sa : Nat → Nat} (g ca : Nat → Nat) (F nt E : Nat) (pp : Nat → Nat) (fl a : Nat) (hF12 : F ≤ 12) (hn6 : nt ≤ 6) (ha : a ≤ 200) (hf1 : 1 ≤ fl) (hf2 : fl ≤ F) (hE : E ≤ 200) (hpl : pp fl ≤ E) (hbad : 200 < E - pp fl + a) : vx_Met l y_T_persons (Cond.code y_T_persons b_T_persons 4 (some .int) :: gw) ({ frames := 9, cells := 1, slots := 6, locals := 190 } : Room) (px dC dI cI cL cT sa [.ref (g 0), .int (nI fl), .int (nI a)] [(g 0, .inr (5, [.ref (g 1), .ref (g 4), .int (nI nt), .ref (g 5), .ref (g 6), .ref (g 11)])), (g 1, .inr (0, [.ref (g 2), .ref (g 3), .int (nI F), .int (nI E)])), (g 4, .inl (cT, 6, .inr (.inr (.inr (.inr (tq ca nt)))))), (g 2, .inl (cI, 13, .inl (fun j => nI (pp j))))]) xQ (xX E_sta) 1 6 xF := by
  refine vx_ofW (cc := b_T_persons) (maxL := 4) (ret := (some .int)) (by decide) rfl ?_
  intro p e s m args below meth c s₁ B hml hxt hv
  obtain ⟨rfl, hC, hP, hT⟩ := hv
  have hx := B.exec
  have hb := B.bytes
  have hts : ∀ w ∈ gw, w.before ([.ref (g 0), .int (nI fl), .int (nI a)] : List Value).toArray s = true := fun w hw => atoms_spec (ws := Cond.code y_T_persons b_T_persons 4 (some .int) :: gw) B.pre w (List.mem_cons_of_mem _ hw)
  have hown : s.vm.findClass R_T = some m.cls := findClass_of_methodNamed B.named
  have hlocks := B.notSynchronized
  have hK := hC.1
  have hfr : 9 ≤ (headSpec (Cond.code y_T_persons b_T_persons 4 (some .int) :: gw) ({ frames := 9, cells := 1, slots := 6, locals := 190 } : Room)).room.frames := Nat.le_refl _
  have hlo : 190 ≤ (headSpec (Cond.code y_T_persons b_T_persons 4 (some .int) :: gw) ({ frames := 9, cells := 1, slots := 6, locals := 190 } : Room)).room.locals := Nat.le_refl _
  have hce : 0 ≤ (headSpec (Cond.code y_T_persons b_T_persons 4 (some .int) :: gw) ({ frames := 9, cells := 1, slots := 6, locals := 190 } : Room)).room.cells := Nat.zero_le _
  have hsl : 0 ≤ (headSpec (Cond.code y_T_persons b_T_persons 4 (some .int) :: gw) ({ frames := 9, cells := 1, slots := 6, locals := 190 } : Room)).room.slots := Nat.zero_le _
  have hc1 : 1 ≤ (headSpec (Cond.code y_T_persons b_T_persons 4 (some .int) :: gw) ({ frames := 9, cells := 1, slots := 6, locals := 190 } : Room)).room.cells := Nat.le_refl _
  have hs6 : 6 ≤ (headSpec (Cond.code y_T_persons b_T_persons 4 (some .int) :: gw) ({ frames := 9, cells := 1, slots := 6, locals := 190 } : Room)).room.slots := Nat.le_refl _
  have hl := lv_entry ([.ref (g 0), .int (nI fl), .int (nI a)]) (n := 4) (Nat.le_of_ble_eq_true rfl)
  rw [lg_entry_eq]
  generalize (lg_sl ([.ref (g 0), .int (nI fl), .int (nI a)]) ++ List.replicate (4 - (lg_sl ([.ref (g 0), .int (nI fl), .int (nI a)])).length) Slot.unset).toArray = ls at hl ⊢
  have hl : lv_has ls 4 [(0, .ref (g 0)), (1, .int (nI fl)), (2, .int (nI a))] := hl
  refine lv_aload_n hx hb d_T_persons_0 rfl (lv_at hl 0 rfl) ?_
  refine lv_iload_n hx hb d_T_persons_1 rfl (lv_at hl 1 rfl) ?_
  refine ro_callv (va_runV (As := [.int (nI fl)]) (rest := []) ⟨hx, hb, hml, hown, hts⟩ (c_T_requireFloor l g F nt E (nI fl) hF12 (okFl_N hf1 hf2 hF12)) (cwV 1 hts (gw_V k_252 k_249 k_251 ks_T_requireFloor k_1) rfl rfl rfl (by decide +kernel) ⟨Nat.le_trans (Nat.le_of_ble_eq_true rfl) hfr, Nat.le_trans (Nat.le_of_ble_eq_true rfl) hlo⟩) ⟨pr_blind, va_recv hK hP (ci := 5) (q0 := 0) rfl rfl, pr_at hC (hP.sub (ws' := [(g 0, .inr (5, [.ref (g 1), .ref (g 4), .int (nI nt), .ref (g 5), .ref (g 6), .ref (g 11)])), (g 1, .inr (0, [.ref (g 2), .ref (g 3), .int (nI F), .int (nI E)]))]) [0, 1] rfl)⟩ rfl rfl hl.1 rfl (lv_room (Nat.le_of_ble_eq_true rfl)) d_T_persons_2 ⟨hce, hsl⟩) ?_
  refine lv_iload_n hx hb d_T_persons_5 rfl (lv_at hl 2 rfl) ?_
  refine lv_iconst (v := nI 0) hx hb d_T_persons_6 (by decide) ?_
  refine lv_sipush (v := nI 200) hx hb d_T_persons_7 (by decide) ?_
  refine ro_callv (va_runS (As := [.int (nI a), .int (nI 0), .int (nI 200)]) (rest := []) ⟨hx, hb, hml, hown, hts⟩ (c_T_requireWithin l (nI a) (nI 0) (nI 200) 0 200 (nI_toInt (by decide)) (nI_toInt (by decide)) (by rw [nI_toInt (by omega)]; omega)) (cwS 3 hts (gw_S k_150 k_148 k_149 k_1) rfl rfl rfl (by decide +kernel) ⟨Nat.le_trans (Nat.le_of_ble_eq_true rfl) hfr, Nat.le_trans (Nat.le_of_ble_eq_true rfl) hlo⟩) ⟨pr_blind, pr_at hC (fun k q h => by simp at h)⟩ rfl rfl hl.1 rfl (lv_room (Nat.le_of_ble_eq_true rfl)) d_T_persons_10 ⟨hce, hsl⟩) ?_
  refine lv_aload_n hx hb d_T_persons_13 rfl (lv_at hl 0 rfl) ?_
  refine va_get (D := (dC, dI)) (ci := 5) (v := .ref (g 1)) (C := R_T) (T := F_T) (N := 6) hx hb hts i_T hown hK hP 0 rfl rfl 0 (by decide) (hts _ k_120) (fun _ h9 => h9) rfl d_T_persons_14 ?_
  refine va_get (D := (dC, dI)) (ci := 0) (v := .ref (g 2)) (C := R_B) (T := F_B) (N := 4) hx hb hts i_B hown hK hP 1 rfl rfl 0 (by decide) (hts _ k_32) (fun _ h9 => h9) rfl d_T_persons_17 ?_
  refine lv_iload_n hx hb d_T_persons_20 rfl (lv_at hl 1 rfl) ?_
  refine nx_iald hx hb hK hP 3 0 rfl rfl (k := fl) (v := nI (pp fl)) (by omega) (by decide) rfl d_T_persons_21 ?_
  refine lv_istore_n (lv' := [(3, .int (nI (pp fl))), (0, .ref (g 0)), (1, .int (nI fl)), (2, .int (nI a))]) hx hb d_T_persons_22 rfl hl (by decide) rfl (fun ls hl => ?_)
  refine lv_aload_n hx hb d_T_persons_23 rfl (lv_at hl 1 rfl) ?_
  refine va_get (D := (dC, dI)) (ci := 5) (v := .ref (g 1)) (C := R_T) (T := F_T) (N := 6) hx hb hts i_T hown hK hP 0 rfl rfl 0 (by decide) (hts _ k_120) (fun _ h9 => h9) rfl d_T_persons_24 ?_
  refine va_get (D := (dC, dI)) (ci := 0) (v := .int (nI E)) (C := R_B) (T := F_B) (N := 4) hx hb hts i_B hown hK hP 1 rfl rfl 3 (by decide) (hts _ k_39) (fun _ h9 => h9) rfl d_T_persons_27 ?_
  refine lv_iload_n hx hb d_T_persons_30 rfl (lv_at hl 0 rfl) ?_
  refine nx_isub hx hb d_T_persons_31 (by omega) ?_
  refine lv_iload_n hx hb d_T_persons_32 rfl (lv_at hl 3 rfl) ?_
  refine nx_iadd hx hb d_T_persons_33 ?_
  refine tx_call (vx_runS (As := [.int (nI ((E - (pp fl)) + a))]) (rest := []) ⟨hx, hb, hml, hown, hts⟩ (c_T_requireRoomForAll_b l hlt (E - pp fl + a) (by omega) hbad) (cwS 1 hts (gw_S k_236 k_234 k_235 k_1) rfl rfl rfl (by decide +kernel) ⟨Nat.le_trans (Nat.le_of_ble_eq_true rfl) hfr, Nat.le_trans (Nat.le_of_ble_eq_true rfl) hlo⟩) ⟨px_blind, px_at hC (fun k q h => by simp at h) hT⟩ rfl rfl hl.1 rfl (lv_room (Nat.le_of_ble_eq_true rfl)) d_T_persons_34 ⟨hc1, hs6⟩) (fun ce q9 H1 hz1 hk1 hce1 hv1 hcl1 => ?_)
  exact tx_out hxt hlocks hz1 hk1 hce1 hv1 hcl1 (by decide) (by decide)
set_option maxHeartbeats 4000000 in
set_option maxRecDepth 100000 in
theorem c_T_type_b1 (l : Launch) (hlt : l.stackTraces = false) {dC : Nat → ClassId} {dI : Nat → Nat → Nat} {cI cL cT : ClassId} {sa : Nat → Nat} (g ca : Nat → Nat) (F nt E : Nat) (p0 p1 p2 p3 p4 : Int32) (hF12 : F ≤ 12) (hn6 : nt ≤ 6) (hbad : ¬ ((1 ≤ p0.toInt ∧ p0.toInt ≤ 5) ∧ (1 ≤ p1.toInt ∧ p1.toInt ≤ 100) ∧ (0 ≤ p2.toInt ∧ p2.toInt ≤ 30) ∧ (0 ≤ p3.toInt ∧ p3.toInt ≤ 10) ∧ (1 ≤ p4.toInt ∧ p4.toInt ≤ 100000))) : vx_Met l y_T_type (Cond.code y_T_type b_T_type 7 (some .int) :: gw) ({ frames := 9, cells := 1, slots := 6, locals := 190 } : Room) (px dC dI cI cL cT sa [.ref (g 0), .int p0, .int p1, .int p2, .int p3, .int p4] [(g 0, .inr (5, [.ref (g 1), .ref (g 4), .int (nI nt), .ref (g 5), .ref (g 6), .ref (g 11)])), (g 1, .inr (0, [.ref (g 2), .ref (g 3), .int (nI F), .int (nI E)])), (g 4, .inl (cT, 6, .inr (.inr (.inr (.inr (tq ca nt))))))]) xQ (xX E_arg) 1 6 xF := by
  refine vx_ofW (cc := b_T_type) (maxL := 7) (ret := (some .int)) (by decide) rfl ?_
  intro p e s m args below meth c s₁ B hml hxt hv
  obtain ⟨rfl, hC, hP, hT⟩ := hv
  have hx := B.exec
  have hb := B.bytes
  have hts : ∀ w ∈ gw, w.before ([.ref (g 0), .int p0, .int p1, .int p2, .int p3, .int p4] : List Value).toArray s = true := fun w hw => atoms_spec (ws := Cond.code y_T_type b_T_type 7 (some .int) :: gw) B.pre w (List.mem_cons_of_mem _ hw)
  have hown : s.vm.findClass R_T = some m.cls := findClass_of_methodNamed B.named
  have hlocks := B.notSynchronized
  have hK := hC.1
  have hfr : 9 ≤ (headSpec (Cond.code y_T_type b_T_type 7 (some .int) :: gw) ({ frames := 9, cells := 1, slots := 6, locals := 190 } : Room)).room.frames := Nat.le_refl _
  have hlo : 190 ≤ (headSpec (Cond.code y_T_type b_T_type 7 (some .int) :: gw) ({ frames := 9, cells := 1, slots := 6, locals := 190 } : Room)).room.locals := Nat.le_refl _
  have hce : 0 ≤ (headSpec (Cond.code y_T_type b_T_type 7 (some .int) :: gw) ({ frames := 9, cells := 1, slots := 6, locals := 190 } : Room)).room.cells := Nat.zero_le _
  have hsl : 0 ≤ (headSpec (Cond.code y_T_type b_T_type 7 (some .int) :: gw) ({ frames := 9, cells := 1, slots := 6, locals := 190 } : Room)).room.slots := Nat.zero_le _
  have hc1 : 1 ≤ (headSpec (Cond.code y_T_type b_T_type 7 (some .int) :: gw) ({ frames := 9, cells := 1, slots := 6, locals := 190 } : Room)).room.cells := Nat.le_refl _
  have hs6 : 6 ≤ (headSpec (Cond.code y_T_type b_T_type 7 (some .int) :: gw) ({ frames := 9, cells := 1, slots := 6, locals := 190 } : Room)).room.slots := Nat.le_refl _
  have hl := lv_entry ([.ref (g 0), .int p0, .int p1, .int p2, .int p3, .int p4]) (n := 7) (Nat.le_of_ble_eq_true rfl)
  rw [lg_entry_eq]
  generalize (lg_sl ([.ref (g 0), .int p0, .int p1, .int p2, .int p3, .int p4]) ++ List.replicate (7 - (lg_sl ([.ref (g 0), .int p0, .int p1, .int p2, .int p3, .int p4])).length) Slot.unset).toArray = ls at hl ⊢
  have hl : lv_has ls 7 [(0, .ref (g 0)), (1, .int p0), (2, .int p1), (3, .int p2), (4, .int p3), (5, .int p4)] := hl
  refine lv_iload_n hx hb d_T_type_0 rfl (lv_at hl 1 rfl) ?_
  refine lv_iconst (v := nI 1) hx hb d_T_type_1 (by decide) ?_
  refine lv_iconst (v := nI 5) hx hb d_T_type_2 (by decide) ?_
  by_cases a0 : 1 ≤ p0.toInt ∧ p0.toInt ≤ 5
  · refine ro_callv (va_runS (As := [.int p0, .int (nI 1), .int (nI 5)]) (rest := []) ⟨hx, hb, hml, hown, hts⟩ (c_T_requireWithin l p0 (nI 1) (nI 5) 1 5 (nI_toInt (by decide)) (nI_toInt (by decide)) a0) (cwS 3 hts (gw_S k_150 k_148 k_149 k_1) rfl rfl rfl (by decide +kernel) ⟨Nat.le_trans (Nat.le_of_ble_eq_true rfl) hfr, Nat.le_trans (Nat.le_of_ble_eq_true rfl) hlo⟩) ⟨pr_blind, pr_at hC (fun k q h => by simp at h)⟩ rfl rfl hl.1 rfl (lv_room (Nat.le_of_ble_eq_true rfl)) d_T_type_3 ⟨hce, hsl⟩) ?_
    refine lv_iload_n hx hb d_T_type_6 rfl (lv_at hl 2 rfl) ?_
    refine lv_iconst (v := nI 1) hx hb d_T_type_7 (by decide) ?_
    refine lv_bipush (v := nI 100) hx hb d_T_type_8 (by decide) ?_
    by_cases a1 : 1 ≤ p1.toInt ∧ p1.toInt ≤ 100
    · refine ro_callv (va_runS (As := [.int p1, .int (nI 1), .int (nI 100)]) (rest := []) ⟨hx, hb, hml, hown, hts⟩ (c_T_requireWithin l p1 (nI 1) (nI 100) 1 100 (nI_toInt (by decide)) (nI_toInt (by decide)) a1) (cwS 3 hts (gw_S k_150 k_148 k_149 k_1) rfl rfl rfl (by decide +kernel) ⟨Nat.le_trans (Nat.le_of_ble_eq_true rfl) hfr, Nat.le_trans (Nat.le_of_ble_eq_true rfl) hlo⟩) ⟨pr_blind, pr_at hC (fun k q h => by simp at h)⟩ rfl rfl hl.1 rfl (lv_room (Nat.le_of_ble_eq_true rfl)) d_T_type_10 ⟨hce, hsl⟩) ?_
      refine lv_iload_n hx hb d_T_type_13 rfl (lv_at hl 3 rfl) ?_
      refine lv_iconst (v := nI 0) hx hb d_T_type_14 (by decide) ?_
      refine lv_bipush (v := nI 30) hx hb d_T_type_15 (by decide) ?_
      by_cases a2 : 0 ≤ p2.toInt ∧ p2.toInt ≤ 30
      · refine ro_callv (va_runS (As := [.int p2, .int (nI 0), .int (nI 30)]) (rest := []) ⟨hx, hb, hml, hown, hts⟩ (c_T_requireWithin l p2 (nI 0) (nI 30) 0 30 (nI_toInt (by decide)) (nI_toInt (by decide)) a2) (cwS 3 hts (gw_S k_150 k_148 k_149 k_1) rfl rfl rfl (by decide +kernel) ⟨Nat.le_trans (Nat.le_of_ble_eq_true rfl) hfr, Nat.le_trans (Nat.le_of_ble_eq_true rfl) hlo⟩) ⟨pr_blind, pr_at hC (fun k q h => by simp at h)⟩ rfl rfl hl.1 rfl (lv_room (Nat.le_of_ble_eq_true rfl)) d_T_type_17 ⟨hce, hsl⟩) ?_
        refine lv_iload hx hb d_T_type_20 (lv_at hl 4 rfl) ?_
        refine lv_iconst (v := nI 0) hx hb d_T_type_22 (by decide) ?_
        refine lv_bipush (v := nI 10) hx hb d_T_type_23 (by decide) ?_
        by_cases a3 : 0 ≤ p3.toInt ∧ p3.toInt ≤ 10
        · refine ro_callv (va_runS (As := [.int p3, .int (nI 0), .int (nI 10)]) (rest := []) ⟨hx, hb, hml, hown, hts⟩ (c_T_requireWithin l p3 (nI 0) (nI 10) 0 10 (nI_toInt (by decide)) (nI_toInt (by decide)) a3) (cwS 3 hts (gw_S k_150 k_148 k_149 k_1) rfl rfl rfl (by decide +kernel) ⟨Nat.le_trans (Nat.le_of_ble_eq_true rfl) hfr, Nat.le_trans (Nat.le_of_ble_eq_true rfl) hlo⟩) ⟨pr_blind, pr_at hC (fun k q h => by simp at h)⟩ rfl rfl hl.1 rfl (lv_room (Nat.le_of_ble_eq_true rfl)) d_T_type_25 ⟨hce, hsl⟩) ?_
          refine lv_iload hx hb d_T_type_28 (lv_at hl 5 rfl) ?_
          refine lv_iconst (v := nI 1) hx hb d_T_type_30 (by decide) ?_
          refine lv_ldc (v := nI 100000) hx hb hown (hts _ k_261) d_T_type_31 ?_
          refine tx_call (vx_runS (As := [.int p4, .int (nI 1), .int (nI 100000)]) (rest := []) ⟨hx, hb, hml, hown, hts⟩ (c_T_requireWithin_b l hlt p4 (nI 1) (nI 100000) 1 100000 (nI_toInt (by decide)) (nI_toInt (by decide)) (fun a4 => hbad ⟨a0, a1, a2, a3, a4⟩)) (cwS 3 hts (gw_S k_150 k_148 k_149 k_1) rfl rfl rfl (by decide +kernel) ⟨Nat.le_trans (Nat.le_of_ble_eq_true rfl) hfr, Nat.le_trans (Nat.le_of_ble_eq_true rfl) hlo⟩) ⟨px_blind, px_at hC (fun k q h => by simp at h) hT⟩ rfl rfl hl.1 rfl (lv_room (Nat.le_of_ble_eq_true rfl)) d_T_type_33 ⟨hc1, hs6⟩) (fun ce q9 H1 hz1 hk1 hce1 hv1 hcl1 => ?_)
          exact tx_out hxt hlocks hz1 hk1 hce1 hv1 hcl1 (by decide) (by decide)
        · refine tx_call (vx_runS (As := [.int p3, .int (nI 0), .int (nI 10)]) (rest := []) ⟨hx, hb, hml, hown, hts⟩ (c_T_requireWithin_b l hlt p3 (nI 0) (nI 10) 0 10 (nI_toInt (by decide)) (nI_toInt (by decide)) a3) (cwS 3 hts (gw_S k_150 k_148 k_149 k_1) rfl rfl rfl (by decide +kernel) ⟨Nat.le_trans (Nat.le_of_ble_eq_true rfl) hfr, Nat.le_trans (Nat.le_of_ble_eq_true rfl) hlo⟩) ⟨px_blind, px_at hC (fun k q h => by simp at h) hT⟩ rfl rfl hl.1 rfl (lv_room (Nat.le_of_ble_eq_true rfl)) d_T_type_25 ⟨hc1, hs6⟩) (fun ce q9 H1 hz1 hk1 hce1 hv1 hcl1 => ?_)
          exact tx_out hxt hlocks hz1 hk1 hce1 hv1 hcl1 (by decide) (by decide)
      · refine tx_call (vx_runS (As := [.int p2, .int (nI 0), .int (nI 30)]) (rest := []) ⟨hx, hb, hml, hown, hts⟩ (c_T_requireWithin_b l hlt p2 (nI 0) (nI 30) 0 30 (nI_toInt (by decide)) (nI_toInt (by decide)) a2) (cwS 3 hts (gw_S k_150 k_148 k_149 k_1) rfl rfl rfl (by decide +kernel) ⟨Nat.le_trans (Nat.le_of_ble_eq_true rfl) hfr, Nat.le_trans (Nat.le_of_ble_eq_true rfl) hlo⟩) ⟨px_blind, px_at hC (fun k q h => by simp at h) hT⟩ rfl rfl hl.1 rfl (lv_room (Nat.le_of_ble_eq_true rfl)) d_T_type_17 ⟨hc1, hs6⟩) (fun ce q9 H1 hz1 hk1 hce1 hv1 hcl1 => ?_)
        exact tx_out hxt hlocks hz1 hk1 hce1 hv1 hcl1 (by decide) (by decide)
    · refine tx_call (vx_runS (As := [.int p1, .int (nI 1), .int (nI 100)]) (rest := []) ⟨hx, hb, hml, hown, hts⟩ (c_T_requireWithin_b l hlt p1 (nI 1) (nI 100) 1 100 (nI_toInt (by decide)) (nI_toInt (by decide)) a1) (cwS 3 hts (gw_S k_150 k_148 k_149 k_1) rfl rfl rfl (by decide +kernel) ⟨Nat.le_trans (Nat.le_of_ble_eq_true rfl) hfr, Nat.le_trans (Nat.le_of_ble_eq_true rfl) hlo⟩) ⟨px_blind, px_at hC (fun k q h => by simp at h) hT⟩ rfl rfl hl.1 rfl (lv_room (Nat.le_of_ble_eq_true rfl)) d_T_type_10 ⟨hc1, hs6⟩) (fun ce q9 H1 hz1 hk1 hce1 hv1 hcl1 => ?_)
      exact tx_out hxt hlocks hz1 hk1 hce1 hv1 hcl1 (by decide) (by decide)
  · refine tx_call (vx_runS (As := [.int p0, .int (nI 1), .int (nI 5)]) (rest := []) ⟨hx, hb, hml, hown, hts⟩ (c_T_requireWithin_b l hlt p0 (nI 1) (nI 5) 1 5 (nI_toInt (by decide)) (nI_toInt (by decide)) a0) (cwS 3 hts (gw_S k_150 k_148 k_149 k_1) rfl rfl rfl (by decide +kernel) ⟨Nat.le_trans (Nat.le_of_ble_eq_true rfl) hfr, Nat.le_trans (Nat.le_of_ble_eq_true rfl) hlo⟩) ⟨px_blind, px_at hC (fun k q h => by simp at h) hT⟩ rfl rfl hl.1 rfl (lv_room (Nat.le_of_ble_eq_true rfl)) d_T_type_3 ⟨hc1, hs6⟩) (fun ce q9 H1 hz1 hk1 hce1 hv1 hcl1 => ?_)
    exact tx_out hxt hlocks hz1 hk1 hce1 hv1 hcl1 (by decide) (by decide)
set_option maxHeartbeats 4000000 in
set_option maxRecDepth 100000 in
theorem c_T_type_b2 (l : Launch) (hlt : l.stackTraces = false) {dC : Nat → ClassId} {dI : Nat → Nat → Nat} {cI cL cT : ClassId} {sa : Nat → Nat} (g ca : Nat → Nat) (F nt E : Nat) (a0 a1 a2 a3 a4 : Nat) (hF12 : F ≤ 12) (hn6 : nt ≤ 6) (ha0 : 1 ≤ a0 ∧ a0 ≤ 5) (ha1 : 1 ≤ a1 ∧ a1 ≤ 100) (ha2 : 0 ≤ a2 ∧ a2 ≤ 30) (ha3 : 0 ≤ a3 ∧ a3 ≤ 10) (ha4 : 1 ≤ a4 ∧ a4 ≤ 100000) (hbad : nt = 6) : vx_Met l y_T_type (Cond.code y_T_type b_T_type 7 (some .int) :: gw) ({ frames := 9, cells := 1, slots := 6, locals := 190 } : Room) (px dC dI cI cL cT sa [.ref (g 0), .int (nI a0), .int (nI a1), .int (nI a2), .int (nI a3), .int (nI a4)] [(g 0, .inr (5, [.ref (g 1), .ref (g 4), .int (nI nt), .ref (g 5), .ref (g 6), .ref (g 11)])), (g 1, .inr (0, [.ref (g 2), .ref (g 3), .int (nI F), .int (nI E)])), (g 4, .inl (cT, 6, .inr (.inr (.inr (.inr (tq ca nt))))))]) xQ (xX E_sta) 1 6 xF := by
  refine vx_ofW (cc := b_T_type) (maxL := 7) (ret := (some .int)) (by decide) rfl ?_
  intro p e s m args below meth c s₁ B hml hxt hv
  obtain ⟨rfl, hC, hP, hT⟩ := hv
  have hx := B.exec
  have hb := B.bytes
  have hts : ∀ w ∈ gw, w.before ([.ref (g 0), .int (nI a0), .int (nI a1), .int (nI a2), .int (nI a3), .int (nI a4)] : List Value).toArray s = true := fun w hw => atoms_spec (ws := Cond.code y_T_type b_T_type 7 (some .int) :: gw) B.pre w (List.mem_cons_of_mem _ hw)
  have hown : s.vm.findClass R_T = some m.cls := findClass_of_methodNamed B.named
  have hlocks := B.notSynchronized
  have hK := hC.1
  have hfr : 9 ≤ (headSpec (Cond.code y_T_type b_T_type 7 (some .int) :: gw) ({ frames := 9, cells := 1, slots := 6, locals := 190 } : Room)).room.frames := Nat.le_refl _
  have hlo : 190 ≤ (headSpec (Cond.code y_T_type b_T_type 7 (some .int) :: gw) ({ frames := 9, cells := 1, slots := 6, locals := 190 } : Room)).room.locals := Nat.le_refl _
  have hce : 0 ≤ (headSpec (Cond.code y_T_type b_T_type 7 (some .int) :: gw) ({ frames := 9, cells := 1, slots := 6, locals := 190 } : Room)).room.cells := Nat.zero_le _
  have hsl : 0 ≤ (headSpec (Cond.code y_T_type b_T_type 7 (some .int) :: gw) ({ frames := 9, cells := 1, slots := 6, locals := 190 } : Room)).room.slots := Nat.zero_le _
  have hc1 : 1 ≤ (headSpec (Cond.code y_T_type b_T_type 7 (some .int) :: gw) ({ frames := 9, cells := 1, slots := 6, locals := 190 } : Room)).room.cells := Nat.le_refl _
  have hs6 : 6 ≤ (headSpec (Cond.code y_T_type b_T_type 7 (some .int) :: gw) ({ frames := 9, cells := 1, slots := 6, locals := 190 } : Room)).room.slots := Nat.le_refl _
  have hl := lv_entry ([.ref (g 0), .int (nI a0), .int (nI a1), .int (nI a2), .int (nI a3), .int (nI a4)]) (n := 7) (Nat.le_of_ble_eq_true rfl)
  rw [lg_entry_eq]
  generalize (lg_sl ([.ref (g 0), .int (nI a0), .int (nI a1), .int (nI a2), .int (nI a3), .int (nI a4)]) ++ List.replicate (7 - (lg_sl ([.ref (g 0), .int (nI a0), .int (nI a1), .int (nI a2), .int (nI a3), .int (nI a4)])).length) Slot.unset).toArray = ls at hl ⊢
  have hl : lv_has ls 7 [(0, .ref (g 0)), (1, .int (nI a0)), (2, .int (nI a1)), (3, .int (nI a2)), (4, .int (nI a3)), (5, .int (nI a4))] := hl
  refine lv_iload_n hx hb d_T_type_0 rfl (lv_at hl 1 rfl) ?_
  refine lv_iconst (v := nI 1) hx hb d_T_type_1 (by decide) ?_
  refine lv_iconst (v := nI 5) hx hb d_T_type_2 (by decide) ?_
  refine ro_callv (va_runS (As := [.int (nI a0), .int (nI 1), .int (nI 5)]) (rest := []) ⟨hx, hb, hml, hown, hts⟩ (c_T_requireWithin l (nI a0) (nI 1) (nI 5) 1 5 (nI_toInt (by decide)) (nI_toInt (by decide)) (by rw [nI_toInt (by omega)]; omega)) (cwS 3 hts (gw_S k_150 k_148 k_149 k_1) rfl rfl rfl (by decide +kernel) ⟨Nat.le_trans (Nat.le_of_ble_eq_true rfl) hfr, Nat.le_trans (Nat.le_of_ble_eq_true rfl) hlo⟩) ⟨pr_blind, pr_at hC (fun k q h => by simp at h)⟩ rfl rfl hl.1 rfl (lv_room (Nat.le_of_ble_eq_true rfl)) d_T_type_3 ⟨hce, hsl⟩) ?_
  refine lv_iload_n hx hb d_T_type_6 rfl (lv_at hl 2 rfl) ?_
  refine lv_iconst (v := nI 1) hx hb d_T_type_7 (by decide) ?_
  refine lv_bipush (v := nI 100) hx hb d_T_type_8 (by decide) ?_
  refine ro_callv (va_runS (As := [.int (nI a1), .int (nI 1), .int (nI 100)]) (rest := []) ⟨hx, hb, hml, hown, hts⟩ (c_T_requireWithin l (nI a1) (nI 1) (nI 100) 1 100 (nI_toInt (by decide)) (nI_toInt (by decide)) (by rw [nI_toInt (by omega)]; omega)) (cwS 3 hts (gw_S k_150 k_148 k_149 k_1) rfl rfl rfl (by decide +kernel) ⟨Nat.le_trans (Nat.le_of_ble_eq_true rfl) hfr, Nat.le_trans (Nat.le_of_ble_eq_true rfl) hlo⟩) ⟨pr_blind, pr_at hC (fun k q h => by simp at h)⟩ rfl rfl hl.1 rfl (lv_room (Nat.le_of_ble_eq_true rfl)) d_T_type_10 ⟨hce, hsl⟩) ?_
  refine lv_iload_n hx hb d_T_type_13 rfl (lv_at hl 3 rfl) ?_
  refine lv_iconst (v := nI 0) hx hb d_T_type_14 (by decide) ?_
  refine lv_bipush (v := nI 30) hx hb d_T_type_15 (by decide) ?_
  refine ro_callv (va_runS (As := [.int (nI a2), .int (nI 0), .int (nI 30)]) (rest := []) ⟨hx, hb, hml, hown, hts⟩ (c_T_requireWithin l (nI a2) (nI 0) (nI 30) 0 30 (nI_toInt (by decide)) (nI_toInt (by decide)) (by rw [nI_toInt (by omega)]; omega)) (cwS 3 hts (gw_S k_150 k_148 k_149 k_1) rfl rfl rfl (by decide +kernel) ⟨Nat.le_trans (Nat.le_of_ble_eq_true rfl) hfr, Nat.le_trans (Nat.le_of_ble_eq_true rfl) hlo⟩) ⟨pr_blind, pr_at hC (fun k q h => by simp at h)⟩ rfl rfl hl.1 rfl (lv_room (Nat.le_of_ble_eq_true rfl)) d_T_type_17 ⟨hce, hsl⟩) ?_
  refine lv_iload hx hb d_T_type_20 (lv_at hl 4 rfl) ?_
  refine lv_iconst (v := nI 0) hx hb d_T_type_22 (by decide) ?_
  refine lv_bipush (v := nI 10) hx hb d_T_type_23 (by decide) ?_
  refine ro_callv (va_runS (As := [.int (nI a3), .int (nI 0), .int (nI 10)]) (rest := []) ⟨hx, hb, hml, hown, hts⟩ (c_T_requireWithin l (nI a3) (nI 0) (nI 10) 0 10 (nI_toInt (by decide)) (nI_toInt (by decide)) (by rw [nI_toInt (by omega)]; omega)) (cwS 3 hts (gw_S k_150 k_148 k_149 k_1) rfl rfl rfl (by decide +kernel) ⟨Nat.le_trans (Nat.le_of_ble_eq_true rfl) hfr, Nat.le_trans (Nat.le_of_ble_eq_true rfl) hlo⟩) ⟨pr_blind, pr_at hC (fun k q h => by simp at h)⟩ rfl rfl hl.1 rfl (lv_room (Nat.le_of_ble_eq_true rfl)) d_T_type_25 ⟨hce, hsl⟩) ?_
  refine lv_iload hx hb d_T_type_28 (lv_at hl 5 rfl) ?_
  refine lv_iconst (v := nI 1) hx hb d_T_type_30 (by decide) ?_
  refine lv_ldc (v := nI 100000) hx hb hown (hts _ k_261) d_T_type_31 ?_
  refine ro_callv (va_runS (As := [.int (nI a4), .int (nI 1), .int (nI 100000)]) (rest := []) ⟨hx, hb, hml, hown, hts⟩ (c_T_requireWithin l (nI a4) (nI 1) (nI 100000) 1 100000 (nI_toInt (by decide)) (nI_toInt (by decide)) (by rw [nI_toInt (by omega)]; omega)) (cwS 3 hts (gw_S k_150 k_148 k_149 k_1) rfl rfl rfl (by decide +kernel) ⟨Nat.le_trans (Nat.le_of_ble_eq_true rfl) hfr, Nat.le_trans (Nat.le_of_ble_eq_true rfl) hlo⟩) ⟨pr_blind, pr_at hC (fun k q h => by simp at h)⟩ rfl rfl hl.1 rfl (lv_room (Nat.le_of_ble_eq_true rfl)) d_T_type_33 ⟨hce, hsl⟩) ?_
  refine lv_aload_n hx hb d_T_type_36 rfl (lv_at hl 0 rfl) ?_
  refine va_get (D := (dC, dI)) (ci := 5) (v := .int (nI nt)) (C := R_T) (T := F_T) (N := 6) hx hb hts i_T hown hK hP 0 rfl rfl 2 (by decide) (hts _ k_122) (fun _ h9 => h9) rfl d_T_type_37 ?_
  refine lv_istore (lv' := [(6, .int (nI nt)), (0, .ref (g 0)), (1, .int (nI a0)), (2, .int (nI a1)), (3, .int (nI a2)), (4, .int (nI a3)), (5, .int (nI a4))]) hx hb d_T_type_40 hl (by decide) rfl (fun ls hl => ?_)
  refine lv_iload hx hb d_T_type_42 (lv_at hl 0 rfl) ?_
  refine lv_bipush (v := nI 6) hx hb d_T_type_44 (by decide) ?_
  refine nx_icmp_lt (tgt := 59) hx hb d_T_type_46 (by decide) (by omega) (by omega) (fun h1 => ?_) (fun h1 => ?_)
  · exact absurd h1 (by omega)
  · exact vx_throwS hx hb hlt hown xs_fit xn_fit (hts _ k_218) (hts _ k_11) (hC.2.2.1 (80, "there are 6 types") (by simp [ct_str])) (xs_hat hts hC) xs_ot hT.1 hT.2 va_S.rf (hl.1.trans hml.symm) d_T_type_49 d_T_type_52 d_T_type_53 d_T_type_55 d_T_type_58 (fun x hx => (hxt x hx).elim) (Nat.le_trans (Nat.le_of_ble_eq_true rfl) hfr) (Nat.le_trans (Nat.le_of_ble_eq_true rfl) hlo) hc1 hs6 hlocks (fun t _ h1 h2 => ⟨rfl, h1, fun q h _ => h2 q h⟩) (fun z hz => by cases hz) (by decide) (by decide)
set_option maxHeartbeats 4000000 in
set_option maxRecDepth 100000 in
theorem c_T_countOdds_b (l : Launch) (hlt : l.stackTraces = false) {dC : Nat → ClassId} {dI : Nat → Nat → Nat} {cI cL cT : ClassId} {sa : Nat → Nat} (g ca : Nat → Nat) (F nt E : Nat) (p0 p1 p2 p3 : Int32) (hF12 : F ≤ 12) (hn6 : nt ≤ 6) (hbad : ¬ ((okTy nt p0 ∧ okFl F p1 ∧ okFl F p2 ∧ p1.toInt ≤ p2.toInt) ∧ (0 ≤ p3.toInt ∧ p3.toInt ≤ 1))) : vx_Met l y_T_countOdds (Cond.code y_T_countOdds b_T_countOdds 6 (some (.object "RoundTrips$CarType")) :: gw) ({ frames := 8, cells := 1, slots := 6, locals := 150 } : Room) (px dC dI cI cL cT sa [.ref (g 0), .int p0, .int p1, .int p2, .int p3] [(g 0, .inr (5, [.ref (g 1), .ref (g 4), .int (nI nt), .ref (g 5), .ref (g 6), .ref (g 11)])), (g 1, .inr (0, [.ref (g 2), .ref (g 3), .int (nI F), .int (nI E)])), (g 4, .inl (cT, 6, .inr (.inr (.inr (.inr (tq ca nt))))))]) xQ (xX E_arg) 1 6 xF := by
  refine vx_ofW (cc := b_T_countOdds) (maxL := 6) (ret := (some (.object "RoundTrips$CarType"))) (by decide) rfl ?_
  intro p e s m args below meth c s₁ B hml hxt hv
  obtain ⟨rfl, hC, hP, hT⟩ := hv
  have hx := B.exec
  have hb := B.bytes
  have hts : ∀ w ∈ gw, w.before ([.ref (g 0), .int p0, .int p1, .int p2, .int p3] : List Value).toArray s = true := fun w hw => atoms_spec (ws := Cond.code y_T_countOdds b_T_countOdds 6 (some (.object "RoundTrips$CarType")) :: gw) B.pre w (List.mem_cons_of_mem _ hw)
  have hown : s.vm.findClass R_T = some m.cls := findClass_of_methodNamed B.named
  have hlocks := B.notSynchronized
  have hK := hC.1
  have hfr : 8 ≤ (headSpec (Cond.code y_T_countOdds b_T_countOdds 6 (some (.object "RoundTrips$CarType")) :: gw) ({ frames := 8, cells := 1, slots := 6, locals := 150 } : Room)).room.frames := Nat.le_refl _
  have hlo : 150 ≤ (headSpec (Cond.code y_T_countOdds b_T_countOdds 6 (some (.object "RoundTrips$CarType")) :: gw) ({ frames := 8, cells := 1, slots := 6, locals := 150 } : Room)).room.locals := Nat.le_refl _
  have hce : 0 ≤ (headSpec (Cond.code y_T_countOdds b_T_countOdds 6 (some (.object "RoundTrips$CarType")) :: gw) ({ frames := 8, cells := 1, slots := 6, locals := 150 } : Room)).room.cells := Nat.zero_le _
  have hsl : 0 ≤ (headSpec (Cond.code y_T_countOdds b_T_countOdds 6 (some (.object "RoundTrips$CarType")) :: gw) ({ frames := 8, cells := 1, slots := 6, locals := 150 } : Room)).room.slots := Nat.zero_le _
  have hc1 : 1 ≤ (headSpec (Cond.code y_T_countOdds b_T_countOdds 6 (some (.object "RoundTrips$CarType")) :: gw) ({ frames := 8, cells := 1, slots := 6, locals := 150 } : Room)).room.cells := Nat.le_refl _
  have hs6 : 6 ≤ (headSpec (Cond.code y_T_countOdds b_T_countOdds 6 (some (.object "RoundTrips$CarType")) :: gw) ({ frames := 8, cells := 1, slots := 6, locals := 150 } : Room)).room.slots := Nat.le_refl _
  have hl := lv_entry ([.ref (g 0), .int p0, .int p1, .int p2, .int p3]) (n := 6) (Nat.le_of_ble_eq_true rfl)
  rw [lg_entry_eq]
  generalize (lg_sl ([.ref (g 0), .int p0, .int p1, .int p2, .int p3]) ++ List.replicate (6 - (lg_sl ([.ref (g 0), .int p0, .int p1, .int p2, .int p3])).length) Slot.unset).toArray = ls at hl ⊢
  have hl : lv_has ls 6 [(0, .ref (g 0)), (1, .int p0), (2, .int p1), (3, .int p2), (4, .int p3)] := hl
  refine lv_aload_n hx hb d_T_countOdds_0 rfl (lv_at hl 0 rfl) ?_
  refine lv_iload_n hx hb d_T_countOdds_1 rfl (lv_at hl 1 rfl) ?_
  by_cases a0 : okTy nt p0
  · obtain ⟨k0, hk0, ek0⟩ := okTy_ex hn6 a0
    subst ek0
    refine ro_callr (va_runV (As := [.int (nI k0)]) (rest := []) ⟨hx, hb, hml, hown, hts⟩ (c_T_requireType l g ca nt k0 hn6 hk0) (cwV 1 hts (gw_V k_305 k_302 k_304 ks_T_requireType k_1) rfl rfl rfl (by decide +kernel) ⟨Nat.le_trans (Nat.le_of_ble_eq_true rfl) hfr, Nat.le_trans (Nat.le_of_ble_eq_true rfl) hlo⟩) ⟨pr_blind, va_recv hK hP (ci := 5) (q0 := 0) rfl rfl, pr_at hC (hP.sub (ws' := [(g 0, .inr (5, [.ref (g 1), .ref (g 4), .int (nI nt), .ref (g 5), .ref (g 6), .ref (g 11)])), (g 4, .inl (cT, 6, .inr (.inr (.inr (.inr (tq ca nt))))))]) [0, 2] rfl)⟩ rfl rfl hl.1 rfl (lv_room (Nat.le_of_ble_eq_true rfl)) d_T_countOdds_2 ⟨hce, hsl⟩) ?_
    refine lv_astore (lv' := [(5, .ref (ca k0)), (0, .ref (g 0)), (1, .int (nI k0)), (2, .int p1), (3, .int p2), (4, .int p3)]) hx hb d_T_countOdds_5 hl (by decide) rfl (fun ls hl => ?_)
    refine lv_aload_n hx hb d_T_countOdds_7 rfl (lv_at hl 1 rfl) ?_
    refine lv_iload_n hx hb d_T_countOdds_8 rfl (lv_at hl 3 rfl) ?_
    refine lv_iload_n hx hb d_T_countOdds_9 rfl (lv_at hl 4 rfl) ?_
    by_cases a1 : okFl F p1 ∧ okFl F p2 ∧ p1.toInt ≤ p2.toInt
    · refine ro_callv (va_runV (As := [.int p1, .int p2]) (rest := []) ⟨hx, hb, hml, hown, hts⟩ (c_T_requireZone l g F nt E p1 p2 hF12 a1) (cwV 2 hts (gw_V k_310 k_307 k_309 ks_T_requireZone k_1) rfl rfl rfl (by decide +kernel) ⟨Nat.le_trans (Nat.le_of_ble_eq_true rfl) hfr, Nat.le_trans (Nat.le_of_ble_eq_true rfl) hlo⟩) ⟨pr_blind, va_recv hK hP (ci := 5) (q0 := 0) rfl rfl, pr_at hC (hP.sub (ws' := [(g 0, .inr (5, [.ref (g 1), .ref (g 4), .int (nI nt), .ref (g 5), .ref (g 6), .ref (g 11)])), (g 1, .inr (0, [.ref (g 2), .ref (g 3), .int (nI F), .int (nI E)]))]) [0, 1] rfl)⟩ rfl rfl hl.1 rfl (lv_room (Nat.le_of_ble_eq_true rfl)) d_T_countOdds_10 ⟨hce, hsl⟩) ?_
      refine lv_iload hx hb d_T_countOdds_13 (lv_at hl 5 rfl) ?_
      refine lv_iconst (v := nI 0) hx hb d_T_countOdds_15 (by decide) ?_
      refine lv_iconst (v := nI 1) hx hb d_T_countOdds_16 (by decide) ?_
      refine tx_call (vx_runS (As := [.int p3, .int (nI 0), .int (nI 1)]) (rest := []) ⟨hx, hb, hml, hown, hts⟩ (c_T_requireWithin_b l hlt p3 (nI 0) (nI 1) 0 1 (nI_toInt (by decide)) (nI_toInt (by decide)) (fun a2 => hbad ⟨⟨a0, a1⟩, a2⟩)) (cwS 3 hts (gw_S k_150 k_148 k_149 k_1) rfl rfl rfl (by decide +kernel) ⟨Nat.le_trans (Nat.le_of_ble_eq_true rfl) hfr, Nat.le_trans (Nat.le_of_ble_eq_true rfl) hlo⟩) ⟨px_blind, px_at hC (fun k q h => by simp at h) hT⟩ rfl rfl hl.1 rfl (lv_room (Nat.le_of_ble_eq_true rfl)) d_T_countOdds_17 ⟨hc1, hs6⟩) (fun ce q9 H1 hz1 hk1 hce1 hv1 hcl1 => ?_)
      exact tx_out hxt hlocks hz1 hk1 hce1 hv1 hcl1 (by decide) (by decide)
    · refine tx_call (vx_runV (As := [.int p1, .int p2]) (rest := []) ⟨hx, hb, hml, hown, hts⟩ (c_T_requireZone_b l hlt g F nt E p1 p2 hF12 a1) (cwV 2 hts (gw_V k_310 k_307 k_309 ks_T_requireZone k_1) rfl rfl rfl (by decide +kernel) ⟨Nat.le_trans (Nat.le_of_ble_eq_true rfl) hfr, Nat.le_trans (Nat.le_of_ble_eq_true rfl) hlo⟩) ⟨px_blind, va_recv hK hP (ci := 5) (q0 := 0) rfl rfl, px_at hC (hP.sub (ws' := [(g 0, .inr (5, [.ref (g 1), .ref (g 4), .int (nI nt), .ref (g 5), .ref (g 6), .ref (g 11)])), (g 1, .inr (0, [.ref (g 2), .ref (g 3), .int (nI F), .int (nI E)]))]) [0, 1] rfl) hT⟩ rfl rfl hl.1 rfl (lv_room (Nat.le_of_ble_eq_true rfl)) d_T_countOdds_10 ⟨hc1, hs6⟩) (fun ce q9 H1 hz1 hk1 hce1 hv1 hcl1 => ?_)
      exact tx_out hxt hlocks hz1 hk1 hce1 hv1 hcl1 (by decide) (by decide)
  · refine tx_call (vx_runV (As := [.int p0]) (rest := []) ⟨hx, hb, hml, hown, hts⟩ (c_T_requireType_b l hlt g ca nt p0 hn6 a0) (cwV 1 hts (gw_V k_305 k_302 k_304 ks_T_requireType k_1) rfl rfl rfl (by decide +kernel) ⟨Nat.le_trans (Nat.le_of_ble_eq_true rfl) hfr, Nat.le_trans (Nat.le_of_ble_eq_true rfl) hlo⟩) ⟨px_blind, va_recv hK hP (ci := 5) (q0 := 0) rfl rfl, px_at hC (hP.sub (ws' := [(g 0, .inr (5, [.ref (g 1), .ref (g 4), .int (nI nt), .ref (g 5), .ref (g 6), .ref (g 11)])), (g 4, .inl (cT, 6, .inr (.inr (.inr (.inr (tq ca nt))))))]) [0, 2] rfl) hT⟩ rfl rfl hl.1 rfl (lv_room (Nat.le_of_ble_eq_true rfl)) d_T_countOdds_2 ⟨hc1, hs6⟩) (fun ce q9 H1 hz1 hk1 hce1 hv1 hcl1 => ?_)
    exact tx_out hxt hlocks hz1 hk1 hce1 hv1 hcl1 (by decide) (by decide)
set_option maxHeartbeats 4000000 in
set_option maxRecDepth 100000 in
theorem c_T_stops_b1 (l : Launch) (hlt : l.stackTraces = false) {dC : Nat → ClassId} {dI : Nat → Nat → Nat} {cI cL cT : ClassId} {sa : Nat → Nat} (g ca : Nat → Nat) (F nt E : Nat) (p0 p1 p2 p3 : Int32) (hF12 : F ≤ 12) (hn6 : nt ≤ 6) (hbad : ¬ ((okTy nt p0 ∧ okFl F p1 ∧ okFl F p2 ∧ p1.toInt ≤ p2.toInt) ∧ (0 ≤ p3.toInt ∧ p3.toInt ≤ 1))) : vx_Met l y_T_stops (Cond.code y_T_stops b_T_stops 5 (some .long) :: gw) ({ frames := 9, cells := 1, slots := 6, locals := 190 } : Room) (px dC dI cI cL cT sa [.ref (g 0), .int p0, .int p1, .int p2, .int p3] [(g 0, .inr (5, [.ref (g 1), .ref (g 4), .int (nI nt), .ref (g 5), .ref (g 6), .ref (g 11)])), (g 1, .inr (0, [.ref (g 2), .ref (g 3), .int (nI F), .int (nI E)])), (g 4, .inl (cT, 6, .inr (.inr (.inr (.inr (tq ca nt))))))]) xQ (xX E_arg) 1 6 xF := by
  refine vx_ofW (cc := b_T_stops) (maxL := 5) (ret := (some .long)) (by decide) rfl ?_
  intro p e s m args below meth c s₁ B hml hxt hv
  obtain ⟨rfl, hC, hP, hT⟩ := hv
  have hx := B.exec
  have hb := B.bytes
  have hts : ∀ w ∈ gw, w.before ([.ref (g 0), .int p0, .int p1, .int p2, .int p3] : List Value).toArray s = true := fun w hw => atoms_spec (ws := Cond.code y_T_stops b_T_stops 5 (some .long) :: gw) B.pre w (List.mem_cons_of_mem _ hw)
  have hown : s.vm.findClass R_T = some m.cls := findClass_of_methodNamed B.named
  have hlocks := B.notSynchronized
  have hK := hC.1
  have hfr : 9 ≤ (headSpec (Cond.code y_T_stops b_T_stops 5 (some .long) :: gw) ({ frames := 9, cells := 1, slots := 6, locals := 190 } : Room)).room.frames := Nat.le_refl _
  have hlo : 190 ≤ (headSpec (Cond.code y_T_stops b_T_stops 5 (some .long) :: gw) ({ frames := 9, cells := 1, slots := 6, locals := 190 } : Room)).room.locals := Nat.le_refl _
  have hce : 0 ≤ (headSpec (Cond.code y_T_stops b_T_stops 5 (some .long) :: gw) ({ frames := 9, cells := 1, slots := 6, locals := 190 } : Room)).room.cells := Nat.zero_le _
  have hsl : 0 ≤ (headSpec (Cond.code y_T_stops b_T_stops 5 (some .long) :: gw) ({ frames := 9, cells := 1, slots := 6, locals := 190 } : Room)).room.slots := Nat.zero_le _
  have hc1 : 1 ≤ (headSpec (Cond.code y_T_stops b_T_stops 5 (some .long) :: gw) ({ frames := 9, cells := 1, slots := 6, locals := 190 } : Room)).room.cells := Nat.le_refl _
  have hs6 : 6 ≤ (headSpec (Cond.code y_T_stops b_T_stops 5 (some .long) :: gw) ({ frames := 9, cells := 1, slots := 6, locals := 190 } : Room)).room.slots := Nat.le_refl _
  have hl := lv_entry ([.ref (g 0), .int p0, .int p1, .int p2, .int p3]) (n := 5) (Nat.le_of_ble_eq_true rfl)
  rw [lg_entry_eq]
  generalize (lg_sl ([.ref (g 0), .int p0, .int p1, .int p2, .int p3]) ++ List.replicate (5 - (lg_sl ([.ref (g 0), .int p0, .int p1, .int p2, .int p3])).length) Slot.unset).toArray = ls at hl ⊢
  have hl : lv_has ls 5 [(0, .ref (g 0)), (1, .int p0), (2, .int p1), (3, .int p2), (4, .int p3)] := hl
  refine lv_aload_n hx hb d_T_stops_0 rfl (lv_at hl 0 rfl) ?_
  refine lv_iload_n hx hb d_T_stops_1 rfl (lv_at hl 1 rfl) ?_
  refine lv_iload_n hx hb d_T_stops_2 rfl (lv_at hl 2 rfl) ?_
  refine lv_iload_n hx hb d_T_stops_3 rfl (lv_at hl 3 rfl) ?_
  refine lv_iload hx hb d_T_stops_4 (lv_at hl 4 rfl) ?_
  refine tx_call (vx_runV (As := [.int p0, .int p1, .int p2, .int p3]) (rest := []) ⟨hx, hb, hml, hown, hts⟩ (c_T_countOdds_b l hlt g ca F nt E p0 p1 p2 p3 hF12 hn6 hbad) (cwV 4 hts (gw_V k_301 k_298 k_300 ks_T_countOdds k_1) rfl rfl rfl (by decide +kernel) ⟨Nat.le_trans (Nat.le_of_ble_eq_true rfl) hfr, Nat.le_trans (Nat.le_of_ble_eq_true rfl) hlo⟩) ⟨px_blind, va_recv hK hP (ci := 5) (q0 := 0) rfl rfl, px_at hC (hP.sub (ws' := [(g 0, .inr (5, [.ref (g 1), .ref (g 4), .int (nI nt), .ref (g 5), .ref (g 6), .ref (g 11)])), (g 1, .inr (0, [.ref (g 2), .ref (g 3), .int (nI F), .int (nI E)])), (g 4, .inl (cT, 6, .inr (.inr (.inr (.inr (tq ca nt))))))]) [0, 1, 2] rfl) hT⟩ rfl rfl hl.1 rfl (lv_room (Nat.le_of_ble_eq_true rfl)) d_T_stops_6 ⟨hc1, hs6⟩) (fun ce q9 H1 hz1 hk1 hce1 hv1 hcl1 => ?_)
  exact tx_out hxt hlocks hz1 hk1 hce1 hv1 hcl1 (by decide) (by decide)
set_option maxHeartbeats 4000000 in
set_option maxRecDepth 100000 in
theorem c_T_highest_b1 (l : Launch) (hlt : l.stackTraces = false) {dC : Nat → ClassId} {dI : Nat → Nat → Nat} {cI cL cT : ClassId} {sa : Nat → Nat} (g ca : Nat → Nat) (F nt E : Nat) (p0 p1 p2 p3 : Int32) (hF12 : F ≤ 12) (hn6 : nt ≤ 6) (hbad : ¬ ((okTy nt p0 ∧ okFl F p1 ∧ okFl F p2 ∧ p1.toInt ≤ p2.toInt) ∧ (0 ≤ p3.toInt ∧ p3.toInt ≤ 1))) : vx_Met l y_T_highest (Cond.code y_T_highest b_T_highest 5 (some .long) :: gw) ({ frames := 9, cells := 1, slots := 6, locals := 190 } : Room) (px dC dI cI cL cT sa [.ref (g 0), .int p0, .int p1, .int p2, .int p3] [(g 0, .inr (5, [.ref (g 1), .ref (g 4), .int (nI nt), .ref (g 5), .ref (g 6), .ref (g 11)])), (g 1, .inr (0, [.ref (g 2), .ref (g 3), .int (nI F), .int (nI E)])), (g 4, .inl (cT, 6, .inr (.inr (.inr (.inr (tq ca nt))))))]) xQ (xX E_arg) 1 6 xF := by
  refine vx_ofW (cc := b_T_highest) (maxL := 5) (ret := (some .long)) (by decide) rfl ?_
  intro p e s m args below meth c s₁ B hml hxt hv
  obtain ⟨rfl, hC, hP, hT⟩ := hv
  have hx := B.exec
  have hb := B.bytes
  have hts : ∀ w ∈ gw, w.before ([.ref (g 0), .int p0, .int p1, .int p2, .int p3] : List Value).toArray s = true := fun w hw => atoms_spec (ws := Cond.code y_T_highest b_T_highest 5 (some .long) :: gw) B.pre w (List.mem_cons_of_mem _ hw)
  have hown : s.vm.findClass R_T = some m.cls := findClass_of_methodNamed B.named
  have hlocks := B.notSynchronized
  have hK := hC.1
  have hfr : 9 ≤ (headSpec (Cond.code y_T_highest b_T_highest 5 (some .long) :: gw) ({ frames := 9, cells := 1, slots := 6, locals := 190 } : Room)).room.frames := Nat.le_refl _
  have hlo : 190 ≤ (headSpec (Cond.code y_T_highest b_T_highest 5 (some .long) :: gw) ({ frames := 9, cells := 1, slots := 6, locals := 190 } : Room)).room.locals := Nat.le_refl _
  have hce : 0 ≤ (headSpec (Cond.code y_T_highest b_T_highest 5 (some .long) :: gw) ({ frames := 9, cells := 1, slots := 6, locals := 190 } : Room)).room.cells := Nat.zero_le _
  have hsl : 0 ≤ (headSpec (Cond.code y_T_highest b_T_highest 5 (some .long) :: gw) ({ frames := 9, cells := 1, slots := 6, locals := 190 } : Room)).room.slots := Nat.zero_le _
  have hc1 : 1 ≤ (headSpec (Cond.code y_T_highest b_T_highest 5 (some .long) :: gw) ({ frames := 9, cells := 1, slots := 6, locals := 190 } : Room)).room.cells := Nat.le_refl _
  have hs6 : 6 ≤ (headSpec (Cond.code y_T_highest b_T_highest 5 (some .long) :: gw) ({ frames := 9, cells := 1, slots := 6, locals := 190 } : Room)).room.slots := Nat.le_refl _
  have hl := lv_entry ([.ref (g 0), .int p0, .int p1, .int p2, .int p3]) (n := 5) (Nat.le_of_ble_eq_true rfl)
  rw [lg_entry_eq]
  generalize (lg_sl ([.ref (g 0), .int p0, .int p1, .int p2, .int p3]) ++ List.replicate (5 - (lg_sl ([.ref (g 0), .int p0, .int p1, .int p2, .int p3])).length) Slot.unset).toArray = ls at hl ⊢
  have hl : lv_has ls 5 [(0, .ref (g 0)), (1, .int p0), (2, .int p1), (3, .int p2), (4, .int p3)] := hl
  refine lv_aload_n hx hb d_T_highest_0 rfl (lv_at hl 0 rfl) ?_
  refine lv_iload_n hx hb d_T_highest_1 rfl (lv_at hl 1 rfl) ?_
  refine lv_iload_n hx hb d_T_highest_2 rfl (lv_at hl 2 rfl) ?_
  refine lv_iload_n hx hb d_T_highest_3 rfl (lv_at hl 3 rfl) ?_
  refine lv_iload hx hb d_T_highest_4 (lv_at hl 4 rfl) ?_
  refine tx_call (vx_runV (As := [.int p0, .int p1, .int p2, .int p3]) (rest := []) ⟨hx, hb, hml, hown, hts⟩ (c_T_countOdds_b l hlt g ca F nt E p0 p1 p2 p3 hF12 hn6 hbad) (cwV 4 hts (gw_V k_301 k_298 k_300 ks_T_countOdds k_1) rfl rfl rfl (by decide +kernel) ⟨Nat.le_trans (Nat.le_of_ble_eq_true rfl) hfr, Nat.le_trans (Nat.le_of_ble_eq_true rfl) hlo⟩) ⟨px_blind, va_recv hK hP (ci := 5) (q0 := 0) rfl rfl, px_at hC (hP.sub (ws' := [(g 0, .inr (5, [.ref (g 1), .ref (g 4), .int (nI nt), .ref (g 5), .ref (g 6), .ref (g 11)])), (g 1, .inr (0, [.ref (g 2), .ref (g 3), .int (nI F), .int (nI E)])), (g 4, .inl (cT, 6, .inr (.inr (.inr (.inr (tq ca nt))))))]) [0, 1, 2] rfl) hT⟩ rfl rfl hl.1 rfl (lv_room (Nat.le_of_ble_eq_true rfl)) d_T_highest_6 ⟨hc1, hs6⟩) (fun ce q9 H1 hz1 hk1 hce1 hv1 hcl1 => ?_)
  exact tx_out hxt hlocks hz1 hk1 hce1 hv1 hcl1 (by decide) (by decide)
set_option maxHeartbeats 4000000 in
set_option maxRecDepth 100000 in
theorem c_T_trip_b1 (l : Launch) (hlt : l.stackTraces = false) {dC : Nat → ClassId} {dI : Nat → Nat → Nat} {cI cL cT : ClassId} {sa : Nat → Nat} (g ca : Nat → Nat) (F nt E : Nat) (p0 p1 p2 p3 : Int32) (hF12 : F ≤ 12) (hn6 : nt ≤ 6) (hbad : ¬ ((okTy nt p0 ∧ okFl F p1 ∧ okFl F p2 ∧ p1.toInt ≤ p2.toInt) ∧ (0 ≤ p3.toInt ∧ p3.toInt ≤ 1))) : vx_Met l y_T_trip (Cond.code y_T_trip b_T_trip 6 (some .long) :: gw) ({ frames := 9, cells := 1, slots := 6, locals := 190 } : Room) (px dC dI cI cL cT sa [.ref (g 0), .int p0, .int p1, .int p2, .int p3] [(g 0, .inr (5, [.ref (g 1), .ref (g 4), .int (nI nt), .ref (g 5), .ref (g 6), .ref (g 11)])), (g 1, .inr (0, [.ref (g 2), .ref (g 3), .int (nI F), .int (nI E)])), (g 4, .inl (cT, 6, .inr (.inr (.inr (.inr (tq ca nt))))))]) xQ (xX E_arg) 1 6 xF := by
  refine vx_ofW (cc := b_T_trip) (maxL := 6) (ret := (some .long)) (by decide) rfl ?_
  intro p e s m args below meth c s₁ B hml hxt hv
  obtain ⟨rfl, hC, hP, hT⟩ := hv
  have hx := B.exec
  have hb := B.bytes
  have hts : ∀ w ∈ gw, w.before ([.ref (g 0), .int p0, .int p1, .int p2, .int p3] : List Value).toArray s = true := fun w hw => atoms_spec (ws := Cond.code y_T_trip b_T_trip 6 (some .long) :: gw) B.pre w (List.mem_cons_of_mem _ hw)
  have hown : s.vm.findClass R_T = some m.cls := findClass_of_methodNamed B.named
  have hlocks := B.notSynchronized
  have hK := hC.1
  have hfr : 9 ≤ (headSpec (Cond.code y_T_trip b_T_trip 6 (some .long) :: gw) ({ frames := 9, cells := 1, slots := 6, locals := 190 } : Room)).room.frames := Nat.le_refl _
  have hlo : 190 ≤ (headSpec (Cond.code y_T_trip b_T_trip 6 (some .long) :: gw) ({ frames := 9, cells := 1, slots := 6, locals := 190 } : Room)).room.locals := Nat.le_refl _
  have hce : 0 ≤ (headSpec (Cond.code y_T_trip b_T_trip 6 (some .long) :: gw) ({ frames := 9, cells := 1, slots := 6, locals := 190 } : Room)).room.cells := Nat.zero_le _
  have hsl : 0 ≤ (headSpec (Cond.code y_T_trip b_T_trip 6 (some .long) :: gw) ({ frames := 9, cells := 1, slots := 6, locals := 190 } : Room)).room.slots := Nat.zero_le _
  have hc1 : 1 ≤ (headSpec (Cond.code y_T_trip b_T_trip 6 (some .long) :: gw) ({ frames := 9, cells := 1, slots := 6, locals := 190 } : Room)).room.cells := Nat.le_refl _
  have hs6 : 6 ≤ (headSpec (Cond.code y_T_trip b_T_trip 6 (some .long) :: gw) ({ frames := 9, cells := 1, slots := 6, locals := 190 } : Room)).room.slots := Nat.le_refl _
  have hl := lv_entry ([.ref (g 0), .int p0, .int p1, .int p2, .int p3]) (n := 6) (Nat.le_of_ble_eq_true rfl)
  rw [lg_entry_eq]
  generalize (lg_sl ([.ref (g 0), .int p0, .int p1, .int p2, .int p3]) ++ List.replicate (6 - (lg_sl ([.ref (g 0), .int p0, .int p1, .int p2, .int p3])).length) Slot.unset).toArray = ls at hl ⊢
  have hl : lv_has ls 6 [(0, .ref (g 0)), (1, .int p0), (2, .int p1), (3, .int p2), (4, .int p3)] := hl
  refine lv_aload_n hx hb d_T_trip_0 rfl (lv_at hl 0 rfl) ?_
  refine lv_iload_n hx hb d_T_trip_1 rfl (lv_at hl 1 rfl) ?_
  refine lv_iload_n hx hb d_T_trip_2 rfl (lv_at hl 2 rfl) ?_
  refine lv_iload_n hx hb d_T_trip_3 rfl (lv_at hl 3 rfl) ?_
  refine lv_iload hx hb d_T_trip_4 (lv_at hl 4 rfl) ?_
  refine tx_call (vx_runV (As := [.int p0, .int p1, .int p2, .int p3]) (rest := []) ⟨hx, hb, hml, hown, hts⟩ (c_T_countOdds_b l hlt g ca F nt E p0 p1 p2 p3 hF12 hn6 hbad) (cwV 4 hts (gw_V k_301 k_298 k_300 ks_T_countOdds k_1) rfl rfl rfl (by decide +kernel) ⟨Nat.le_trans (Nat.le_of_ble_eq_true rfl) hfr, Nat.le_trans (Nat.le_of_ble_eq_true rfl) hlo⟩) ⟨px_blind, va_recv hK hP (ci := 5) (q0 := 0) rfl rfl, px_at hC (hP.sub (ws' := [(g 0, .inr (5, [.ref (g 1), .ref (g 4), .int (nI nt), .ref (g 5), .ref (g 6), .ref (g 11)])), (g 1, .inr (0, [.ref (g 2), .ref (g 3), .int (nI F), .int (nI E)])), (g 4, .inl (cT, 6, .inr (.inr (.inr (.inr (tq ca nt))))))]) [0, 1, 2] rfl) hT⟩ rfl rfl hl.1 rfl (lv_room (Nat.le_of_ble_eq_true rfl)) d_T_trip_6 ⟨hc1, hs6⟩) (fun ce q9 H1 hz1 hk1 hce1 hv1 hcl1 => ?_)
  exact tx_out hxt hlocks hz1 hk1 hce1 hv1 hcl1 (by decide) (by decide)
set_option maxHeartbeats 4000000 in
set_option maxRecDepth 100000 in
theorem c_T_compare_b1 (l : Launch) (hlt : l.stackTraces = false) {dC : Nat → ClassId} {dI : Nat → Nat → Nat} {cI cL cT : ClassId} {sa : Nat → Nat} (g ca : Nat → Nat) (F nt E : Nat) (p0 p1 p2 p3 : Int32) (hF12 : F ≤ 12) (hn6 : nt ≤ 6) (hbad : ¬ (okTy nt p0 ∧ okTy nt p1 ∧ okFl F p2 ∧ okFl F p3 ∧ p2.toInt ≤ p3.toInt)) : vx_Met l y_T_compare (Cond.code y_T_compare b_T_compare 11 (some .int) :: gw) ({ frames := 9, cells := 1, slots := 6, locals := 190 } : Room) (px dC dI cI cL cT sa [.ref (g 0), .int p0, .int p1, .int p2, .int p3] [(g 0, .inr (5, [.ref (g 1), .ref (g 4), .int (nI nt), .ref (g 5), .ref (g 6), .ref (g 11)])), (g 1, .inr (0, [.ref (g 2), .ref (g 3), .int (nI F), .int (nI E)])), (g 4, .inl (cT, 6, .inr (.inr (.inr (.inr (tq ca nt))))))]) xQ (xX E_arg) 1 6 xF := by
  refine vx_ofW (cc := b_T_compare) (maxL := 11) (ret := (some .int)) (by decide) rfl ?_
  intro p e s m args below meth c s₁ B hml hxt hv
  obtain ⟨rfl, hC, hP, hT⟩ := hv
  have hx := B.exec
  have hb := B.bytes
  have hts : ∀ w ∈ gw, w.before ([.ref (g 0), .int p0, .int p1, .int p2, .int p3] : List Value).toArray s = true := fun w hw => atoms_spec (ws := Cond.code y_T_compare b_T_compare 11 (some .int) :: gw) B.pre w (List.mem_cons_of_mem _ hw)
  have hown : s.vm.findClass R_T = some m.cls := findClass_of_methodNamed B.named
  have hlocks := B.notSynchronized
  have hK := hC.1
  have hfr : 9 ≤ (headSpec (Cond.code y_T_compare b_T_compare 11 (some .int) :: gw) ({ frames := 9, cells := 1, slots := 6, locals := 190 } : Room)).room.frames := Nat.le_refl _
  have hlo : 190 ≤ (headSpec (Cond.code y_T_compare b_T_compare 11 (some .int) :: gw) ({ frames := 9, cells := 1, slots := 6, locals := 190 } : Room)).room.locals := Nat.le_refl _
  have hce : 0 ≤ (headSpec (Cond.code y_T_compare b_T_compare 11 (some .int) :: gw) ({ frames := 9, cells := 1, slots := 6, locals := 190 } : Room)).room.cells := Nat.zero_le _
  have hsl : 0 ≤ (headSpec (Cond.code y_T_compare b_T_compare 11 (some .int) :: gw) ({ frames := 9, cells := 1, slots := 6, locals := 190 } : Room)).room.slots := Nat.zero_le _
  have hc1 : 1 ≤ (headSpec (Cond.code y_T_compare b_T_compare 11 (some .int) :: gw) ({ frames := 9, cells := 1, slots := 6, locals := 190 } : Room)).room.cells := Nat.le_refl _
  have hs6 : 6 ≤ (headSpec (Cond.code y_T_compare b_T_compare 11 (some .int) :: gw) ({ frames := 9, cells := 1, slots := 6, locals := 190 } : Room)).room.slots := Nat.le_refl _
  have hl := lv_entry ([.ref (g 0), .int p0, .int p1, .int p2, .int p3]) (n := 11) (Nat.le_of_ble_eq_true rfl)
  rw [lg_entry_eq]
  generalize (lg_sl ([.ref (g 0), .int p0, .int p1, .int p2, .int p3]) ++ List.replicate (11 - (lg_sl ([.ref (g 0), .int p0, .int p1, .int p2, .int p3])).length) Slot.unset).toArray = ls at hl ⊢
  have hl : lv_has ls 11 [(0, .ref (g 0)), (1, .int p0), (2, .int p1), (3, .int p2), (4, .int p3)] := hl
  refine lv_aload_n hx hb d_T_compare_0 rfl (lv_at hl 0 rfl) ?_
  refine lv_iload_n hx hb d_T_compare_1 rfl (lv_at hl 1 rfl) ?_
  by_cases a0 : okTy nt p0
  · obtain ⟨k0, hk0, ek0⟩ := okTy_ex hn6 a0
    subst ek0
    refine ro_callr (va_runV (As := [.int (nI k0)]) (rest := []) ⟨hx, hb, hml, hown, hts⟩ (c_T_requireType l g ca nt k0 hn6 hk0) (cwV 1 hts (gw_V k_305 k_302 k_304 ks_T_requireType k_1) rfl rfl rfl (by decide +kernel) ⟨Nat.le_trans (Nat.le_of_ble_eq_true rfl) hfr, Nat.le_trans (Nat.le_of_ble_eq_true rfl) hlo⟩) ⟨pr_blind, va_recv hK hP (ci := 5) (q0 := 0) rfl rfl, pr_at hC (hP.sub (ws' := [(g 0, .inr (5, [.ref (g 1), .ref (g 4), .int (nI nt), .ref (g 5), .ref (g 6), .ref (g 11)])), (g 4, .inl (cT, 6, .inr (.inr (.inr (.inr (tq ca nt))))))]) [0, 2] rfl)⟩ rfl rfl hl.1 rfl (lv_room (Nat.le_of_ble_eq_true rfl)) d_T_compare_2 ⟨hce, hsl⟩) ?_
    refine lv_astore (lv' := [(5, .ref (ca k0)), (0, .ref (g 0)), (1, .int (nI k0)), (2, .int p1), (3, .int p2), (4, .int p3)]) hx hb d_T_compare_5 hl (by decide) rfl (fun ls hl => ?_)
    refine lv_aload_n hx hb d_T_compare_7 rfl (lv_at hl 1 rfl) ?_
    refine lv_iload_n hx hb d_T_compare_8 rfl (lv_at hl 3 rfl) ?_
    by_cases a1 : okTy nt p1
    · obtain ⟨k1, hk1, ek1⟩ := okTy_ex hn6 a1
      subst ek1
      refine ro_callr (va_runV (As := [.int (nI k1)]) (rest := []) ⟨hx, hb, hml, hown, hts⟩ (c_T_requireType l g ca nt k1 hn6 hk1) (cwV 1 hts (gw_V k_305 k_302 k_304 ks_T_requireType k_1) rfl rfl rfl (by decide +kernel) ⟨Nat.le_trans (Nat.le_of_ble_eq_true rfl) hfr, Nat.le_trans (Nat.le_of_ble_eq_true rfl) hlo⟩) ⟨pr_blind, va_recv hK hP (ci := 5) (q0 := 0) rfl rfl, pr_at hC (hP.sub (ws' := [(g 0, .inr (5, [.ref (g 1), .ref (g 4), .int (nI nt), .ref (g 5), .ref (g 6), .ref (g 11)])), (g 4, .inl (cT, 6, .inr (.inr (.inr (.inr (tq ca nt))))))]) [0, 2] rfl)⟩ rfl rfl hl.1 rfl (lv_room (Nat.le_of_ble_eq_true rfl)) d_T_compare_9 ⟨hce, hsl⟩) ?_
      refine lv_astore (lv' := [(6, .ref (ca k1)), (5, .ref (ca k0)), (0, .ref (g 0)), (1, .int (nI k0)), (2, .int (nI k1)), (3, .int p2), (4, .int p3)]) hx hb d_T_compare_12 hl (by decide) rfl (fun ls hl => ?_)
      refine lv_aload_n hx hb d_T_compare_14 rfl (lv_at hl 2 rfl) ?_
      refine lv_iload_n hx hb d_T_compare_15 rfl (lv_at hl 5 rfl) ?_
      refine lv_iload hx hb d_T_compare_16 (lv_at hl 6 rfl) ?_
      refine tx_call (vx_runV (As := [.int p2, .int p3]) (rest := []) ⟨hx, hb, hml, hown, hts⟩ (c_T_requireZone_b l hlt g F nt E p2 p3 hF12 (fun a2 => hbad ⟨a0, a1, a2⟩)) (cwV 2 hts (gw_V k_310 k_307 k_309 ks_T_requireZone k_1) rfl rfl rfl (by decide +kernel) ⟨Nat.le_trans (Nat.le_of_ble_eq_true rfl) hfr, Nat.le_trans (Nat.le_of_ble_eq_true rfl) hlo⟩) ⟨px_blind, va_recv hK hP (ci := 5) (q0 := 0) rfl rfl, px_at hC (hP.sub (ws' := [(g 0, .inr (5, [.ref (g 1), .ref (g 4), .int (nI nt), .ref (g 5), .ref (g 6), .ref (g 11)])), (g 1, .inr (0, [.ref (g 2), .ref (g 3), .int (nI F), .int (nI E)]))]) [0, 1] rfl) hT⟩ rfl rfl hl.1 rfl (lv_room (Nat.le_of_ble_eq_true rfl)) d_T_compare_18 ⟨hc1, hs6⟩) (fun ce q9 H1 hz1 hk1 hce1 hv1 hcl1 => ?_)
      exact tx_out hxt hlocks hz1 hk1 hce1 hv1 hcl1 (by decide) (by decide)
    · refine tx_call (vx_runV (As := [.int p1]) (rest := []) ⟨hx, hb, hml, hown, hts⟩ (c_T_requireType_b l hlt g ca nt p1 hn6 a1) (cwV 1 hts (gw_V k_305 k_302 k_304 ks_T_requireType k_1) rfl rfl rfl (by decide +kernel) ⟨Nat.le_trans (Nat.le_of_ble_eq_true rfl) hfr, Nat.le_trans (Nat.le_of_ble_eq_true rfl) hlo⟩) ⟨px_blind, va_recv hK hP (ci := 5) (q0 := 0) rfl rfl, px_at hC (hP.sub (ws' := [(g 0, .inr (5, [.ref (g 1), .ref (g 4), .int (nI nt), .ref (g 5), .ref (g 6), .ref (g 11)])), (g 4, .inl (cT, 6, .inr (.inr (.inr (.inr (tq ca nt))))))]) [0, 2] rfl) hT⟩ rfl rfl hl.1 rfl (lv_room (Nat.le_of_ble_eq_true rfl)) d_T_compare_9 ⟨hc1, hs6⟩) (fun ce q9 H1 hz1 hk1 hce1 hv1 hcl1 => ?_)
      exact tx_out hxt hlocks hz1 hk1 hce1 hv1 hcl1 (by decide) (by decide)
  · refine tx_call (vx_runV (As := [.int p0]) (rest := []) ⟨hx, hb, hml, hown, hts⟩ (c_T_requireType_b l hlt g ca nt p0 hn6 a0) (cwV 1 hts (gw_V k_305 k_302 k_304 ks_T_requireType k_1) rfl rfl rfl (by decide +kernel) ⟨Nat.le_trans (Nat.le_of_ble_eq_true rfl) hfr, Nat.le_trans (Nat.le_of_ble_eq_true rfl) hlo⟩) ⟨px_blind, va_recv hK hP (ci := 5) (q0 := 0) rfl rfl, px_at hC (hP.sub (ws' := [(g 0, .inr (5, [.ref (g 1), .ref (g 4), .int (nI nt), .ref (g 5), .ref (g 6), .ref (g 11)])), (g 4, .inl (cT, 6, .inr (.inr (.inr (.inr (tq ca nt))))))]) [0, 2] rfl) hT⟩ rfl rfl hl.1 rfl (lv_room (Nat.le_of_ble_eq_true rfl)) d_T_compare_2 ⟨hc1, hs6⟩) (fun ce q9 H1 hz1 hk1 hce1 hv1 hcl1 => ?_)
    exact tx_out hxt hlocks hz1 hk1 hce1 hv1 hcl1 (by decide) (by decide)
set_option maxHeartbeats 4000000 in
set_option maxRecDepth 100000 in
theorem c_T_carried_b1 (l : Launch) (hlt : l.stackTraces = false) {dC : Nat → ClassId} {dI : Nat → Nat → Nat} {cI cL cT : ClassId} {sa : Nat → Nat} (g ca : Nat → Nat) (F nt E : Nat) (p0 p1 : Int32) (hF12 : F ≤ 12) (hn6 : nt ≤ 6) (hbad : ¬ ((1 ≤ p0.toInt ∧ p0.toInt ≤ 6) ∧ okTy nt p1)) : vx_Met l y_T_carried (Cond.code y_T_carried b_T_carried 4 (some .long) :: gw) ({ frames := 9, cells := 1, slots := 6, locals := 190 } : Room) (px dC dI cI cL cT sa [.ref (g 0), .int p0, .int p1] [(g 0, .inr (5, [.ref (g 1), .ref (g 4), .int (nI nt), .ref (g 5), .ref (g 6), .ref (g 11)])), (g 1, .inr (0, [.ref (g 2), .ref (g 3), .int (nI F), .int (nI E)])), (g 4, .inl (cT, 6, .inr (.inr (.inr (.inr (tq ca nt))))))]) xQ (xX E_arg) 1 6 xF := by
  refine vx_ofW (cc := b_T_carried) (maxL := 4) (ret := (some .long)) (by decide) rfl ?_
  intro p e s m args below meth c s₁ B hml hxt hv
  obtain ⟨rfl, hC, hP, hT⟩ := hv
  have hx := B.exec
  have hb := B.bytes
  have hts : ∀ w ∈ gw, w.before ([.ref (g 0), .int p0, .int p1] : List Value).toArray s = true := fun w hw => atoms_spec (ws := Cond.code y_T_carried b_T_carried 4 (some .long) :: gw) B.pre w (List.mem_cons_of_mem _ hw)
  have hown : s.vm.findClass R_T = some m.cls := findClass_of_methodNamed B.named
  have hlocks := B.notSynchronized
  have hK := hC.1
  have hfr : 9 ≤ (headSpec (Cond.code y_T_carried b_T_carried 4 (some .long) :: gw) ({ frames := 9, cells := 1, slots := 6, locals := 190 } : Room)).room.frames := Nat.le_refl _
  have hlo : 190 ≤ (headSpec (Cond.code y_T_carried b_T_carried 4 (some .long) :: gw) ({ frames := 9, cells := 1, slots := 6, locals := 190 } : Room)).room.locals := Nat.le_refl _
  have hce : 0 ≤ (headSpec (Cond.code y_T_carried b_T_carried 4 (some .long) :: gw) ({ frames := 9, cells := 1, slots := 6, locals := 190 } : Room)).room.cells := Nat.zero_le _
  have hsl : 0 ≤ (headSpec (Cond.code y_T_carried b_T_carried 4 (some .long) :: gw) ({ frames := 9, cells := 1, slots := 6, locals := 190 } : Room)).room.slots := Nat.zero_le _
  have hc1 : 1 ≤ (headSpec (Cond.code y_T_carried b_T_carried 4 (some .long) :: gw) ({ frames := 9, cells := 1, slots := 6, locals := 190 } : Room)).room.cells := Nat.le_refl _
  have hs6 : 6 ≤ (headSpec (Cond.code y_T_carried b_T_carried 4 (some .long) :: gw) ({ frames := 9, cells := 1, slots := 6, locals := 190 } : Room)).room.slots := Nat.le_refl _
  have hl := lv_entry ([.ref (g 0), .int p0, .int p1]) (n := 4) (Nat.le_of_ble_eq_true rfl)
  rw [lg_entry_eq]
  generalize (lg_sl ([.ref (g 0), .int p0, .int p1]) ++ List.replicate (4 - (lg_sl ([.ref (g 0), .int p0, .int p1])).length) Slot.unset).toArray = ls at hl ⊢
  have hl : lv_has ls 4 [(0, .ref (g 0)), (1, .int p0), (2, .int p1)] := hl
  refine lv_iload_n hx hb d_T_carried_0 rfl (lv_at hl 1 rfl) ?_
  refine lv_iconst (v := nI 1) hx hb d_T_carried_1 (by decide) ?_
  refine lv_bipush (v := nI 6) hx hb d_T_carried_2 (by decide) ?_
  by_cases a0 : 1 ≤ p0.toInt ∧ p0.toInt ≤ 6
  · refine ro_callv (va_runS (As := [.int p0, .int (nI 1), .int (nI 6)]) (rest := []) ⟨hx, hb, hml, hown, hts⟩ (c_T_requireWithin l p0 (nI 1) (nI 6) 1 6 (nI_toInt (by decide)) (nI_toInt (by decide)) a0) (cwS 3 hts (gw_S k_150 k_148 k_149 k_1) rfl rfl rfl (by decide +kernel) ⟨Nat.le_trans (Nat.le_of_ble_eq_true rfl) hfr, Nat.le_trans (Nat.le_of_ble_eq_true rfl) hlo⟩) ⟨pr_blind, pr_at hC (fun k q h => by simp at h)⟩ rfl rfl hl.1 rfl (lv_room (Nat.le_of_ble_eq_true rfl)) d_T_carried_4 ⟨hce, hsl⟩) ?_
    refine lv_aload_n hx hb d_T_carried_7 rfl (lv_at hl 0 rfl) ?_
    refine lv_iload_n hx hb d_T_carried_8 rfl (lv_at hl 2 rfl) ?_
    refine tx_call (vx_runV (As := [.int p1]) (rest := []) ⟨hx, hb, hml, hown, hts⟩ (c_T_requireType_b l hlt g ca nt p1 hn6 (fun a1 => hbad ⟨a0, a1⟩)) (cwV 1 hts (gw_V k_305 k_302 k_304 ks_T_requireType k_1) rfl rfl rfl (by decide +kernel) ⟨Nat.le_trans (Nat.le_of_ble_eq_true rfl) hfr, Nat.le_trans (Nat.le_of_ble_eq_true rfl) hlo⟩) ⟨px_blind, va_recv hK hP (ci := 5) (q0 := 0) rfl rfl, px_at hC (hP.sub (ws' := [(g 0, .inr (5, [.ref (g 1), .ref (g 4), .int (nI nt), .ref (g 5), .ref (g 6), .ref (g 11)])), (g 4, .inl (cT, 6, .inr (.inr (.inr (.inr (tq ca nt))))))]) [0, 2] rfl) hT⟩ rfl rfl hl.1 rfl (lv_room (Nat.le_of_ble_eq_true rfl)) d_T_carried_9 ⟨hc1, hs6⟩) (fun ce q9 H1 hz1 hk1 hce1 hv1 hcl1 => ?_)
    exact tx_out hxt hlocks hz1 hk1 hce1 hv1 hcl1 (by decide) (by decide)
  · refine tx_call (vx_runS (As := [.int p0, .int (nI 1), .int (nI 6)]) (rest := []) ⟨hx, hb, hml, hown, hts⟩ (c_T_requireWithin_b l hlt p0 (nI 1) (nI 6) 1 6 (nI_toInt (by decide)) (nI_toInt (by decide)) a0) (cwS 3 hts (gw_S k_150 k_148 k_149 k_1) rfl rfl rfl (by decide +kernel) ⟨Nat.le_trans (Nat.le_of_ble_eq_true rfl) hfr, Nat.le_trans (Nat.le_of_ble_eq_true rfl) hlo⟩) ⟨px_blind, px_at hC (fun k q h => by simp at h) hT⟩ rfl rfl hl.1 rfl (lv_room (Nat.le_of_ble_eq_true rfl)) d_T_carried_4 ⟨hc1, hs6⟩) (fun ce q9 H1 hz1 hk1 hce1 hv1 hcl1 => ?_)
    exact tx_out hxt hlocks hz1 hk1 hce1 hv1 hcl1 (by decide) (by decide)
set_option maxHeartbeats 4000000 in
set_option maxRecDepth 100000 in
theorem c_T_carried_b2 (l : Launch) (hlt : l.stackTraces = false) {dC : Nat → ClassId} {dI : Nat → Nat → Nat} {cI cL cT : ClassId} {sa : Nat → Nat} (g ca : Nat → Nat) (F nt E : Nat) (cars t0 : Nat) (hF12 : F ≤ 12) (hn6 : nt ≤ 6) (hc1 : 1 ≤ cars) (hc6 : cars ≤ 6) (ht0 : t0 < nt) (hbad : F = 0) : vx_Met l y_T_carried (Cond.code y_T_carried b_T_carried 4 (some .long) :: gw) ({ frames := 9, cells := 1, slots := 6, locals := 190 } : Room) (px dC dI cI cL cT sa [.ref (g 0), .int (nI cars), .int (nI t0)] [(g 0, .inr (5, [.ref (g 1), .ref (g 4), .int (nI nt), .ref (g 5), .ref (g 6), .ref (g 11)])), (g 1, .inr (0, [.ref (g 2), .ref (g 3), .int (nI F), .int (nI E)])), (g 4, .inl (cT, 6, .inr (.inr (.inr (.inr (tq ca nt))))))]) xQ (xX E_sta) 1 6 xF := by
  refine vx_ofW (cc := b_T_carried) (maxL := 4) (ret := (some .long)) (by decide) rfl ?_
  intro p e s m args below meth c s₁ B hml hxt hv
  obtain ⟨rfl, hC, hP, hT⟩ := hv
  have hx := B.exec
  have hb := B.bytes
  have hts : ∀ w ∈ gw, w.before ([.ref (g 0), .int (nI cars), .int (nI t0)] : List Value).toArray s = true := fun w hw => atoms_spec (ws := Cond.code y_T_carried b_T_carried 4 (some .long) :: gw) B.pre w (List.mem_cons_of_mem _ hw)
  have hown : s.vm.findClass R_T = some m.cls := findClass_of_methodNamed B.named
  have hlocks := B.notSynchronized
  have hK := hC.1
  have hfr : 9 ≤ (headSpec (Cond.code y_T_carried b_T_carried 4 (some .long) :: gw) ({ frames := 9, cells := 1, slots := 6, locals := 190 } : Room)).room.frames := Nat.le_refl _
  have hlo : 190 ≤ (headSpec (Cond.code y_T_carried b_T_carried 4 (some .long) :: gw) ({ frames := 9, cells := 1, slots := 6, locals := 190 } : Room)).room.locals := Nat.le_refl _
  have hce : 0 ≤ (headSpec (Cond.code y_T_carried b_T_carried 4 (some .long) :: gw) ({ frames := 9, cells := 1, slots := 6, locals := 190 } : Room)).room.cells := Nat.zero_le _
  have hsl : 0 ≤ (headSpec (Cond.code y_T_carried b_T_carried 4 (some .long) :: gw) ({ frames := 9, cells := 1, slots := 6, locals := 190 } : Room)).room.slots := Nat.zero_le _
  have hc1 : 1 ≤ (headSpec (Cond.code y_T_carried b_T_carried 4 (some .long) :: gw) ({ frames := 9, cells := 1, slots := 6, locals := 190 } : Room)).room.cells := Nat.le_refl _
  have hs6 : 6 ≤ (headSpec (Cond.code y_T_carried b_T_carried 4 (some .long) :: gw) ({ frames := 9, cells := 1, slots := 6, locals := 190 } : Room)).room.slots := Nat.le_refl _
  have hl := lv_entry ([.ref (g 0), .int (nI cars), .int (nI t0)]) (n := 4) (Nat.le_of_ble_eq_true rfl)
  rw [lg_entry_eq]
  generalize (lg_sl ([.ref (g 0), .int (nI cars), .int (nI t0)]) ++ List.replicate (4 - (lg_sl ([.ref (g 0), .int (nI cars), .int (nI t0)])).length) Slot.unset).toArray = ls at hl ⊢
  have hl : lv_has ls 4 [(0, .ref (g 0)), (1, .int (nI cars)), (2, .int (nI t0))] := hl
  refine lv_iload_n hx hb d_T_carried_0 rfl (lv_at hl 1 rfl) ?_
  refine lv_iconst (v := nI 1) hx hb d_T_carried_1 (by decide) ?_
  refine lv_bipush (v := nI 6) hx hb d_T_carried_2 (by decide) ?_
  refine ro_callv (va_runS (As := [.int (nI cars), .int (nI 1), .int (nI 6)]) (rest := []) ⟨hx, hb, hml, hown, hts⟩ (c_T_requireWithin l (nI cars) (nI 1) (nI 6) 1 6 (nI_toInt (by decide)) (nI_toInt (by decide)) (by rw [nI_toInt (by omega)]; omega)) (cwS 3 hts (gw_S k_150 k_148 k_149 k_1) rfl rfl rfl (by decide +kernel) ⟨Nat.le_trans (Nat.le_of_ble_eq_true rfl) hfr, Nat.le_trans (Nat.le_of_ble_eq_true rfl) hlo⟩) ⟨pr_blind, pr_at hC (fun k q h => by simp at h)⟩ rfl rfl hl.1 rfl (lv_room (Nat.le_of_ble_eq_true rfl)) d_T_carried_4 ⟨hce, hsl⟩) ?_
  refine lv_aload_n hx hb d_T_carried_7 rfl (lv_at hl 0 rfl) ?_
  refine lv_iload_n hx hb d_T_carried_8 rfl (lv_at hl 2 rfl) ?_
  refine ro_callr (va_runV (As := [.int (nI t0)]) (rest := []) ⟨hx, hb, hml, hown, hts⟩ (c_T_requireType l g ca nt t0 hn6 ht0) (cwV 1 hts (gw_V k_305 k_302 k_304 ks_T_requireType k_1) rfl rfl rfl (by decide +kernel) ⟨Nat.le_trans (Nat.le_of_ble_eq_true rfl) hfr, Nat.le_trans (Nat.le_of_ble_eq_true rfl) hlo⟩) ⟨pr_blind, va_recv hK hP (ci := 5) (q0 := 0) rfl rfl, pr_at hC (hP.sub (ws' := [(g 0, .inr (5, [.ref (g 1), .ref (g 4), .int (nI nt), .ref (g 5), .ref (g 6), .ref (g 11)])), (g 4, .inl (cT, 6, .inr (.inr (.inr (.inr (tq ca nt))))))]) [0, 2] rfl)⟩ rfl rfl hl.1 rfl (lv_room (Nat.le_of_ble_eq_true rfl)) d_T_carried_9 ⟨hce, hsl⟩) ?_
  refine lv_astore_n (lv' := [(3, .ref (ca t0)), (0, .ref (g 0)), (1, .int (nI cars)), (2, .int (nI t0))]) hx hb d_T_carried_12 rfl hl (by decide) rfl (fun ls hl => ?_)
  refine lv_aload_n hx hb d_T_carried_13 rfl (lv_at hl 1 rfl) ?_
  refine tx_call (vx_runV (As := []) (rest := []) ⟨hx, hb, hml, hown, hts⟩ (c_T_requireSomeFloor_b l hlt g F nt E hbad) (cwV 0 hts (gw_V k_372 k_369 k_371 ks_T_requireSomeFloor k_1) rfl rfl rfl (by decide +kernel) ⟨Nat.le_trans (Nat.le_of_ble_eq_true rfl) hfr, Nat.le_trans (Nat.le_of_ble_eq_true rfl) hlo⟩) ⟨px_blind, va_recv hK hP (ci := 5) (q0 := 0) rfl rfl, px_at hC (hP.sub (ws' := [(g 0, .inr (5, [.ref (g 1), .ref (g 4), .int (nI nt), .ref (g 5), .ref (g 6), .ref (g 11)])), (g 1, .inr (0, [.ref (g 2), .ref (g 3), .int (nI F), .int (nI E)]))]) [0, 1] rfl) hT⟩ rfl rfl hl.1 rfl (lv_room (Nat.le_of_ble_eq_true rfl)) d_T_carried_14 ⟨hc1, hs6⟩) (fun ce q9 H1 hz1 hk1 hce1 hv1 hcl1 => ?_)
  exact tx_out hxt hlocks hz1 hk1 hce1 hv1 hcl1 (by decide) (by decide)
set_option maxHeartbeats 4000000 in
set_option maxRecDepth 100000 in
theorem c_T_cheapest_b1 (l : Launch) (hlt : l.stackTraces = false) {dC : Nat → ClassId} {dI : Nat → Nat → Nat} {cI cL cT : ClassId} {sa : Nat → Nat} (g ca : Nat → Nat) (F nt E : Nat) (p0 : Int32) (hF12 : F ≤ 12) (hn6 : nt ≤ 6) (hbad : p0.toInt < 0) : vx_Met l y_T_cheapest (Cond.code y_T_cheapest b_T_cheapest 9 (some .int) :: gw) ({ frames := 9, cells := 1, slots := 6, locals := 190 } : Room) (px dC dI cI cL cT sa [.ref (g 0), .int p0] [(g 0, .inr (5, [.ref (g 1), .ref (g 4), .int (nI nt), .ref (g 5), .ref (g 6), .ref (g 11)])), (g 1, .inr (0, [.ref (g 2), .ref (g 3), .int (nI F), .int (nI E)])), (g 4, .inl (cT, 6, .inr (.inr (.inr (.inr (tq ca nt))))))]) xQ (xX E_arg) 1 6 xF := by
  refine vx_ofW (cc := b_T_cheapest) (maxL := 9) (ret := (some .int)) (by decide) rfl ?_
  intro p e s m args below meth c s₁ B hml hxt hv
  obtain ⟨rfl, hC, hP, hT⟩ := hv
  have hx := B.exec
  have hb := B.bytes
  have hts : ∀ w ∈ gw, w.before ([.ref (g 0), .int p0] : List Value).toArray s = true := fun w hw => atoms_spec (ws := Cond.code y_T_cheapest b_T_cheapest 9 (some .int) :: gw) B.pre w (List.mem_cons_of_mem _ hw)
  have hown : s.vm.findClass R_T = some m.cls := findClass_of_methodNamed B.named
  have hlocks := B.notSynchronized
  have hK := hC.1
  have hfr : 9 ≤ (headSpec (Cond.code y_T_cheapest b_T_cheapest 9 (some .int) :: gw) ({ frames := 9, cells := 1, slots := 6, locals := 190 } : Room)).room.frames := Nat.le_refl _
  have hlo : 190 ≤ (headSpec (Cond.code y_T_cheapest b_T_cheapest 9 (some .int) :: gw) ({ frames := 9, cells := 1, slots := 6, locals := 190 } : Room)).room.locals := Nat.le_refl _
  have hce : 0 ≤ (headSpec (Cond.code y_T_cheapest b_T_cheapest 9 (some .int) :: gw) ({ frames := 9, cells := 1, slots := 6, locals := 190 } : Room)).room.cells := Nat.zero_le _
  have hsl : 0 ≤ (headSpec (Cond.code y_T_cheapest b_T_cheapest 9 (some .int) :: gw) ({ frames := 9, cells := 1, slots := 6, locals := 190 } : Room)).room.slots := Nat.zero_le _
  have hc1 : 1 ≤ (headSpec (Cond.code y_T_cheapest b_T_cheapest 9 (some .int) :: gw) ({ frames := 9, cells := 1, slots := 6, locals := 190 } : Room)).room.cells := Nat.le_refl _
  have hs6 : 6 ≤ (headSpec (Cond.code y_T_cheapest b_T_cheapest 9 (some .int) :: gw) ({ frames := 9, cells := 1, slots := 6, locals := 190 } : Room)).room.slots := Nat.le_refl _
  have hl := lv_entry ([.ref (g 0), .int p0]) (n := 9) (Nat.le_of_ble_eq_true rfl)
  rw [lg_entry_eq]
  generalize (lg_sl ([.ref (g 0), .int p0]) ++ List.replicate (9 - (lg_sl ([.ref (g 0), .int p0])).length) Slot.unset).toArray = ls at hl ⊢
  have hl : lv_has ls 9 [(0, .ref (g 0)), (1, .int p0)] := hl
  refine lv_iload_n hx hb d_T_cheapest_0 rfl (lv_at hl 1 rfl) ?_
  refine lv_if_ge (tgt := 14) hx hb d_T_cheapest_1 (by decide) (fun h1 => ?_) (fun h1 => ?_)
  · exact absurd (Int32.le_iff_toInt_le.mp h1) (by rw [show (0 : Int32) = nI 0 by decide, nI_toInt (by decide)]; omega)
  · exact vx_throwS hx hb hlt hown xa_fit xn_fit (hts _ k_151) (hts _ k_10) (hC.2.2.1 (138, "persons is below 0") (by simp [ct_str])) (xa_hat hts hC) xa_ot hT.1 hT.2 va_S.rf (hl.1.trans hml.symm) d_T_cheapest_4 d_T_cheapest_7 d_T_cheapest_8 d_T_cheapest_10 d_T_cheapest_13 (fun x hx => (hxt x hx).elim) (Nat.le_trans (Nat.le_of_ble_eq_true rfl) hfr) (Nat.le_trans (Nat.le_of_ble_eq_true rfl) hlo) hc1 hs6 hlocks (fun t _ h1 h2 => ⟨rfl, h1, fun q h _ => h2 q h⟩) (fun z hz => by cases hz) (by decide) (by decide)
set_option maxHeartbeats 4000000 in
set_option maxRecDepth 100000 in
theorem c_T_cheapest_b2 (l : Launch) (hlt : l.stackTraces = false) {dC : Nat → ClassId} {dI : Nat → Nat → Nat} {cI cL cT : ClassId} {sa : Nat → Nat} (g ca : Nat → Nat) (F nt E : Nat) (p0 : Int32) (hF12 : F ≤ 12) (hn6 : nt ≤ 6) (hp0 : 0 ≤ p0.toInt) (hbad : F = 0) : vx_Met l y_T_cheapest (Cond.code y_T_cheapest b_T_cheapest 9 (some .int) :: gw) ({ frames := 9, cells := 1, slots := 6, locals := 190 } : Room) (px dC dI cI cL cT sa [.ref (g 0), .int p0] [(g 0, .inr (5, [.ref (g 1), .ref (g 4), .int (nI nt), .ref (g 5), .ref (g 6), .ref (g 11)])), (g 1, .inr (0, [.ref (g 2), .ref (g 3), .int (nI F), .int (nI E)])), (g 4, .inl (cT, 6, .inr (.inr (.inr (.inr (tq ca nt))))))]) xQ (xX E_sta) 1 6 xF := by
  refine vx_ofW (cc := b_T_cheapest) (maxL := 9) (ret := (some .int)) (by decide) rfl ?_
  intro p e s m args below meth c s₁ B hml hxt hv
  obtain ⟨rfl, hC, hP, hT⟩ := hv
  have hx := B.exec
  have hb := B.bytes
  have hts : ∀ w ∈ gw, w.before ([.ref (g 0), .int p0] : List Value).toArray s = true := fun w hw => atoms_spec (ws := Cond.code y_T_cheapest b_T_cheapest 9 (some .int) :: gw) B.pre w (List.mem_cons_of_mem _ hw)
  have hown : s.vm.findClass R_T = some m.cls := findClass_of_methodNamed B.named
  have hlocks := B.notSynchronized
  have hK := hC.1
  have hfr : 9 ≤ (headSpec (Cond.code y_T_cheapest b_T_cheapest 9 (some .int) :: gw) ({ frames := 9, cells := 1, slots := 6, locals := 190 } : Room)).room.frames := Nat.le_refl _
  have hlo : 190 ≤ (headSpec (Cond.code y_T_cheapest b_T_cheapest 9 (some .int) :: gw) ({ frames := 9, cells := 1, slots := 6, locals := 190 } : Room)).room.locals := Nat.le_refl _
  have hce : 0 ≤ (headSpec (Cond.code y_T_cheapest b_T_cheapest 9 (some .int) :: gw) ({ frames := 9, cells := 1, slots := 6, locals := 190 } : Room)).room.cells := Nat.zero_le _
  have hsl : 0 ≤ (headSpec (Cond.code y_T_cheapest b_T_cheapest 9 (some .int) :: gw) ({ frames := 9, cells := 1, slots := 6, locals := 190 } : Room)).room.slots := Nat.zero_le _
  have hc1 : 1 ≤ (headSpec (Cond.code y_T_cheapest b_T_cheapest 9 (some .int) :: gw) ({ frames := 9, cells := 1, slots := 6, locals := 190 } : Room)).room.cells := Nat.le_refl _
  have hs6 : 6 ≤ (headSpec (Cond.code y_T_cheapest b_T_cheapest 9 (some .int) :: gw) ({ frames := 9, cells := 1, slots := 6, locals := 190 } : Room)).room.slots := Nat.le_refl _
  have hl := lv_entry ([.ref (g 0), .int p0]) (n := 9) (Nat.le_of_ble_eq_true rfl)
  rw [lg_entry_eq]
  generalize (lg_sl ([.ref (g 0), .int p0]) ++ List.replicate (9 - (lg_sl ([.ref (g 0), .int p0])).length) Slot.unset).toArray = ls at hl ⊢
  have hl : lv_has ls 9 [(0, .ref (g 0)), (1, .int p0)] := hl
  refine lv_iload_n hx hb d_T_cheapest_0 rfl (lv_at hl 1 rfl) ?_
  refine lv_if_ge (tgt := 14) hx hb d_T_cheapest_1 (by decide) (fun h1 => ?_) (fun h1 => ?_)
  · refine lv_aload_n hx hb d_T_cheapest_14 rfl (lv_at hl 0 rfl) ?_
    refine tx_call (vx_runV (As := []) (rest := []) ⟨hx, hb, hml, hown, hts⟩ (c_T_requireSomeFloor_b l hlt g F nt E hbad) (cwV 0 hts (gw_V k_372 k_369 k_371 ks_T_requireSomeFloor k_1) rfl rfl rfl (by decide +kernel) ⟨Nat.le_trans (Nat.le_of_ble_eq_true rfl) hfr, Nat.le_trans (Nat.le_of_ble_eq_true rfl) hlo⟩) ⟨px_blind, va_recv hK hP (ci := 5) (q0 := 0) rfl rfl, px_at hC (hP.sub (ws' := [(g 0, .inr (5, [.ref (g 1), .ref (g 4), .int (nI nt), .ref (g 5), .ref (g 6), .ref (g 11)])), (g 1, .inr (0, [.ref (g 2), .ref (g 3), .int (nI F), .int (nI E)]))]) [0, 1] rfl) hT⟩ rfl rfl hl.1 rfl (lv_room (Nat.le_of_ble_eq_true rfl)) d_T_cheapest_15 ⟨hc1, hs6⟩) (fun ce q9 H1 hz1 hk1 hce1 hv1 hcl1 => ?_)
    exact tx_out hxt hlocks hz1 hk1 hce1 hv1 hcl1 (by decide) (by decide)
  · exact absurd (Int32.le_iff_toInt_le.mpr (by rw [show (0 : Int32) = nI 0 by decide, nI_toInt (by decide)]; omega)) h1
set_option maxHeartbeats 4000000 in
set_option maxRecDepth 100000 in
theorem c_T_split_b1 (l : Launch) (hlt : l.stackTraces = false) {dC : Nat → ClassId} {dI : Nat → Nat → Nat} {cI cL cT : ClassId} {sa : Nat → Nat} (g ca : Nat → Nat) (F nt E : Nat) (p0 p1 p2 : Int32) (hF12 : F ≤ 12) (hn6 : nt ≤ 6) (hbad : ¬ (okTy nt p0 ∧ (1 ≤ p1.toInt ∧ p1.toInt ≤ 4) ∧ (0 ≤ p2.toInt ∧ p2.toInt ≤ p1.toInt - 1))) : vx_Met l y_T_split (Cond.code y_T_split b_T_split 5 (some .int) :: gw) ({ frames := 9, cells := 1, slots := 6, locals := 190 } : Room) (px dC dI cI cL cT sa [.ref (g 0), .int p0, .int p1, .int p2] [(g 0, .inr (5, [.ref (g 1), .ref (g 4), .int (nI nt), .ref (g 5), .ref (g 6), .ref (g 11)])), (g 1, .inr (0, [.ref (g 2), .ref (g 3), .int (nI F), .int (nI E)])), (g 4, .inl (cT, 6, .inr (.inr (.inr (.inr (tq ca nt))))))]) xQ (xX E_arg) 1 6 xF := by
  refine vx_ofW (cc := b_T_split) (maxL := 5) (ret := (some .int)) (by decide) rfl ?_
  intro p e s m args below meth c s₁ B hml hxt hv
  obtain ⟨rfl, hC, hP, hT⟩ := hv
  have hx := B.exec
  have hb := B.bytes
  have hts : ∀ w ∈ gw, w.before ([.ref (g 0), .int p0, .int p1, .int p2] : List Value).toArray s = true := fun w hw => atoms_spec (ws := Cond.code y_T_split b_T_split 5 (some .int) :: gw) B.pre w (List.mem_cons_of_mem _ hw)
  have hown : s.vm.findClass R_T = some m.cls := findClass_of_methodNamed B.named
  have hlocks := B.notSynchronized
  have hK := hC.1
  have hfr : 9 ≤ (headSpec (Cond.code y_T_split b_T_split 5 (some .int) :: gw) ({ frames := 9, cells := 1, slots := 6, locals := 190 } : Room)).room.frames := Nat.le_refl _
  have hlo : 190 ≤ (headSpec (Cond.code y_T_split b_T_split 5 (some .int) :: gw) ({ frames := 9, cells := 1, slots := 6, locals := 190 } : Room)).room.locals := Nat.le_refl _
  have hce : 0 ≤ (headSpec (Cond.code y_T_split b_T_split 5 (some .int) :: gw) ({ frames := 9, cells := 1, slots := 6, locals := 190 } : Room)).room.cells := Nat.zero_le _
  have hsl : 0 ≤ (headSpec (Cond.code y_T_split b_T_split 5 (some .int) :: gw) ({ frames := 9, cells := 1, slots := 6, locals := 190 } : Room)).room.slots := Nat.zero_le _
  have hc1 : 1 ≤ (headSpec (Cond.code y_T_split b_T_split 5 (some .int) :: gw) ({ frames := 9, cells := 1, slots := 6, locals := 190 } : Room)).room.cells := Nat.le_refl _
  have hs6 : 6 ≤ (headSpec (Cond.code y_T_split b_T_split 5 (some .int) :: gw) ({ frames := 9, cells := 1, slots := 6, locals := 190 } : Room)).room.slots := Nat.le_refl _
  have hl := lv_entry ([.ref (g 0), .int p0, .int p1, .int p2]) (n := 5) (Nat.le_of_ble_eq_true rfl)
  rw [lg_entry_eq]
  generalize (lg_sl ([.ref (g 0), .int p0, .int p1, .int p2]) ++ List.replicate (5 - (lg_sl ([.ref (g 0), .int p0, .int p1, .int p2])).length) Slot.unset).toArray = ls at hl ⊢
  have hl : lv_has ls 5 [(0, .ref (g 0)), (1, .int p0), (2, .int p1), (3, .int p2)] := hl
  refine lv_aload_n hx hb d_T_split_0 rfl (lv_at hl 0 rfl) ?_
  refine lv_iload_n hx hb d_T_split_1 rfl (lv_at hl 1 rfl) ?_
  by_cases a0 : okTy nt p0
  · obtain ⟨k0, hk0, ek0⟩ := okTy_ex hn6 a0
    subst ek0
    refine ro_callr (va_runV (As := [.int (nI k0)]) (rest := []) ⟨hx, hb, hml, hown, hts⟩ (c_T_requireType l g ca nt k0 hn6 hk0) (cwV 1 hts (gw_V k_305 k_302 k_304 ks_T_requireType k_1) rfl rfl rfl (by decide +kernel) ⟨Nat.le_trans (Nat.le_of_ble_eq_true rfl) hfr, Nat.le_trans (Nat.le_of_ble_eq_true rfl) hlo⟩) ⟨pr_blind, va_recv hK hP (ci := 5) (q0 := 0) rfl rfl, pr_at hC (hP.sub (ws' := [(g 0, .inr (5, [.ref (g 1), .ref (g 4), .int (nI nt), .ref (g 5), .ref (g 6), .ref (g 11)])), (g 4, .inl (cT, 6, .inr (.inr (.inr (.inr (tq ca nt))))))]) [0, 2] rfl)⟩ rfl rfl hl.1 rfl (lv_room (Nat.le_of_ble_eq_true rfl)) d_T_split_2 ⟨hce, hsl⟩) ?_
    refine lv_astore (lv' := [(4, .ref (ca k0)), (0, .ref (g 0)), (1, .int (nI k0)), (2, .int p1), (3, .int p2)]) hx hb d_T_split_5 hl (by decide) rfl (fun ls hl => ?_)
    refine lv_iload_n hx hb d_T_split_7 rfl (lv_at hl 3 rfl) ?_
    refine lv_iconst (v := nI 1) hx hb d_T_split_8 (by decide) ?_
    refine lv_iconst (v := nI 4) hx hb d_T_split_9 (by decide) ?_
    by_cases a1 : 1 ≤ p1.toInt ∧ p1.toInt ≤ 4
    · refine ro_callv (va_runS (As := [.int p1, .int (nI 1), .int (nI 4)]) (rest := []) ⟨hx, hb, hml, hown, hts⟩ (c_T_requireWithin l p1 (nI 1) (nI 4) 1 4 (nI_toInt (by decide)) (nI_toInt (by decide)) a1) (cwS 3 hts (gw_S k_150 k_148 k_149 k_1) rfl rfl rfl (by decide +kernel) ⟨Nat.le_trans (Nat.le_of_ble_eq_true rfl) hfr, Nat.le_trans (Nat.le_of_ble_eq_true rfl) hlo⟩) ⟨pr_blind, pr_at hC (fun k q h => by simp at h)⟩ rfl rfl hl.1 rfl (lv_room (Nat.le_of_ble_eq_true rfl)) d_T_split_10 ⟨hce, hsl⟩) ?_
      obtain ⟨k1, hk1, hk4, ek1⟩ := in_ex (lo := 1) (hi := 4) (by decide) a1
      subst ek1
      rw [nI_toInt (by omega)] at hbad a1
      refine lv_iload_n hx hb d_T_split_13 rfl (lv_at hl 4 rfl) ?_
      refine lv_iconst (v := nI 0) hx hb d_T_split_14 (by decide) ?_
      refine lv_iload_n hx hb d_T_split_15 rfl (lv_at hl 3 rfl) ?_
      refine lv_iconst (v := nI 1) hx hb d_T_split_16 (by decide) ?_
      refine nx_isub hx hb d_T_split_17 (by omega) ?_
      refine tx_call (vx_runS (As := [.int p2, .int (nI 0), .int (nI (k1 - 1))]) (rest := []) ⟨hx, hb, hml, hown, hts⟩ (c_T_requireWithin_b l hlt p2 (nI 0) (nI (k1 - 1)) 0 ((k1 : Int) - 1) (nI_toInt (by decide)) (by rw [nI_toInt (by omega)]; omega) (fun a2 => hbad ⟨a0, a1, a2⟩)) (cwS 3 hts (gw_S k_150 k_148 k_149 k_1) rfl rfl rfl (by decide +kernel) ⟨Nat.le_trans (Nat.le_of_ble_eq_true rfl) hfr, Nat.le_trans (Nat.le_of_ble_eq_true rfl) hlo⟩) ⟨px_blind, px_at hC (fun k q h => by simp at h) hT⟩ rfl rfl hl.1 rfl (lv_room (Nat.le_of_ble_eq_true rfl)) d_T_split_18 ⟨hc1, hs6⟩) (fun ce q9 H1 hz1 hk1 hce1 hv1 hcl1 => ?_)
      exact tx_out hxt hlocks hz1 hk1 hce1 hv1 hcl1 (by decide) (by decide)
    · refine tx_call (vx_runS (As := [.int p1, .int (nI 1), .int (nI 4)]) (rest := []) ⟨hx, hb, hml, hown, hts⟩ (c_T_requireWithin_b l hlt p1 (nI 1) (nI 4) 1 4 (nI_toInt (by decide)) (nI_toInt (by decide)) a1) (cwS 3 hts (gw_S k_150 k_148 k_149 k_1) rfl rfl rfl (by decide +kernel) ⟨Nat.le_trans (Nat.le_of_ble_eq_true rfl) hfr, Nat.le_trans (Nat.le_of_ble_eq_true rfl) hlo⟩) ⟨px_blind, px_at hC (fun k q h => by simp at h) hT⟩ rfl rfl hl.1 rfl (lv_room (Nat.le_of_ble_eq_true rfl)) d_T_split_10 ⟨hc1, hs6⟩) (fun ce q9 H1 hz1 hk1 hce1 hv1 hcl1 => ?_)
      exact tx_out hxt hlocks hz1 hk1 hce1 hv1 hcl1 (by decide) (by decide)
  · refine tx_call (vx_runV (As := [.int p0]) (rest := []) ⟨hx, hb, hml, hown, hts⟩ (c_T_requireType_b l hlt g ca nt p0 hn6 a0) (cwV 1 hts (gw_V k_305 k_302 k_304 ks_T_requireType k_1) rfl rfl rfl (by decide +kernel) ⟨Nat.le_trans (Nat.le_of_ble_eq_true rfl) hfr, Nat.le_trans (Nat.le_of_ble_eq_true rfl) hlo⟩) ⟨px_blind, va_recv hK hP (ci := 5) (q0 := 0) rfl rfl, px_at hC (hP.sub (ws' := [(g 0, .inr (5, [.ref (g 1), .ref (g 4), .int (nI nt), .ref (g 5), .ref (g 6), .ref (g 11)])), (g 4, .inl (cT, 6, .inr (.inr (.inr (.inr (tq ca nt))))))]) [0, 2] rfl) hT⟩ rfl rfl hl.1 rfl (lv_room (Nat.le_of_ble_eq_true rfl)) d_T_split_2 ⟨hc1, hs6⟩) (fun ce q9 H1 hz1 hk1 hce1 hv1 hcl1 => ?_)
    exact tx_out hxt hlocks hz1 hk1 hce1 hv1 hcl1 (by decide) (by decide)
set_option maxHeartbeats 4000000 in
set_option maxRecDepth 100000 in
theorem c_T_split_b2 (l : Launch) (hlt : l.stackTraces = false) {dC : Nat → ClassId} {dI : Nat → Nat → Nat} {cI cL cT : ClassId} {sa : Nat → Nat} (g ca : Nat → Nat) (F nt E : Nat) (t0 k j : Nat) (hF12 : F ≤ 12) (hn6 : nt ≤ 6) (ht0 : t0 < nt) (hk1 : 1 ≤ k) (hk4 : k ≤ 4) (hj : j ≤ k - 1) (hbad : F < k) : vx_Met l y_T_split (Cond.code y_T_split b_T_split 5 (some .int) :: gw) ({ frames := 9, cells := 1, slots := 6, locals := 190 } : Room) (px dC dI cI cL cT sa [.ref (g 0), .int (nI t0), .int (nI k), .int (nI j)] [(g 0, .inr (5, [.ref (g 1), .ref (g 4), .int (nI nt), .ref (g 5), .ref (g 6), .ref (g 11)])), (g 1, .inr (0, [.ref (g 2), .ref (g 3), .int (nI F), .int (nI E)])), (g 4, .inl (cT, 6, .inr (.inr (.inr (.inr (tq ca nt))))))]) xQ (xX E_sta) 1 6 xF := by
  refine vx_ofW (cc := b_T_split) (maxL := 5) (ret := (some .int)) (by decide) rfl ?_
  intro p e s m args below meth c s₁ B hml hxt hv
  obtain ⟨rfl, hC, hP, hT⟩ := hv
  have hx := B.exec
  have hb := B.bytes
  have hts : ∀ w ∈ gw, w.before ([.ref (g 0), .int (nI t0), .int (nI k), .int (nI j)] : List Value).toArray s = true := fun w hw => atoms_spec (ws := Cond.code y_T_split b_T_split 5 (some .int) :: gw) B.pre w (List.mem_cons_of_mem _ hw)
  have hown : s.vm.findClass R_T = some m.cls := findClass_of_methodNamed B.named
  have hlocks := B.notSynchronized
  have hK := hC.1
  have hfr : 9 ≤ (headSpec (Cond.code y_T_split b_T_split 5 (some .int) :: gw) ({ frames := 9, cells := 1, slots := 6, locals := 190 } : Room)).room.frames := Nat.le_refl _
  have hlo : 190 ≤ (headSpec (Cond.code y_T_split b_T_split 5 (some .int) :: gw) ({ frames := 9, cells := 1, slots := 6, locals := 190 } : Room)).room.locals := Nat.le_refl _
  have hce : 0 ≤ (headSpec (Cond.code y_T_split b_T_split 5 (some .int) :: gw) ({ frames := 9, cells := 1, slots := 6, locals := 190 } : Room)).room.cells := Nat.zero_le _
  have hsl : 0 ≤ (headSpec (Cond.code y_T_split b_T_split 5 (some .int) :: gw) ({ frames := 9, cells := 1, slots := 6, locals := 190 } : Room)).room.slots := Nat.zero_le _
  have hc1 : 1 ≤ (headSpec (Cond.code y_T_split b_T_split 5 (some .int) :: gw) ({ frames := 9, cells := 1, slots := 6, locals := 190 } : Room)).room.cells := Nat.le_refl _
  have hs6 : 6 ≤ (headSpec (Cond.code y_T_split b_T_split 5 (some .int) :: gw) ({ frames := 9, cells := 1, slots := 6, locals := 190 } : Room)).room.slots := Nat.le_refl _
  have hl := lv_entry ([.ref (g 0), .int (nI t0), .int (nI k), .int (nI j)]) (n := 5) (Nat.le_of_ble_eq_true rfl)
  rw [lg_entry_eq]
  generalize (lg_sl ([.ref (g 0), .int (nI t0), .int (nI k), .int (nI j)]) ++ List.replicate (5 - (lg_sl ([.ref (g 0), .int (nI t0), .int (nI k), .int (nI j)])).length) Slot.unset).toArray = ls at hl ⊢
  have hl : lv_has ls 5 [(0, .ref (g 0)), (1, .int (nI t0)), (2, .int (nI k)), (3, .int (nI j))] := hl
  refine lv_aload_n hx hb d_T_split_0 rfl (lv_at hl 0 rfl) ?_
  refine lv_iload_n hx hb d_T_split_1 rfl (lv_at hl 1 rfl) ?_
  refine ro_callr (va_runV (As := [.int (nI t0)]) (rest := []) ⟨hx, hb, hml, hown, hts⟩ (c_T_requireType l g ca nt t0 hn6 ht0) (cwV 1 hts (gw_V k_305 k_302 k_304 ks_T_requireType k_1) rfl rfl rfl (by decide +kernel) ⟨Nat.le_trans (Nat.le_of_ble_eq_true rfl) hfr, Nat.le_trans (Nat.le_of_ble_eq_true rfl) hlo⟩) ⟨pr_blind, va_recv hK hP (ci := 5) (q0 := 0) rfl rfl, pr_at hC (hP.sub (ws' := [(g 0, .inr (5, [.ref (g 1), .ref (g 4), .int (nI nt), .ref (g 5), .ref (g 6), .ref (g 11)])), (g 4, .inl (cT, 6, .inr (.inr (.inr (.inr (tq ca nt))))))]) [0, 2] rfl)⟩ rfl rfl hl.1 rfl (lv_room (Nat.le_of_ble_eq_true rfl)) d_T_split_2 ⟨hce, hsl⟩) ?_
  refine lv_astore (lv' := [(4, .ref (ca t0)), (0, .ref (g 0)), (1, .int (nI t0)), (2, .int (nI k)), (3, .int (nI j))]) hx hb d_T_split_5 hl (by decide) rfl (fun ls hl => ?_)
  refine lv_iload_n hx hb d_T_split_7 rfl (lv_at hl 3 rfl) ?_
  refine lv_iconst (v := nI 1) hx hb d_T_split_8 (by decide) ?_
  refine lv_iconst (v := nI 4) hx hb d_T_split_9 (by decide) ?_
  refine ro_callv (va_runS (As := [.int (nI k), .int (nI 1), .int (nI 4)]) (rest := []) ⟨hx, hb, hml, hown, hts⟩ (c_T_requireWithin l (nI k) (nI 1) (nI 4) 1 4 (nI_toInt (by decide)) (nI_toInt (by decide)) (by rw [nI_toInt (by omega)]; omega)) (cwS 3 hts (gw_S k_150 k_148 k_149 k_1) rfl rfl rfl (by decide +kernel) ⟨Nat.le_trans (Nat.le_of_ble_eq_true rfl) hfr, Nat.le_trans (Nat.le_of_ble_eq_true rfl) hlo⟩) ⟨pr_blind, pr_at hC (fun k q h => by simp at h)⟩ rfl rfl hl.1 rfl (lv_room (Nat.le_of_ble_eq_true rfl)) d_T_split_10 ⟨hce, hsl⟩) ?_
  refine lv_iload_n hx hb d_T_split_13 rfl (lv_at hl 4 rfl) ?_
  refine lv_iconst (v := nI 0) hx hb d_T_split_14 (by decide) ?_
  refine lv_iload_n hx hb d_T_split_15 rfl (lv_at hl 3 rfl) ?_
  refine lv_iconst (v := nI 1) hx hb d_T_split_16 (by decide) ?_
  refine nx_isub hx hb d_T_split_17 (by omega) ?_
  refine ro_callv (va_runS (As := [.int (nI j), .int (nI 0), .int (nI (k - 1))]) (rest := []) ⟨hx, hb, hml, hown, hts⟩ (c_T_requireWithin l (nI j) (nI 0) (nI (k - 1)) 0 ((k : Int) - 1) (nI_toInt (by decide)) (by rw [nI_toInt (by omega)]; omega) (by rw [nI_toInt (by omega)]; omega)) (cwS 3 hts (gw_S k_150 k_148 k_149 k_1) rfl rfl rfl (by decide +kernel) ⟨Nat.le_trans (Nat.le_of_ble_eq_true rfl) hfr, Nat.le_trans (Nat.le_of_ble_eq_true rfl) hlo⟩) ⟨pr_blind, pr_at hC (fun k q h => by simp at h)⟩ rfl rfl hl.1 rfl (lv_room (Nat.le_of_ble_eq_true rfl)) d_T_split_18 ⟨hce, hsl⟩) ?_
  refine lv_aload_n hx hb d_T_split_21 rfl (lv_at hl 1 rfl) ?_
  refine va_get (D := (dC, dI)) (ci := 5) (v := .ref (g 1)) (C := R_T) (T := F_T) (N := 6) hx hb hts i_T hown hK hP 0 rfl rfl 0 (by decide) (hts _ k_120) (fun _ h9 => h9) rfl d_T_split_22 ?_
  refine va_get (D := (dC, dI)) (ci := 0) (v := .int (nI F)) (C := R_B) (T := F_B) (N := 4) hx hb hts i_B hown hK hP 1 rfl rfl 2 (by decide) (hts _ k_37) (fun _ h9 => h9) rfl d_T_split_25 ?_
  refine lv_iload_n hx hb d_T_split_28 rfl (lv_at hl 3 rfl) ?_
  refine nx_icmp_ge (tgt := 42) hx hb d_T_split_29 (by decide) (by omega) (by omega) (fun h1 => ?_) (fun h1 => ?_)
  · exact absurd h1 (by omega)
  · exact vx_throwS hx hb hlt hown xs_fit xn_fit (hts _ k_218) (hts _ k_11) (hC.2.2.1 (148, "there are fewer floors than zones") (by simp [ct_str])) (xs_hat hts hC) xs_ot hT.1 hT.2 va_S.rf (hl.1.trans hml.symm) d_T_split_32 d_T_split_35 d_T_split_36 d_T_split_38 d_T_split_41 (fun x hx => (hxt x hx).elim) (Nat.le_trans (Nat.le_of_ble_eq_true rfl) hfr) (Nat.le_trans (Nat.le_of_ble_eq_true rfl) hlo) hc1 hs6 hlocks (fun t _ h1 h2 => ⟨rfl, h1, fun q h _ => h2 q h⟩) (fun z hz => by cases hz) (by decide) (by decide)
set_option maxHeartbeats 4000000 in
set_option maxRecDepth 100000 in
theorem c_T_out_b1 (l : Launch) (hlt : l.stackTraces = false) {dC : Nat → ClassId} {dI : Nat → Nat → Nat} {cI cL cT : ClassId} {sa : Nat → Nat} (g ca : Nat → Nat) (F nt E : Nat) (p0 : Int32) (hF12 : F ≤ 12) (hn6 : nt ≤ 6) (hbad : ¬ (1 ≤ p0.toInt ∧ p0.toInt ≤ 50)) : vx_Met l y_T_out (Cond.code y_T_out b_T_out 3 (some .int) :: gw) ({ frames := 9, cells := 1, slots := 6, locals := 190 } : Room) (px dC dI cI cL cT sa [.ref (g 0), .int p0] [(g 0, .inr (5, [.ref (g 1), .ref (g 4), .int (nI nt), .ref (g 5), .ref (g 6), .ref (g 11)])), (g 1, .inr (0, [.ref (g 2), .ref (g 3), .int (nI F), .int (nI E)])), (g 4, .inl (cT, 6, .inr (.inr (.inr (.inr (tq ca nt))))))]) xQ (xX E_arg) 1 6 xF := by
  refine vx_ofW (cc := b_T_out) (maxL := 3) (ret := (some .int)) (by decide) rfl ?_
  intro p e s m args below meth c s₁ B hml hxt hv
  obtain ⟨rfl, hC, hP, hT⟩ := hv
  have hx := B.exec
  have hb := B.bytes
  have hts : ∀ w ∈ gw, w.before ([.ref (g 0), .int p0] : List Value).toArray s = true := fun w hw => atoms_spec (ws := Cond.code y_T_out b_T_out 3 (some .int) :: gw) B.pre w (List.mem_cons_of_mem _ hw)
  have hown : s.vm.findClass R_T = some m.cls := findClass_of_methodNamed B.named
  have hlocks := B.notSynchronized
  have hK := hC.1
  have hfr : 9 ≤ (headSpec (Cond.code y_T_out b_T_out 3 (some .int) :: gw) ({ frames := 9, cells := 1, slots := 6, locals := 190 } : Room)).room.frames := Nat.le_refl _
  have hlo : 190 ≤ (headSpec (Cond.code y_T_out b_T_out 3 (some .int) :: gw) ({ frames := 9, cells := 1, slots := 6, locals := 190 } : Room)).room.locals := Nat.le_refl _
  have hce : 0 ≤ (headSpec (Cond.code y_T_out b_T_out 3 (some .int) :: gw) ({ frames := 9, cells := 1, slots := 6, locals := 190 } : Room)).room.cells := Nat.zero_le _
  have hsl : 0 ≤ (headSpec (Cond.code y_T_out b_T_out 3 (some .int) :: gw) ({ frames := 9, cells := 1, slots := 6, locals := 190 } : Room)).room.slots := Nat.zero_le _
  have hc1 : 1 ≤ (headSpec (Cond.code y_T_out b_T_out 3 (some .int) :: gw) ({ frames := 9, cells := 1, slots := 6, locals := 190 } : Room)).room.cells := Nat.le_refl _
  have hs6 : 6 ≤ (headSpec (Cond.code y_T_out b_T_out 3 (some .int) :: gw) ({ frames := 9, cells := 1, slots := 6, locals := 190 } : Room)).room.slots := Nat.le_refl _
  have hl := lv_entry ([.ref (g 0), .int p0]) (n := 3) (Nat.le_of_ble_eq_true rfl)
  rw [lg_entry_eq]
  generalize (lg_sl ([.ref (g 0), .int p0]) ++ List.replicate (3 - (lg_sl ([.ref (g 0), .int p0])).length) Slot.unset).toArray = ls at hl ⊢
  have hl : lv_has ls 3 [(0, .ref (g 0)), (1, .int p0)] := hl
  refine lv_iload_n hx hb d_T_out_0 rfl (lv_at hl 1 rfl) ?_
  refine lv_iconst (v := nI 1) hx hb d_T_out_1 (by decide) ?_
  refine lv_bipush (v := nI 50) hx hb d_T_out_2 (by decide) ?_
  refine tx_call (vx_runS (As := [.int p0, .int (nI 1), .int (nI 50)]) (rest := []) ⟨hx, hb, hml, hown, hts⟩ (c_T_requireWithin_b l hlt p0 (nI 1) (nI 50) 1 50 (nI_toInt (by decide)) (nI_toInt (by decide)) hbad) (cwS 3 hts (gw_S k_150 k_148 k_149 k_1) rfl rfl rfl (by decide +kernel) ⟨Nat.le_trans (Nat.le_of_ble_eq_true rfl) hfr, Nat.le_trans (Nat.le_of_ble_eq_true rfl) hlo⟩) ⟨px_blind, px_at hC (fun k q h => by simp at h) hT⟩ rfl rfl hl.1 rfl (lv_room (Nat.le_of_ble_eq_true rfl)) d_T_out_4 ⟨hc1, hs6⟩) (fun ce q9 H1 hz1 hk1 hce1 hv1 hcl1 => ?_)
  exact tx_out hxt hlocks hz1 hk1 hce1 hv1 hcl1 (by decide) (by decide)
set_option maxHeartbeats 4000000 in
set_option maxRecDepth 100000 in
theorem c_T_there_b1 (l : Launch) (hlt : l.stackTraces = false) {dC : Nat → ClassId} {dI : Nat → Nat → Nat} {cI cL cT : ClassId} {sa : Nat → Nat} (g ca : Nat → Nat) (F nt E : Nat) (p0 p1 p2 : Int32) (hF12 : F ≤ 12) (hn6 : nt ≤ 6) (hbad : ¬ ((1 ≤ p0.toInt ∧ p0.toInt ≤ 50) ∧ okFl F p1 ∧ (0 ≤ p2.toInt ∧ p2.toInt ≤ 1000))) : vx_Met l y_T_there (Cond.code y_T_there b_T_there 5 (some .int) :: gw) ({ frames := 9, cells := 1, slots := 6, locals := 190 } : Room) (px dC dI cI cL cT sa [.ref (g 0), .int p0, .int p1, .int p2] [(g 0, .inr (5, [.ref (g 1), .ref (g 4), .int (nI nt), .ref (g 5), .ref (g 6), .ref (g 11)])), (g 1, .inr (0, [.ref (g 2), .ref (g 3), .int (nI F), .int (nI E)])), (g 4, .inl (cT, 6, .inr (.inr (.inr (.inr (tq ca nt))))))]) xQ (xX E_arg) 1 6 xF := by
  refine vx_ofW (cc := b_T_there) (maxL := 5) (ret := (some .int)) (by decide) rfl ?_
  intro p e s m args below meth c s₁ B hml hxt hv
  obtain ⟨rfl, hC, hP, hT⟩ := hv
  have hx := B.exec
  have hb := B.bytes
  have hts : ∀ w ∈ gw, w.before ([.ref (g 0), .int p0, .int p1, .int p2] : List Value).toArray s = true := fun w hw => atoms_spec (ws := Cond.code y_T_there b_T_there 5 (some .int) :: gw) B.pre w (List.mem_cons_of_mem _ hw)
  have hown : s.vm.findClass R_T = some m.cls := findClass_of_methodNamed B.named
  have hlocks := B.notSynchronized
  have hK := hC.1
  have hfr : 9 ≤ (headSpec (Cond.code y_T_there b_T_there 5 (some .int) :: gw) ({ frames := 9, cells := 1, slots := 6, locals := 190 } : Room)).room.frames := Nat.le_refl _
  have hlo : 190 ≤ (headSpec (Cond.code y_T_there b_T_there 5 (some .int) :: gw) ({ frames := 9, cells := 1, slots := 6, locals := 190 } : Room)).room.locals := Nat.le_refl _
  have hce : 0 ≤ (headSpec (Cond.code y_T_there b_T_there 5 (some .int) :: gw) ({ frames := 9, cells := 1, slots := 6, locals := 190 } : Room)).room.cells := Nat.zero_le _
  have hsl : 0 ≤ (headSpec (Cond.code y_T_there b_T_there 5 (some .int) :: gw) ({ frames := 9, cells := 1, slots := 6, locals := 190 } : Room)).room.slots := Nat.zero_le _
  have hc1 : 1 ≤ (headSpec (Cond.code y_T_there b_T_there 5 (some .int) :: gw) ({ frames := 9, cells := 1, slots := 6, locals := 190 } : Room)).room.cells := Nat.le_refl _
  have hs6 : 6 ≤ (headSpec (Cond.code y_T_there b_T_there 5 (some .int) :: gw) ({ frames := 9, cells := 1, slots := 6, locals := 190 } : Room)).room.slots := Nat.le_refl _
  have hl := lv_entry ([.ref (g 0), .int p0, .int p1, .int p2]) (n := 5) (Nat.le_of_ble_eq_true rfl)
  rw [lg_entry_eq]
  generalize (lg_sl ([.ref (g 0), .int p0, .int p1, .int p2]) ++ List.replicate (5 - (lg_sl ([.ref (g 0), .int p0, .int p1, .int p2])).length) Slot.unset).toArray = ls at hl ⊢
  have hl : lv_has ls 5 [(0, .ref (g 0)), (1, .int p0), (2, .int p1), (3, .int p2)] := hl
  refine lv_iload_n hx hb d_T_there_0 rfl (lv_at hl 1 rfl) ?_
  refine lv_iconst (v := nI 1) hx hb d_T_there_1 (by decide) ?_
  refine lv_bipush (v := nI 50) hx hb d_T_there_2 (by decide) ?_
  by_cases a0 : 1 ≤ p0.toInt ∧ p0.toInt ≤ 50
  · refine ro_callv (va_runS (As := [.int p0, .int (nI 1), .int (nI 50)]) (rest := []) ⟨hx, hb, hml, hown, hts⟩ (c_T_requireWithin l p0 (nI 1) (nI 50) 1 50 (nI_toInt (by decide)) (nI_toInt (by decide)) a0) (cwS 3 hts (gw_S k_150 k_148 k_149 k_1) rfl rfl rfl (by decide +kernel) ⟨Nat.le_trans (Nat.le_of_ble_eq_true rfl) hfr, Nat.le_trans (Nat.le_of_ble_eq_true rfl) hlo⟩) ⟨pr_blind, pr_at hC (fun k q h => by simp at h)⟩ rfl rfl hl.1 rfl (lv_room (Nat.le_of_ble_eq_true rfl)) d_T_there_4 ⟨hce, hsl⟩) ?_
    refine lv_aload_n hx hb d_T_there_7 rfl (lv_at hl 0 rfl) ?_
    refine lv_iload_n hx hb d_T_there_8 rfl (lv_at hl 2 rfl) ?_
    by_cases a1 : okFl F p1
    · refine ro_callv (va_runV (As := [.int p1]) (rest := []) ⟨hx, hb, hml, hown, hts⟩ (c_T_requireFloor l g F nt E p1 hF12 a1) (cwV 1 hts (gw_V k_252 k_249 k_251 ks_T_requireFloor k_1) rfl rfl rfl (by decide +kernel) ⟨Nat.le_trans (Nat.le_of_ble_eq_true rfl) hfr, Nat.le_trans (Nat.le_of_ble_eq_true rfl) hlo⟩) ⟨pr_blind, va_recv hK hP (ci := 5) (q0 := 0) rfl rfl, pr_at hC (hP.sub (ws' := [(g 0, .inr (5, [.ref (g 1), .ref (g 4), .int (nI nt), .ref (g 5), .ref (g 6), .ref (g 11)])), (g 1, .inr (0, [.ref (g 2), .ref (g 3), .int (nI F), .int (nI E)]))]) [0, 1] rfl)⟩ rfl rfl hl.1 rfl (lv_room (Nat.le_of_ble_eq_true rfl)) d_T_there_9 ⟨hce, hsl⟩) ?_
      refine lv_iload_n hx hb d_T_there_12 rfl (lv_at hl 3 rfl) ?_
      refine lv_iconst (v := nI 0) hx hb d_T_there_13 (by decide) ?_
      refine lv_sipush (v := nI 1000) hx hb d_T_there_14 (by decide) ?_
      refine tx_call (vx_runS (As := [.int p2, .int (nI 0), .int (nI 1000)]) (rest := []) ⟨hx, hb, hml, hown, hts⟩ (c_T_requireWithin_b l hlt p2 (nI 0) (nI 1000) 0 1000 (nI_toInt (by decide)) (nI_toInt (by decide)) (fun a2 => hbad ⟨a0, a1, a2⟩)) (cwS 3 hts (gw_S k_150 k_148 k_149 k_1) rfl rfl rfl (by decide +kernel) ⟨Nat.le_trans (Nat.le_of_ble_eq_true rfl) hfr, Nat.le_trans (Nat.le_of_ble_eq_true rfl) hlo⟩) ⟨px_blind, px_at hC (fun k q h => by simp at h) hT⟩ rfl rfl hl.1 rfl (lv_room (Nat.le_of_ble_eq_true rfl)) d_T_there_17 ⟨hc1, hs6⟩) (fun ce q9 H1 hz1 hk1 hce1 hv1 hcl1 => ?_)
      exact tx_out hxt hlocks hz1 hk1 hce1 hv1 hcl1 (by decide) (by decide)
    · refine tx_call (vx_runV (As := [.int p1]) (rest := []) ⟨hx, hb, hml, hown, hts⟩ (c_T_requireFloor_b l hlt g F nt E p1 hF12 a1) (cwV 1 hts (gw_V k_252 k_249 k_251 ks_T_requireFloor k_1) rfl rfl rfl (by decide +kernel) ⟨Nat.le_trans (Nat.le_of_ble_eq_true rfl) hfr, Nat.le_trans (Nat.le_of_ble_eq_true rfl) hlo⟩) ⟨px_blind, va_recv hK hP (ci := 5) (q0 := 0) rfl rfl, px_at hC (hP.sub (ws' := [(g 0, .inr (5, [.ref (g 1), .ref (g 4), .int (nI nt), .ref (g 5), .ref (g 6), .ref (g 11)])), (g 1, .inr (0, [.ref (g 2), .ref (g 3), .int (nI F), .int (nI E)]))]) [0, 1] rfl) hT⟩ rfl rfl hl.1 rfl (lv_room (Nat.le_of_ble_eq_true rfl)) d_T_there_9 ⟨hc1, hs6⟩) (fun ce q9 H1 hz1 hk1 hce1 hv1 hcl1 => ?_)
      exact tx_out hxt hlocks hz1 hk1 hce1 hv1 hcl1 (by decide) (by decide)
  · refine tx_call (vx_runS (As := [.int p0, .int (nI 1), .int (nI 50)]) (rest := []) ⟨hx, hb, hml, hown, hts⟩ (c_T_requireWithin_b l hlt p0 (nI 1) (nI 50) 1 50 (nI_toInt (by decide)) (nI_toInt (by decide)) a0) (cwS 3 hts (gw_S k_150 k_148 k_149 k_1) rfl rfl rfl (by decide +kernel) ⟨Nat.le_trans (Nat.le_of_ble_eq_true rfl) hfr, Nat.le_trans (Nat.le_of_ble_eq_true rfl) hlo⟩) ⟨px_blind, px_at hC (fun k q h => by simp at h) hT⟩ rfl rfl hl.1 rfl (lv_room (Nat.le_of_ble_eq_true rfl)) d_T_there_4 ⟨hc1, hs6⟩) (fun ce q9 H1 hz1 hk1 hce1 hv1 hcl1 => ?_)
    exact tx_out hxt hlocks hz1 hk1 hce1 hv1 hcl1 (by decide) (by decide)
set_option maxHeartbeats 4000000 in
set_option maxRecDepth 100000 in
theorem c_T_crowd_b1 (l : Launch) (hlt : l.stackTraces = false) {dC : Nat → ClassId} {dI : Nat → Nat → Nat} {cI cL cT : ClassId} {sa : Nat → Nat} (g ca : Nat → Nat) (F nt E : Nat) (p0 p1 : Int32) (hF12 : F ≤ 12) (hn6 : nt ≤ 6) (hbad : ¬ ((1 ≤ p0.toInt ∧ p0.toInt ≤ 50) ∧ okFl F p1)) : vx_Met l y_T_crowd (Cond.code y_T_crowd b_T_crowd 5 (some .int) :: gw) ({ frames := 9, cells := 1, slots := 6, locals := 190 } : Room) (px dC dI cI cL cT sa [.ref (g 0), .int p0, .int p1] [(g 0, .inr (5, [.ref (g 1), .ref (g 4), .int (nI nt), .ref (g 5), .ref (g 6), .ref (g 11)])), (g 1, .inr (0, [.ref (g 2), .ref (g 3), .int (nI F), .int (nI E)])), (g 4, .inl (cT, 6, .inr (.inr (.inr (.inr (tq ca nt))))))]) xQ (xX E_arg) 1 6 xF := by
  refine vx_ofW (cc := b_T_crowd) (maxL := 5) (ret := (some .int)) (by decide) rfl ?_
  intro p e s m args below meth c s₁ B hml hxt hv
  obtain ⟨rfl, hC, hP, hT⟩ := hv
  have hx := B.exec
  have hb := B.bytes
  have hts : ∀ w ∈ gw, w.before ([.ref (g 0), .int p0, .int p1] : List Value).toArray s = true := fun w hw => atoms_spec (ws := Cond.code y_T_crowd b_T_crowd 5 (some .int) :: gw) B.pre w (List.mem_cons_of_mem _ hw)
  have hown : s.vm.findClass R_T = some m.cls := findClass_of_methodNamed B.named
  have hlocks := B.notSynchronized
  have hK := hC.1
  have hfr : 9 ≤ (headSpec (Cond.code y_T_crowd b_T_crowd 5 (some .int) :: gw) ({ frames := 9, cells := 1, slots := 6, locals := 190 } : Room)).room.frames := Nat.le_refl _
  have hlo : 190 ≤ (headSpec (Cond.code y_T_crowd b_T_crowd 5 (some .int) :: gw) ({ frames := 9, cells := 1, slots := 6, locals := 190 } : Room)).room.locals := Nat.le_refl _
  have hce : 0 ≤ (headSpec (Cond.code y_T_crowd b_T_crowd 5 (some .int) :: gw) ({ frames := 9, cells := 1, slots := 6, locals := 190 } : Room)).room.cells := Nat.zero_le _
  have hsl : 0 ≤ (headSpec (Cond.code y_T_crowd b_T_crowd 5 (some .int) :: gw) ({ frames := 9, cells := 1, slots := 6, locals := 190 } : Room)).room.slots := Nat.zero_le _
  have hc1 : 1 ≤ (headSpec (Cond.code y_T_crowd b_T_crowd 5 (some .int) :: gw) ({ frames := 9, cells := 1, slots := 6, locals := 190 } : Room)).room.cells := Nat.le_refl _
  have hs6 : 6 ≤ (headSpec (Cond.code y_T_crowd b_T_crowd 5 (some .int) :: gw) ({ frames := 9, cells := 1, slots := 6, locals := 190 } : Room)).room.slots := Nat.le_refl _
  have hl := lv_entry ([.ref (g 0), .int p0, .int p1]) (n := 5) (Nat.le_of_ble_eq_true rfl)
  rw [lg_entry_eq]
  generalize (lg_sl ([.ref (g 0), .int p0, .int p1]) ++ List.replicate (5 - (lg_sl ([.ref (g 0), .int p0, .int p1])).length) Slot.unset).toArray = ls at hl ⊢
  have hl : lv_has ls 5 [(0, .ref (g 0)), (1, .int p0), (2, .int p1)] := hl
  refine lv_iload_n hx hb d_T_crowd_0 rfl (lv_at hl 1 rfl) ?_
  refine lv_iconst (v := nI 1) hx hb d_T_crowd_1 (by decide) ?_
  refine lv_bipush (v := nI 50) hx hb d_T_crowd_2 (by decide) ?_
  by_cases a0 : 1 ≤ p0.toInt ∧ p0.toInt ≤ 50
  · refine ro_callv (va_runS (As := [.int p0, .int (nI 1), .int (nI 50)]) (rest := []) ⟨hx, hb, hml, hown, hts⟩ (c_T_requireWithin l p0 (nI 1) (nI 50) 1 50 (nI_toInt (by decide)) (nI_toInt (by decide)) a0) (cwS 3 hts (gw_S k_150 k_148 k_149 k_1) rfl rfl rfl (by decide +kernel) ⟨Nat.le_trans (Nat.le_of_ble_eq_true rfl) hfr, Nat.le_trans (Nat.le_of_ble_eq_true rfl) hlo⟩) ⟨pr_blind, pr_at hC (fun k q h => by simp at h)⟩ rfl rfl hl.1 rfl (lv_room (Nat.le_of_ble_eq_true rfl)) d_T_crowd_4 ⟨hce, hsl⟩) ?_
    refine lv_aload_n hx hb d_T_crowd_7 rfl (lv_at hl 0 rfl) ?_
    refine lv_iload_n hx hb d_T_crowd_8 rfl (lv_at hl 2 rfl) ?_
    refine tx_call (vx_runV (As := [.int p1]) (rest := []) ⟨hx, hb, hml, hown, hts⟩ (c_T_requireFloor_b l hlt g F nt E p1 hF12 (fun a1 => hbad ⟨a0, a1⟩)) (cwV 1 hts (gw_V k_252 k_249 k_251 ks_T_requireFloor k_1) rfl rfl rfl (by decide +kernel) ⟨Nat.le_trans (Nat.le_of_ble_eq_true rfl) hfr, Nat.le_trans (Nat.le_of_ble_eq_true rfl) hlo⟩) ⟨px_blind, va_recv hK hP (ci := 5) (q0 := 0) rfl rfl, px_at hC (hP.sub (ws' := [(g 0, .inr (5, [.ref (g 1), .ref (g 4), .int (nI nt), .ref (g 5), .ref (g 6), .ref (g 11)])), (g 1, .inr (0, [.ref (g 2), .ref (g 3), .int (nI F), .int (nI E)]))]) [0, 1] rfl) hT⟩ rfl rfl hl.1 rfl (lv_room (Nat.le_of_ble_eq_true rfl)) d_T_crowd_9 ⟨hc1, hs6⟩) (fun ce q9 H1 hz1 hk1 hce1 hv1 hcl1 => ?_)
    exact tx_out hxt hlocks hz1 hk1 hce1 hv1 hcl1 (by decide) (by decide)
  · refine tx_call (vx_runS (As := [.int p0, .int (nI 1), .int (nI 50)]) (rest := []) ⟨hx, hb, hml, hown, hts⟩ (c_T_requireWithin_b l hlt p0 (nI 1) (nI 50) 1 50 (nI_toInt (by decide)) (nI_toInt (by decide)) a0) (cwS 3 hts (gw_S k_150 k_148 k_149 k_1) rfl rfl rfl (by decide +kernel) ⟨Nat.le_trans (Nat.le_of_ble_eq_true rfl) hfr, Nat.le_trans (Nat.le_of_ble_eq_true rfl) hlo⟩) ⟨px_blind, px_at hC (fun k q h => by simp at h) hT⟩ rfl rfl hl.1 rfl (lv_room (Nat.le_of_ble_eq_true rfl)) d_T_crowd_4 ⟨hc1, hs6⟩) (fun ce q9 H1 hz1 hk1 hce1 hv1 hcl1 => ?_)
    exact tx_out hxt hlocks hz1 hk1 hce1 hv1 hcl1 (by decide) (by decide)
