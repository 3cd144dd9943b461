set_option maxHeartbeats 4000000 in
set_option maxRecDepth 100000 in
theorem c_O_tripAbove (l : Launch) {dC : Nat → ClassId} {dI : Nat → Nat → Nat} {cI cL cT : ClassId} {sa : Nat → Nat} (g : Nat → Nat) (ka e0 wy so ho rm sd dr pe ce : Nat) (he : e0 ≤ 1) (hrm : rm ≤ 5) (hsd : sd ≤ 100) (hdr : dr ≤ 30) (hpe : pe ≤ 10) : Met l y_O_tripAbove (Cond.code y_O_tripAbove b_O_tripAbove 6 (some .long) :: gw) ({ frames := 0, cells := 0, slots := 0, locals := 0 } : Room) (pr dC dI cI cL cT sa [.ref (g 5), .ref ka] [(g 5, .inr (2, [.int (nI e0), .long (lN wy), .long (lN so), .long (lN ho)])), (ka, .inr (1, [.int (nI rm), .int (nI sd), .int (nI dr), .int (nI pe), .int (nI ce)]))]) (vp_Sl (fun r => r = lN (oA e0 wy so ho rm sd dr pe))) 0 0 (fun _ => False) := by
  refine Met.ofW (cc := b_O_tripAbove) (maxL := 6) (ret := (some .long)) (by decide) rfl ?_
  intro p e s m args below meth c s₁ B hml hv
  obtain ⟨rfl, hC, hP⟩ := hv
  have hx := B.exec
  have hb := B.bytes
  have hr := B.returns
  have hts : ∀ w ∈ gw, w.before ([.ref (g 5), .ref ka] : List Value).toArray s = true := fun w hw => atoms_spec (ws := Cond.code y_O_tripAbove b_O_tripAbove 6 (some .long) :: gw) B.pre w (List.mem_cons_of_mem _ hw)
  have hown : s.vm.findClass R_O = some m.cls := findClass_of_methodNamed B.named
  have hlocks := B.notSynchronized
  have hK := hC.1
  have hfr : 0 ≤ (headSpec (Cond.code y_O_tripAbove b_O_tripAbove 6 (some .long) :: gw) ({ frames := 0, cells := 0, slots := 0, locals := 0 } : Room)).room.frames := Nat.le_refl _
  have hlo : 0 ≤ (headSpec (Cond.code y_O_tripAbove b_O_tripAbove 6 (some .long) :: gw) ({ frames := 0, cells := 0, slots := 0, locals := 0 } : Room)).room.locals := Nat.le_refl _
  have hce : 0 ≤ (headSpec (Cond.code y_O_tripAbove b_O_tripAbove 6 (some .long) :: gw) ({ frames := 0, cells := 0, slots := 0, locals := 0 } : Room)).room.cells := Nat.zero_le _
  have hsl : 0 ≤ (headSpec (Cond.code y_O_tripAbove b_O_tripAbove 6 (some .long) :: gw) ({ frames := 0, cells := 0, slots := 0, locals := 0 } : Room)).room.slots := Nat.zero_le _
  have hl := lv_entry ([.ref (g 5), .ref ka]) (n := 6) (Nat.le_of_ble_eq_true rfl)
  rw [lg_entry_eq]
  generalize (lg_sl ([.ref (g 5), .ref ka]) ++ List.replicate (6 - (lg_sl ([.ref (g 5), .ref ka])).length) Slot.unset).toArray = ls at hl ⊢
  have hl : lv_has ls 6 [(0, .ref (g 5)), (1, .ref ka)] := hl
  refine lv_aload_n hx hb d_O_tripAbove_0 rfl (lv_at hl 0 rfl) ?_
  refine va_get (D := (dC, dI)) (ci := 2) (v := .int (nI e0)) (C := R_O) (T := F_O) (N := 4) hx hb hts i_O hown hK hP 0 rfl rfl 0 (by decide) (hts _ k_59) (fun _ h9 => h9) rfl d_O_tripAbove_1 ?_
  refine nx_if_eq (tgt := 9) hx hb d_O_tripAbove_4 (by decide) (by omega) (fun h1 => ?_) (fun h1 => ?_)
  · refine lv_aload_n hx hb d_O_tripAbove_9 rfl (lv_at hl 1 rfl) ?_
    refine va_get (D := (dC, dI)) (ci := 1) (v := .int (nI dr)) (C := R_C) (T := F_C) (N := 5) hx hb hts i_C hown hK hP 1 rfl rfl 2 (by decide) (hts _ k_275) (fun _ h9 => h9) rfl d_O_tripAbove_10 ?_
    refine nx_i2l hx hb d_O_tripAbove_13 (by omega) ?_
    refine lv_aload_n hx hb d_O_tripAbove_14 rfl (lv_at hl 0 rfl) ?_
    refine va_get (D := (dC, dI)) (ci := 2) (v := .long (lN so)) (C := R_O) (T := F_O) (N := 4) hx hb hts i_O hown hK hP 0 rfl rfl 2 (by decide) (hts _ k_62) (fun _ h9 => h9) rfl d_O_tripAbove_15 ?_
    refine lv_aload_n hx hb d_O_tripAbove_18 rfl (lv_at hl 0 rfl) ?_
    refine va_get (D := (dC, dI)) (ci := 2) (v := .long (lN wy)) (C := R_O) (T := F_O) (N := 4) hx hb hts i_O hown hK hP 0 rfl rfl 1 (by decide) (hts _ k_60) (fun _ h9 => h9) rfl d_O_tripAbove_19 ?_
    refine nx_ladd hx hb d_O_tripAbove_22 ?_
    refine nx_lmul hx hb d_O_tripAbove_23 ?_
    refine lv_lstore_n (lv' := [(2, .long (lN (dr * (so + wy)))), (0, .ref (g 5)), (1, .ref ka)]) hx hb d_O_tripAbove_24 rfl hl (by decide) rfl (fun ls hl => ?_)
    refine lv_ldc2 (v := lN 2) hx hb hown (hts _ k_347) d_O_tripAbove_25 ?_
    refine lv_aload_n hx hb d_O_tripAbove_28 rfl (lv_at hl 2 rfl) ?_
    refine va_get (D := (dC, dI)) (ci := 1) (v := .int (nI rm)) (C := R_C) (T := F_C) (N := 5) hx hb hts i_C hown hK hP 1 rfl rfl 0 (by decide) (hts _ k_270) (fun _ h9 => h9) rfl d_O_tripAbove_29 ?_
    refine nx_i2l hx hb d_O_tripAbove_32 (by omega) ?_
    refine nx_lmul hx hb d_O_tripAbove_33 ?_
    refine lv_aload_n hx hb d_O_tripAbove_34 rfl (lv_at hl 2 rfl) ?_
    refine va_get (D := (dC, dI)) (ci := 1) (v := .int (nI pe)) (C := R_C) (T := F_C) (N := 5) hx hb hts i_C hown hK hP 1 rfl rfl 3 (by decide) (hts _ k_277) (fun _ h9 => h9) rfl d_O_tripAbove_35 ?_
    refine nx_i2l hx hb d_O_tripAbove_38 (by omega) ?_
    refine nx_lmul hx hb d_O_tripAbove_39 ?_
    refine lv_aload_n hx hb d_O_tripAbove_40 rfl (lv_at hl 1 rfl) ?_
    refine va_get (D := (dC, dI)) (ci := 2) (v := .long (lN wy)) (C := R_O) (T := F_O) (N := 4) hx hb hts i_O hown hK hP 0 rfl rfl 1 (by decide) (hts _ k_60) (fun _ h9 => h9) rfl d_O_tripAbove_41 ?_
    refine nx_lmul hx hb d_O_tripAbove_44 ?_
    refine lv_lstore (lv' := [(4, .long (lN (((2 * rm) * pe) * wy))), (2, .long (lN (dr * (so + wy)))), (0, .ref (g 5)), (1, .ref ka)]) hx hb d_O_tripAbove_45 hl (by decide) rfl (fun ls hl => ?_)
    refine lv_ldc2 (v := lN 2) hx hb hown (hts _ k_347) d_O_tripAbove_47 ?_
    refine lv_aload_n hx hb d_O_tripAbove_50 rfl (lv_at hl 2 rfl) ?_
    refine va_get (D := (dC, dI)) (ci := 2) (v := .long (lN ho)) (C := R_O) (T := F_O) (N := 4) hx hb hts i_O hown hK hP 0 rfl rfl 3 (by decide) (hts _ k_64) (fun _ h9 => h9) rfl d_O_tripAbove_51 ?_
    refine nx_lmul hx hb d_O_tripAbove_54 ?_
    refine lv_aload_n hx hb d_O_tripAbove_55 rfl (lv_at hl 3 rfl) ?_
    refine va_get (D := (dC, dI)) (ci := 1) (v := .int (nI sd)) (C := R_C) (T := F_C) (N := 5) hx hb hts i_C hown hK hP 1 rfl rfl 1 (by decide) (hts _ k_273) (fun _ h9 => h9) rfl d_O_tripAbove_56 ?_
    refine nx_i2l hx hb d_O_tripAbove_59 (by omega) ?_
    refine lv_lload_n hx hb d_O_tripAbove_60 rfl (lv_at hl 1 rfl) ?_
    refine lv_lload hx hb d_O_tripAbove_61 (lv_at hl 0 rfl) ?_
    refine nx_ladd hx hb d_O_tripAbove_63 ?_
    refine nx_lmul hx hb d_O_tripAbove_64 ?_
    refine nx_ladd hx hb d_O_tripAbove_65 ?_
    exact W.lret hx hb hr (fun t ht hW => ⟨_, rfl, by rw [oA, if_pos h1], ht⟩) (fun q h => by cases h) d_O_tripAbove_66
  · refine lv_lconst (v := lN 0) hx hb d_O_tripAbove_7 (by decide) ?_
    exact W.lret hx hb hr (fun t ht hW => ⟨_, rfl, by rw [oA, if_neg (by omega)], ht⟩) (fun q h => by cases h) d_O_tripAbove_8
set_option maxHeartbeats 4000000 in
set_option maxRecDepth 100000 in
theorem c_O_tripBelow (l : Launch) {dC : Nat → ClassId} {dI : Nat → Nat → Nat} {cI cL cT : ClassId} {sa : Nat → Nat} (g : Nat → Nat) (ka e0 wy so ho rm sd dr pe ce : Nat) (he : e0 ≤ 1) (hrm : rm ≤ 5) (hsd : sd ≤ 100) (hdr : dr ≤ 30) (hpe : pe ≤ 10) : Met l y_O_tripBelow (Cond.code y_O_tripBelow b_O_tripBelow 2 (some .long) :: gw) ({ frames := 0, cells := 0, slots := 0, locals := 0 } : Room) (pr dC dI cI cL cT sa [.ref (g 5), .ref ka] [(g 5, .inr (2, [.int (nI e0), .long (lN wy), .long (lN so), .long (lN ho)])), (ka, .inr (1, [.int (nI rm), .int (nI sd), .int (nI dr), .int (nI pe), .int (nI ce)]))]) (vp_Sl (fun r => r = lN (sd * wy))) 0 0 (fun _ => False) := by
  refine Met.ofW (cc := b_O_tripBelow) (maxL := 2) (ret := (some .long)) (by decide) rfl ?_
  intro p e s m args below meth c s₁ B hml hv
  obtain ⟨rfl, hC, hP⟩ := hv
  have hx := B.exec
  have hb := B.bytes
  have hr := B.returns
  have hts : ∀ w ∈ gw, w.before ([.ref (g 5), .ref ka] : List Value).toArray s = true := fun w hw => atoms_spec (ws := Cond.code y_O_tripBelow b_O_tripBelow 2 (some .long) :: gw) B.pre w (List.mem_cons_of_mem _ hw)
  have hown : s.vm.findClass R_O = some m.cls := findClass_of_methodNamed B.named
  have hlocks := B.notSynchronized
  have hK := hC.1
  have hfr : 0 ≤ (headSpec (Cond.code y_O_tripBelow b_O_tripBelow 2 (some .long) :: gw) ({ frames := 0, cells := 0, slots := 0, locals := 0 } : Room)).room.frames := Nat.le_refl _
  have hlo : 0 ≤ (headSpec (Cond.code y_O_tripBelow b_O_tripBelow 2 (some .long) :: gw) ({ frames := 0, cells := 0, slots := 0, locals := 0 } : Room)).room.locals := Nat.le_refl _
  have hce : 0 ≤ (headSpec (Cond.code y_O_tripBelow b_O_tripBelow 2 (some .long) :: gw) ({ frames := 0, cells := 0, slots := 0, locals := 0 } : Room)).room.cells := Nat.zero_le _
  have hsl : 0 ≤ (headSpec (Cond.code y_O_tripBelow b_O_tripBelow 2 (some .long) :: gw) ({ frames := 0, cells := 0, slots := 0, locals := 0 } : Room)).room.slots := Nat.zero_le _
  have hl := lv_entry ([.ref (g 5), .ref ka]) (n := 2) (Nat.le_of_ble_eq_true rfl)
  rw [lg_entry_eq]
  generalize (lg_sl ([.ref (g 5), .ref ka]) ++ List.replicate (2 - (lg_sl ([.ref (g 5), .ref ka])).length) Slot.unset).toArray = ls at hl ⊢
  have hl : lv_has ls 2 [(0, .ref (g 5)), (1, .ref ka)] := hl
  refine lv_aload_n hx hb d_O_tripBelow_0 rfl (lv_at hl 1 rfl) ?_
  refine va_get (D := (dC, dI)) (ci := 1) (v := .int (nI sd)) (C := R_C) (T := F_C) (N := 5) hx hb hts i_C hown hK hP 1 rfl rfl 1 (by decide) (hts _ k_273) (fun _ h9 => h9) rfl d_O_tripBelow_1 ?_
  refine nx_i2l hx hb d_O_tripBelow_4 (by omega) ?_
  refine lv_aload_n hx hb d_O_tripBelow_5 rfl (lv_at hl 0 rfl) ?_
  refine va_get (D := (dC, dI)) (ci := 2) (v := .long (lN wy)) (C := R_O) (T := F_O) (N := 4) hx hb hts i_O hown hK hP 0 rfl rfl 1 (by decide) (hts _ k_60) (fun _ h9 => h9) rfl d_O_tripBelow_6 ?_
  refine nx_lmul hx hb d_O_tripBelow_9 ?_
  exact W.lret hx hb hr (fun t ht hW => ⟨_, rfl, rfl, ht⟩) (fun q h => by cases h) d_O_tripBelow_10
set_option maxHeartbeats 4000000 in
set_option maxRecDepth 100000 in
theorem c_O_carriedBy (l : Launch) {dC : Nat → ClassId} {dI : Nat → Nat → Nat} {cI cL cT : ClassId} {sa : Nat → Nat} (g : Nat → Nat) (ka e0 wy so ho rm sd dr pe ce : Nat) (cars : Nat) (he : e0 ≤ 1) (hrm : rm ≤ 5) (hsd : sd ≤ 100) (hdr : dr ≤ 30) (hpe : pe ≤ 10) (hcars : cars ≤ 6) (hA6 : oA e0 wy so ho rm sd dr pe < 2 ^ 63) (hB6 : 300 * cars * rm * (sd * wy) < 2 ^ 63) : Met l y_O_carriedBy (Cond.code y_O_carriedBy b_O_carriedBy 5 (some .long) :: gw) ({ frames := 1, cells := 0, slots := 0, locals := 25 } : Room) (pr dC dI cI cL cT sa [.ref (g 5), .int (nI cars), .ref ka] [(g 5, .inr (2, [.int (nI e0), .long (lN wy), .long (lN so), .long (lN ho)])), (ka, .inr (1, [.int (nI rm), .int (nI sd), .int (nI dr), .int (nI pe), .int (nI ce)]))]) (vp_Sl (fun r => r = lN (oC cars rm (oA e0 wy so ho rm sd dr pe) (sd * wy)))) 0 0 (fun _ => False) := by
  refine Met.ofW (cc := b_O_carriedBy) (maxL := 5) (ret := (some .long)) (by decide) rfl ?_
  intro p e s m args below meth c s₁ B hml hv
  obtain ⟨rfl, hC, hP⟩ := hv
  have hx := B.exec
  have hb := B.bytes
  have hr := B.returns
  have hts : ∀ w ∈ gw, w.before ([.ref (g 5), .int (nI cars), .ref ka] : List Value).toArray s = true := fun w hw => atoms_spec (ws := Cond.code y_O_carriedBy b_O_carriedBy 5 (some .long) :: gw) B.pre w (List.mem_cons_of_mem _ hw)
  have hown : s.vm.findClass R_O = some m.cls := findClass_of_methodNamed B.named
  have hlocks := B.notSynchronized
  have hK := hC.1
  have hfr : 1 ≤ (headSpec (Cond.code y_O_carriedBy b_O_carriedBy 5 (some .long) :: gw) ({ frames := 1, cells := 0, slots := 0, locals := 25 } : Room)).room.frames := Nat.le_refl _
  have hlo : 25 ≤ (headSpec (Cond.code y_O_carriedBy b_O_carriedBy 5 (some .long) :: gw) ({ frames := 1, cells := 0, slots := 0, locals := 25 } : Room)).room.locals := Nat.le_refl _
  have hce : 0 ≤ (headSpec (Cond.code y_O_carriedBy b_O_carriedBy 5 (some .long) :: gw) ({ frames := 1, cells := 0, slots := 0, locals := 25 } : Room)).room.cells := Nat.zero_le _
  have hsl : 0 ≤ (headSpec (Cond.code y_O_carriedBy b_O_carriedBy 5 (some .long) :: gw) ({ frames := 1, cells := 0, slots := 0, locals := 25 } : Room)).room.slots := Nat.zero_le _
  have hl := lv_entry ([.ref (g 5), .int (nI cars), .ref ka]) (n := 5) (Nat.le_of_ble_eq_true rfl)
  rw [lg_entry_eq]
  generalize (lg_sl ([.ref (g 5), .int (nI cars), .ref ka]) ++ List.replicate (5 - (lg_sl ([.ref (g 5), .int (nI cars), .ref ka])).length) Slot.unset).toArray = ls at hl ⊢
  have hl : lv_has ls 5 [(0, .ref (g 5)), (1, .int (nI cars)), (2, .ref ka)] := hl
  refine lv_aload_n hx hb d_O_carriedBy_0 rfl (lv_at hl 0 rfl) ?_
  refine lv_aload_n hx hb d_O_carriedBy_1 rfl (lv_at hl 2 rfl) ?_
  refine ro_calll (va_runV (As := [.ref ka]) (rest := []) ⟨hx, hb, hml, hown, hts⟩ (c_O_tripAbove l g ka e0 wy so ho rm sd dr pe ce he hrm hsd hdr hpe) (cwV 1 hts (gw_V k_346 k_378 k_344 k_345 k_3) rfl rfl rfl (by decide +kernel) ⟨Nat.le_trans (Nat.le_of_ble_eq_true rfl) hfr, Nat.le_trans (Nat.le_of_ble_eq_true rfl) hlo⟩) ⟨pr_blind, va_recv hK hP (ci := 2) (q0 := 0) rfl rfl, pr_at hC (hP.sub (ws' := [(g 5, .inr (2, [.int (nI e0), .long (lN wy), .long (lN so), .long (lN ho)])), (ka, .inr (1, [.int (nI rm), .int (nI sd), .int (nI dr), .int (nI pe), .int (nI ce)]))]) [0, 1] rfl)⟩ rfl rfl hl.1 rfl (lv_room (Nat.le_of_ble_eq_true rfl)) d_O_carriedBy_2 ⟨hce, hsl⟩) (fun r9 h9 => ?_)
  subst h9
  refine lv_lstore_n (lv' := [(3, .long (lN (oA e0 wy so ho rm sd dr pe))), (0, .ref (g 5)), (1, .int (nI cars)), (2, .ref ka)]) hx hb d_O_carriedBy_5 rfl hl (by decide) rfl (fun ls hl => ?_)
  refine lv_lload_n hx hb d_O_carriedBy_6 rfl (lv_at hl 0 rfl) ?_
  refine lv_lconst (v := lN 0) hx hb d_O_carriedBy_7 (by decide) ?_
  refine nx_lcn_ne (tgt := 16) hx hb d_O_carriedBy_8 d_O_carriedBy_9 (by decide) hA6 (by decide) (fun h1 => ?_) (fun h1 => ?_)
  · refine lv_ldc2 (v := lN 300) hx hb hown (hts _ k_379) d_O_carriedBy_16 ?_
    refine lv_iload_n hx hb d_O_carriedBy_19 rfl (lv_at hl 2 rfl) ?_
    refine nx_i2l hx hb d_O_carriedBy_20 (by omega) ?_
    refine nx_lmul hx hb d_O_carriedBy_21 ?_
    refine lv_aload_n hx hb d_O_carriedBy_22 rfl (lv_at hl 3 rfl) ?_
    refine va_get (D := (dC, dI)) (ci := 1) (v := .int (nI rm)) (C := R_C) (T := F_C) (N := 5) hx hb hts i_C hown hK hP 1 rfl rfl 0 (by decide) (hts _ k_270) (fun _ h9 => h9) rfl d_O_carriedBy_23 ?_
    refine nx_i2l hx hb d_O_carriedBy_26 (by omega) ?_
    refine nx_lmul hx hb d_O_carriedBy_27 ?_
    refine lv_aload_n hx hb d_O_carriedBy_28 rfl (lv_at hl 1 rfl) ?_
    refine lv_aload_n hx hb d_O_carriedBy_29 rfl (lv_at hl 3 rfl) ?_
    refine ro_calll (va_runV (As := [.ref ka]) (rest := [.long (lN ((300 * cars) * rm))]) ⟨hx, hb, hml, hown, hts⟩ (c_O_tripBelow l g ka e0 wy so ho rm sd dr pe ce he hrm hsd hdr hpe) (cwV 1 hts (gw_V k_351 k_380 k_349 k_350 k_3) rfl rfl rfl (by decide +kernel) ⟨Nat.le_trans (Nat.le_of_ble_eq_true rfl) hfr, Nat.le_trans (Nat.le_of_ble_eq_true rfl) hlo⟩) ⟨pr_blind, va_recv hK hP (ci := 2) (q0 := 0) rfl rfl, pr_at hC (hP.sub (ws' := [(g 5, .inr (2, [.int (nI e0), .long (lN wy), .long (lN so), .long (lN ho)])), (ka, .inr (1, [.int (nI rm), .int (nI sd), .int (nI dr), .int (nI pe), .int (nI ce)]))]) [0, 1] rfl)⟩ rfl rfl hl.1 rfl (lv_room (Nat.le_of_ble_eq_true rfl)) d_O_carriedBy_30 ⟨hce, hsl⟩) (fun r9 h9 => ?_)
    subst h9
    refine nx_lmul hx hb d_O_carriedBy_33 ?_
    refine lv_lload_n hx hb d_O_carriedBy_34 rfl (lv_at hl 0 rfl) ?_
    refine nx_ldiv hx hb d_O_carriedBy_35 hB6 (Nat.pos_of_ne_zero h1) hA6 ?_
    exact W.lret hx hb hr (fun t ht hW => ⟨_, rfl, by rw [oC, if_neg h1], ht⟩) (fun q h => by cases h) d_O_carriedBy_36
  · refine lv_lconst (v := lN 0) hx hb d_O_carriedBy_12 (by decide) ?_
    refine lv_goto (tgt := 36) hx hb d_O_carriedBy_13 (by decide) ?_
    exact W.lret hx hb hr (fun t ht hW => ⟨_, rfl, by rw [oC, if_pos h1], ht⟩) (fun q h => by cases h) d_O_carriedBy_36
set_option maxHeartbeats 4000000 in
set_option maxRecDepth 100000 in
theorem c_S_order (l : Launch) {dC : Nat → ClassId} {dI : Nat → Nat → Nat} {cI cL cT : ClassId} {sa : Nat → Nat} (g : Nat → Nat) (bl sf sz : Int32) (xa xb : Nat → Nat) (zo ot : Nat) (hz : zo < 169) (ho : ot < 169) (ha1 : xa zo < 2 ^ 63) (hb1 : xb zo < 2 ^ 50) (hc1 : 0 < xb zo) (ha2 : xa ot < 2 ^ 63) (hb2 : xb ot < 2 ^ 50) (hc2 : 0 < xb ot) : Met l y_S_order (Cond.code y_S_order b_S_order 3 (some .int) :: gw) ({ frames := 1, cells := 0, slots := 0, locals := 45 } : Room) (pr dC dI cI cL cT sa [.ref (g 6), .int (nI zo), .int (nI ot)] [(g 6, .inr (3, [.ref (g 7), .ref (g 8), .ref (g 9), .ref (g 10), .int bl, .int sf, .int sz])), (g 7, .inl (cL, 169, .inr (.inl (fun j => lN (xa j))))), (g 8, .inl (cL, 169, .inr (.inl (fun j => lN (xb j)))))]) (vp_Si (fun r => r = kI (ma_cmp (xa zo * xb ot) (xa ot * xb zo)))) 0 0 (fun _ => False) := by
  refine Met.ofW (cc := b_S_order) (maxL := 3) (ret := (some .int)) (by decide) rfl ?_
  intro p e s m args below meth c s₁ B hml hv
  obtain ⟨rfl, hC, hP⟩ := hv
  have hx := B.exec
  have hb := B.bytes
  have hr := B.returns
  have hts : ∀ w ∈ gw, w.before ([.ref (g 6), .int (nI zo), .int (nI ot)] : List Value).toArray s = true := fun w hw => atoms_spec (ws := Cond.code y_S_order b_S_order 3 (some .int) :: gw) B.pre w (List.mem_cons_of_mem _ hw)
  have hown : s.vm.findClass R_S = some m.cls := findClass_of_methodNamed B.named
  have hlocks := B.notSynchronized
  have hK := hC.1
  have hfr : 1 ≤ (headSpec (Cond.code y_S_order b_S_order 3 (some .int) :: gw) ({ frames := 1, cells := 0, slots := 0, locals := 45 } : Room)).room.frames := Nat.le_refl _
  have hlo : 45 ≤ (headSpec (Cond.code y_S_order b_S_order 3 (some .int) :: gw) ({ frames := 1, cells := 0, slots := 0, locals := 45 } : Room)).room.locals := Nat.le_refl _
  have hce : 0 ≤ (headSpec (Cond.code y_S_order b_S_order 3 (some .int) :: gw) ({ frames := 1, cells := 0, slots := 0, locals := 45 } : Room)).room.cells := Nat.zero_le _
  have hsl : 0 ≤ (headSpec (Cond.code y_S_order b_S_order 3 (some .int) :: gw) ({ frames := 1, cells := 0, slots := 0, locals := 45 } : Room)).room.slots := Nat.zero_le _
  have hl := lv_entry ([.ref (g 6), .int (nI zo), .int (nI ot)]) (n := 3) (Nat.le_of_ble_eq_true rfl)
  rw [lg_entry_eq]
  generalize (lg_sl ([.ref (g 6), .int (nI zo), .int (nI ot)]) ++ List.replicate (3 - (lg_sl ([.ref (g 6), .int (nI zo), .int (nI ot)])).length) Slot.unset).toArray = ls at hl ⊢
  have hl : lv_has ls 3 [(0, .ref (g 6)), (1, .int (nI zo)), (2, .int (nI ot))] := hl
  refine lv_aload_n hx hb d_S_order_0 rfl (lv_at hl 0 rfl) ?_
  refine va_get (D := (dC, dI)) (ci := 3) (v := .ref (g 7)) (C := R_S) (T := F_S) (N := 7) hx hb hts i_S hown hK hP 0 rfl rfl 0 (by decide) (hts _ k_81) (fun _ h9 => h9) rfl d_S_order_1 ?_
  refine lv_iload_n hx hb d_S_order_4 rfl (lv_at hl 1 rfl) ?_
  refine nx_lald hx hb hK hP 1 1 rfl rfl (k := zo) (v := lN (xa zo)) (by omega) (by decide) rfl d_S_order_5 ?_
  refine lv_aload_n hx hb d_S_order_6 rfl (lv_at hl 0 rfl) ?_
  refine va_get (D := (dC, dI)) (ci := 3) (v := .ref (g 8)) (C := R_S) (T := F_S) (N := 7) hx hb hts i_S hown hK hP 0 rfl rfl 1 (by decide) (hts _ k_82) (fun _ h9 => h9) rfl d_S_order_7 ?_
  refine lv_iload_n hx hb d_S_order_10 rfl (lv_at hl 1 rfl) ?_
  refine nx_lald hx hb hK hP 2 1 rfl rfl (k := zo) (v := lN (xb zo)) (by omega) (by decide) rfl d_S_order_11 ?_
  refine lv_aload_n hx hb d_S_order_12 rfl (lv_at hl 0 rfl) ?_
  refine va_get (D := (dC, dI)) (ci := 3) (v := .ref (g 7)) (C := R_S) (T := F_S) (N := 7) hx hb hts i_S hown hK hP 0 rfl rfl 0 (by decide) (hts _ k_81) (fun _ h9 => h9) rfl d_S_order_13 ?_
  refine lv_iload_n hx hb d_S_order_16 rfl (lv_at hl 2 rfl) ?_
  refine nx_lald hx hb hK hP 1 1 rfl rfl (k := ot) (v := lN (xa ot)) (by omega) (by decide) rfl d_S_order_17 ?_
  refine lv_aload_n hx hb d_S_order_18 rfl (lv_at hl 0 rfl) ?_
  refine va_get (D := (dC, dI)) (ci := 3) (v := .ref (g 8)) (C := R_S) (T := F_S) (N := 7) hx hb hts i_S hown hK hP 0 rfl rfl 1 (by decide) (hts _ k_82) (fun _ h9 => h9) rfl d_S_order_19 ?_
  refine lv_iload_n hx hb d_S_order_22 rfl (lv_at hl 2 rfl) ?_
  refine nx_lald hx hb hK hP 2 1 rfl rfl (k := ot) (v := lN (xb ot)) (by omega) (by decide) rfl d_S_order_23 ?_
  refine ro_calli (va_runSN (As := [.long (lN (xa zo)), .long (lN (xb zo)), .long (lN (xa ot)), .long (lN (xb ot))]) (rest := []) ⟨hx, hb, hml, hown, hts⟩ (c_T_orderOfFractions l (xa zo) (xb zo) (xa ot) (xb ot) ha1 hb1 ha2 hb2 hc1 hc2) ⟨va_cnB 4 hts (gw_code k_361) rfl rfl rfl (hC.2.1 (Cond.methodLinkNest R_S 80 y_T_orderOfFractions R_T) (by simp [ct_nest])) (hts _ k_1) (by decide +kernel) ⟨Nat.le_trans (Nat.le_of_ble_eq_true rfl) hfr, Nat.le_trans (Nat.le_of_ble_eq_true rfl) hlo⟩, hts _ k_360, trivial⟩ ⟨pr_blind, pr_at hC (fun k q h => by simp at h)⟩ rfl rfl hl.1 rfl (lv_room (Nat.le_of_ble_eq_true rfl)) d_S_order_24 ⟨hce, hsl⟩) (fun r9 h9 => ?_)
  subst h9
  exact W.iret hx hb hr (fun t ht hW => ⟨_, rfl, rfl, ht⟩) (fun q h => by cases h) d_S_order_27
set_option maxHeartbeats 4000000 in
set_option maxRecDepth 100000 in
theorem c_S_longer (l : Launch) {dC : Nat → ClassId} {dI : Nat → Nat → Nat} {cI cL cT : ClassId} {sa : Nat → Nat} (g : Nat → Nat) (bl sf sz : Int32) (xa xb : Nat → Nat) (zo ot : Nat) (hz : zo < 169) (ho : ot < 169) (ha1 : xa zo < 2 ^ 63) (hb1 : xb zo < 2 ^ 50) (hc1 : 0 < xb zo) (ha2 : xa ot < 2 ^ 63) (hb2 : xb ot < 2 ^ 50) (hc2 : 0 < xb ot) : Met l y_S_longer (Cond.code y_S_longer b_S_longer 3 (some .int) :: gw) ({ frames := 2, cells := 0, slots := 0, locals := 67 } : Room) (pr dC dI cI cL cT sa [.ref (g 6), .int (nI zo), .int (nI ot)] [(g 6, .inr (3, [.ref (g 7), .ref (g 8), .ref (g 9), .ref (g 10), .int bl, .int sf, .int sz])), (g 7, .inl (cL, 169, .inr (.inl (fun j => lN (xa j))))), (g 8, .inl (cL, 169, .inr (.inl (fun j => lN (xb j)))))]) (vp_Si (fun r => r = nI (if xa ot * xb zo < xa zo * xb ot then zo else ot))) 0 0 (fun _ => False) := by
  refine Met.ofW (cc := b_S_longer) (maxL := 3) (ret := (some .int)) (by decide) rfl ?_
  intro p e s m args below meth c s₁ B hml hv
  obtain ⟨rfl, hC, hP⟩ := hv
  have hx := B.exec
  have hb := B.bytes
  have hr := B.returns
  have hts : ∀ w ∈ gw, w.before ([.ref (g 6), .int (nI zo), .int (nI ot)] : List Value).toArray s = true := fun w hw => atoms_spec (ws := Cond.code y_S_longer b_S_longer 3 (some .int) :: gw) B.pre w (List.mem_cons_of_mem _ hw)
  have hown : s.vm.findClass R_S = some m.cls := findClass_of_methodNamed B.named
  have hlocks := B.notSynchronized
  have hK := hC.1
  have hfr : 2 ≤ (headSpec (Cond.code y_S_longer b_S_longer 3 (some .int) :: gw) ({ frames := 2, cells := 0, slots := 0, locals := 67 } : Room)).room.frames := Nat.le_refl _
  have hlo : 67 ≤ (headSpec (Cond.code y_S_longer b_S_longer 3 (some .int) :: gw) ({ frames := 2, cells := 0, slots := 0, locals := 67 } : Room)).room.locals := Nat.le_refl _
  have hce : 0 ≤ (headSpec (Cond.code y_S_longer b_S_longer 3 (some .int) :: gw) ({ frames := 2, cells := 0, slots := 0, locals := 67 } : Room)).room.cells := Nat.zero_le _
  have hsl : 0 ≤ (headSpec (Cond.code y_S_longer b_S_longer 3 (some .int) :: gw) ({ frames := 2, cells := 0, slots := 0, locals := 67 } : Room)).room.slots := Nat.zero_le _
  have hl := lv_entry ([.ref (g 6), .int (nI zo), .int (nI ot)]) (n := 3) (Nat.le_of_ble_eq_true rfl)
  rw [lg_entry_eq]
  generalize (lg_sl ([.ref (g 6), .int (nI zo), .int (nI ot)]) ++ List.replicate (3 - (lg_sl ([.ref (g 6), .int (nI zo), .int (nI ot)])).length) Slot.unset).toArray = ls at hl ⊢
  have hl : lv_has ls 3 [(0, .ref (g 6)), (1, .int (nI zo)), (2, .int (nI ot))] := hl
  refine lv_aload_n hx hb d_S_longer_0 rfl (lv_at hl 0 rfl) ?_
  refine lv_iload_n hx hb d_S_longer_1 rfl (lv_at hl 1 rfl) ?_
  refine lv_iload_n hx hb d_S_longer_2 rfl (lv_at hl 2 rfl) ?_
  refine ro_calli (va_runV (As := [.int (nI zo), .int (nI ot)]) (rest := []) ⟨hx, hb, hml, hown, hts⟩ (c_S_order l g bl sf sz xa xb zo ot hz ho ha1 hb1 hc1 ha2 hb2 hc2) (cwV 2 hts (gw_V k_426 k_423 k_425 ks_S_order k_4) rfl rfl rfl (by decide +kernel) ⟨Nat.le_trans (Nat.le_of_ble_eq_true rfl) hfr, Nat.le_trans (Nat.le_of_ble_eq_true rfl) hlo⟩) ⟨pr_blind, va_recv hK hP (ci := 3) (q0 := 0) rfl rfl, pr_at hC (hP.sub (ws' := [(g 6, .inr (3, [.ref (g 7), .ref (g 8), .ref (g 9), .ref (g 10), .int bl, .int sf, .int sz])), (g 7, .inl (cL, 169, .inr (.inl (fun j => lN (xa j))))), (g 8, .inl (cL, 169, .inr (.inl (fun j => lN (xb j)))))]) [0, 1, 2] rfl)⟩ rfl rfl hl.1 rfl (lv_room (Nat.le_of_ble_eq_true rfl)) d_S_longer_3 ⟨hce, hsl⟩) (fun r9 h9 => ?_)
  subst h9
  have k3 := ma_cmp_3 (xa zo * xb ot) (xa ot * xb zo)
  refine lv_if_le (tgt := 13) hx hb d_S_longer_6 (by decide) (fun h1 => ?_) (fun h1 => ?_)
  · refine lv_iload_n hx hb d_S_longer_13 rfl (lv_at hl 2 rfl) ?_
    exact W.iret hx hb hr (fun t ht hW => ⟨_, rfl, by rw [if_neg (fun q => absurd (ma_cmp_pos.mpr q) (by rw [← kI_pos k3]; exact Int32.not_lt.mpr h1))], ht⟩) (fun q h => by cases h) d_S_longer_14
  · refine lv_iload_n hx hb d_S_longer_9 rfl (lv_at hl 1 rfl) ?_
    refine lv_goto (tgt := 14) hx hb d_S_longer_10 (by decide) ?_
    exact W.iret hx hb hr (fun t ht hW => ⟨_, rfl, by rw [if_pos (ma_cmp_pos.mp ((kI_pos k3).mp (Int32.not_le.mp h1)))], ht⟩) (fun q h => by cases h) d_S_longer_14
