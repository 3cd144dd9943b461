set_option maxHeartbeats 4000000 in
set_option maxRecDepth 100000 in
theorem c_T_requireWithin (l : Launch) {dC : Nat → ClassId} {dI : Nat → Nat → Nat} {cI cL cT : ClassId} {sa : Nat → Nat} (v0 lo0 hi0 : Int32) (lo hi : Int) (e1 : lo0.toInt = lo) (e2 : hi0.toInt = hi) (hok : lo ≤ v0.toInt ∧ v0.toInt ≤ hi) : Met l y_T_requireWithin (Cond.code y_T_requireWithin b_T_requireWithin 3 none :: gw) ({ frames := 0, cells := 0, slots := 0, locals := 0 } : Room) (pr dC dI cI cL cT sa [.int v0, .int lo0, .int hi0] []) (pv) 0 0 xF := by
  refine Met.ofW (cc := b_T_requireWithin) (maxL := 3) (ret := none) (by decide) rfl ?_
  intro p e s m args below meth c s₁ B hml hv
  obtain ⟨rfl, hC, hP⟩ := hv
  have hx := B.exec
  have hb := B.bytes
  have hr := B.returns
  have hts : ∀ w ∈ gw, w.before ([.int v0, .int lo0, .int hi0] : List Value).toArray s = true := fun w hw => atoms_spec (ws := Cond.code y_T_requireWithin b_T_requireWithin 3 none :: gw) B.pre w (List.mem_cons_of_mem _ hw)
  have hown : s.vm.findClass R_T = some m.cls := findClass_of_methodNamed B.named
  have hlocks := B.notSynchronized
  have hK := hC.1
  have hfr : 0 ≤ (headSpec (Cond.code y_T_requireWithin b_T_requireWithin 3 none :: gw) ({ frames := 0, cells := 0, slots := 0, locals := 0 } : Room)).room.frames := Nat.le_refl _
  have hlo : 0 ≤ (headSpec (Cond.code y_T_requireWithin b_T_requireWithin 3 none :: gw) ({ frames := 0, cells := 0, slots := 0, locals := 0 } : Room)).room.locals := Nat.le_refl _
  have hce : 0 ≤ (headSpec (Cond.code y_T_requireWithin b_T_requireWithin 3 none :: gw) ({ frames := 0, cells := 0, slots := 0, locals := 0 } : Room)).room.cells := Nat.zero_le _
  have hsl : 0 ≤ (headSpec (Cond.code y_T_requireWithin b_T_requireWithin 3 none :: gw) ({ frames := 0, cells := 0, slots := 0, locals := 0 } : Room)).room.slots := Nat.zero_le _
  have hl := lv_entry ([.int v0, .int lo0, .int hi0]) (n := 3) (Nat.le_of_ble_eq_true rfl)
  rw [lg_entry_eq]
  generalize (lg_sl ([.int v0, .int lo0, .int hi0]) ++ List.replicate (3 - (lg_sl ([.int v0, .int lo0, .int hi0])).length) Slot.unset).toArray = ls at hl ⊢
  have hl : lv_has ls 3 [(0, .int v0), (1, .int lo0), (2, .int hi0)] := hl
  refine lv_iload_n hx hb d_T_requireWithin_0 rfl (lv_at hl 0 rfl) ?_
  refine lv_iload_n hx hb d_T_requireWithin_1 rfl (lv_at hl 1 rfl) ?_
  refine lv_icmp_lt (tgt := 10) hx hb d_T_requireWithin_2 (by decide) (fun h1 => ?_) (fun h1 => ?_)
  · exact absurd (Int32.lt_iff_toInt_lt.mp h1) (by omega)
  · refine lv_iload_n hx hb d_T_requireWithin_5 rfl (lv_at hl 0 rfl) ?_
    refine lv_iload_n hx hb d_T_requireWithin_6 rfl (lv_at hl 2 rfl) ?_
    refine lv_icmp_le (tgt := 20) hx hb d_T_requireWithin_7 (by decide) (fun h2 => ?_) (fun h2 => ?_)
    · exact W.vret hx hb hr (fun t ht hW => ⟨rfl, ht⟩) (fun q h => by cases h) d_T_requireWithin_20
    · exact absurd (Int32.le_iff_toInt_le.mpr (by omega)) h2
set_option maxHeartbeats 4000000 in
set_option maxRecDepth 100000 in
theorem c_T_requireWithin_b (l : Launch) (hlt : l.stackTraces = false) {dC : Nat → ClassId} {dI : Nat → Nat → Nat} {cI cL cT : ClassId} {sa : Nat → Nat} (v0 lo0 hi0 : Int32) (lo hi : Int) (e1 : lo0.toInt = lo) (e2 : hi0.toInt = hi) (hbad : ¬ (lo ≤ v0.toInt ∧ v0.toInt ≤ hi)) : vx_Met l y_T_requireWithin (Cond.code y_T_requireWithin b_T_requireWithin 3 none :: gw) ({ frames := 6, cells := 1, slots := 6, locals := 90 } : Room) (px dC dI cI cL cT sa [.int v0, .int lo0, .int hi0] []) xQ (xX E_arg) 1 6 xF := by
  refine vx_ofW (cc := b_T_requireWithin) (maxL := 3) (ret := none) (by decide) rfl ?_
  intro p e s m args below meth c s₁ B hml hxt hv
  obtain ⟨rfl, hC, hP, hT⟩ := hv
  have hx := B.exec
  have hb := B.bytes
  have hts : ∀ w ∈ gw, w.before ([.int v0, .int lo0, .int hi0] : List Value).toArray s = true := fun w hw => atoms_spec (ws := Cond.code y_T_requireWithin b_T_requireWithin 3 none :: gw) B.pre w (List.mem_cons_of_mem _ hw)
  have hown : s.vm.findClass R_T = some m.cls := findClass_of_methodNamed B.named
  have hlocks := B.notSynchronized
  have hK := hC.1
  have hfr : 6 ≤ (headSpec (Cond.code y_T_requireWithin b_T_requireWithin 3 none :: gw) ({ frames := 6, cells := 1, slots := 6, locals := 90 } : Room)).room.frames := Nat.le_refl _
  have hlo : 90 ≤ (headSpec (Cond.code y_T_requireWithin b_T_requireWithin 3 none :: gw) ({ frames := 6, cells := 1, slots := 6, locals := 90 } : Room)).room.locals := Nat.le_refl _
  have hce : 0 ≤ (headSpec (Cond.code y_T_requireWithin b_T_requireWithin 3 none :: gw) ({ frames := 6, cells := 1, slots := 6, locals := 90 } : Room)).room.cells := Nat.zero_le _
  have hsl : 0 ≤ (headSpec (Cond.code y_T_requireWithin b_T_requireWithin 3 none :: gw) ({ frames := 6, cells := 1, slots := 6, locals := 90 } : Room)).room.slots := Nat.zero_le _
  have hc1 : 1 ≤ (headSpec (Cond.code y_T_requireWithin b_T_requireWithin 3 none :: gw) ({ frames := 6, cells := 1, slots := 6, locals := 90 } : Room)).room.cells := Nat.le_refl _
  have hs6 : 6 ≤ (headSpec (Cond.code y_T_requireWithin b_T_requireWithin 3 none :: gw) ({ frames := 6, cells := 1, slots := 6, locals := 90 } : Room)).room.slots := Nat.le_refl _
  have hl := lv_entry ([.int v0, .int lo0, .int hi0]) (n := 3) (Nat.le_of_ble_eq_true rfl)
  rw [lg_entry_eq]
  generalize (lg_sl ([.int v0, .int lo0, .int hi0]) ++ List.replicate (3 - (lg_sl ([.int v0, .int lo0, .int hi0])).length) Slot.unset).toArray = ls at hl ⊢
  have hl : lv_has ls 3 [(0, .int v0), (1, .int lo0), (2, .int hi0)] := hl
  refine lv_iload_n hx hb d_T_requireWithin_0 rfl (lv_at hl 0 rfl) ?_
  refine lv_iload_n hx hb d_T_requireWithin_1 rfl (lv_at hl 1 rfl) ?_
  refine lv_icmp_lt (tgt := 10) hx hb d_T_requireWithin_2 (by decide) (fun h1 => ?_) (fun h1 => ?_)
  · exact vx_throwS hx hb hlt hown xa_fit xn_fit (hts _ k_151) (hts _ k_10) (hC.2.2.1 (178, "a number is out of its bounds") (by simp [ct_str])) (xa_hat hts hC) xa_ot hT.1 hT.2 va_S.rf (hl.1.trans hml.symm) d_T_requireWithin_10 d_T_requireWithin_13 d_T_requireWithin_14 d_T_requireWithin_16 d_T_requireWithin_19 (fun x hx => (hxt x hx).elim) (Nat.le_trans (Nat.le_of_ble_eq_true rfl) hfr) (Nat.le_trans (Nat.le_of_ble_eq_true rfl) hlo) hc1 hs6 hlocks (fun t _ h1 h2 => ⟨rfl, h1, fun q h _ => h2 q h⟩) (fun z hz => by cases hz) (by decide) (by decide)
  · refine lv_iload_n hx hb d_T_requireWithin_5 rfl (lv_at hl 0 rfl) ?_
    refine lv_iload_n hx hb d_T_requireWithin_6 rfl (lv_at hl 2 rfl) ?_
    refine lv_icmp_le (tgt := 20) hx hb d_T_requireWithin_7 (by decide) (fun h2 => ?_) (fun h2 => ?_)
    · have q1 := mt Int32.lt_iff_toInt_lt.mpr h1
      have q2 := Int32.le_iff_toInt_le.mp h2
      exact absurd ⟨by omega, by omega⟩ hbad
    · exact vx_throwS hx hb hlt hown xa_fit xn_fit (hts _ k_151) (hts _ k_10) (hC.2.2.1 (178, "a number is out of its bounds") (by simp [ct_str])) (xa_hat hts hC) xa_ot hT.1 hT.2 va_S.rf (hl.1.trans hml.symm) d_T_requireWithin_10 d_T_requireWithin_13 d_T_requireWithin_14 d_T_requireWithin_16 d_T_requireWithin_19 (fun x hx => (hxt x hx).elim) (Nat.le_trans (Nat.le_of_ble_eq_true rfl) hfr) (Nat.le_trans (Nat.le_of_ble_eq_true rfl) hlo) hc1 hs6 hlocks (fun t _ h1 h2 => ⟨rfl, h1, fun q h _ => h2 q h⟩) (fun z hz => by cases hz) (by decide) (by decide)
set_option maxHeartbeats 4000000 in
set_option maxRecDepth 100000 in
theorem c_T_requireFloor (l : Launch) {dC : Nat → ClassId} {dI : Nat → Nat → Nat} {cI cL cT : ClassId} {sa : Nat → Nat} (g : Nat → Nat) (F nt E : Nat) (v0 : Int32) (hF12 : F ≤ 12) (hok : okFl F v0) : Met l y_T_requireFloor (Cond.code y_T_requireFloor b_T_requireFloor 2 none :: gw) ({ frames := 0, cells := 0, slots := 0, locals := 0 } : Room) (pr dC dI cI cL cT sa [.ref (g 0), .int v0] [(g 0, .inr (5, [.ref (g 1), .ref (g 4), .int (nI nt), .ref (g 5), .ref (g 6), .ref (g 11)])), (g 1, .inr (0, [.ref (g 2), .ref (g 3), .int (nI F), .int (nI E)]))]) (pv) 0 0 xF := by
  refine Met.ofW (cc := b_T_requireFloor) (maxL := 2) (ret := none) (by decide) rfl ?_
  intro p e s m args below meth c s₁ B hml hv
  obtain ⟨rfl, hC, hP⟩ := hv
  have hx := B.exec
  have hb := B.bytes
  have hr := B.returns
  have hts : ∀ w ∈ gw, w.before ([.ref (g 0), .int v0] : List Value).toArray s = true := fun w hw => atoms_spec (ws := Cond.code y_T_requireFloor b_T_requireFloor 2 none :: gw) B.pre w (List.mem_cons_of_mem _ hw)
  have hown : s.vm.findClass R_T = some m.cls := findClass_of_methodNamed B.named
  have hlocks := B.notSynchronized
  have hK := hC.1
  have hfr : 0 ≤ (headSpec (Cond.code y_T_requireFloor b_T_requireFloor 2 none :: gw) ({ frames := 0, cells := 0, slots := 0, locals := 0 } : Room)).room.frames := Nat.le_refl _
  have hlo : 0 ≤ (headSpec (Cond.code y_T_requireFloor b_T_requireFloor 2 none :: gw) ({ frames := 0, cells := 0, slots := 0, locals := 0 } : Room)).room.locals := Nat.le_refl _
  have hce : 0 ≤ (headSpec (Cond.code y_T_requireFloor b_T_requireFloor 2 none :: gw) ({ frames := 0, cells := 0, slots := 0, locals := 0 } : Room)).room.cells := Nat.zero_le _
  have hsl : 0 ≤ (headSpec (Cond.code y_T_requireFloor b_T_requireFloor 2 none :: gw) ({ frames := 0, cells := 0, slots := 0, locals := 0 } : Room)).room.slots := Nat.zero_le _
  have hl := lv_entry ([.ref (g 0), .int v0]) (n := 2) (Nat.le_of_ble_eq_true rfl)
  rw [lg_entry_eq]
  generalize (lg_sl ([.ref (g 0), .int v0]) ++ List.replicate (2 - (lg_sl ([.ref (g 0), .int v0])).length) Slot.unset).toArray = ls at hl ⊢
  have hl : lv_has ls 2 [(0, .ref (g 0)), (1, .int v0)] := hl
  unfold okFl at hok
  refine lv_iload_n hx hb d_T_requireFloor_0 rfl (lv_at hl 1 rfl) ?_
  refine lv_iconst (v := nI 1) hx hb d_T_requireFloor_1 (by decide) ?_
  refine lv_icmp_lt (tgt := 16) hx hb d_T_requireFloor_2 (by decide) (fun h1 => ?_) (fun h1 => ?_)
  · have q1 := Int32.lt_iff_toInt_lt.mp h1
    rw [nI_toInt (by decide)] at q1
    exact absurd q1 (by omega)
  · refine lv_iload_n hx hb d_T_requireFloor_5 rfl (lv_at hl 1 rfl) ?_
    refine lv_aload_n hx hb d_T_requireFloor_6 rfl (lv_at hl 0 rfl) ?_
    refine va_get (D := (dC, dI)) (ci := 5) (v := .ref (g 1)) (C := R_T) (T := F_T) (N := 6) hx hb hts i_T hown hK hP 0 rfl rfl 0 (by decide) (hts _ k_120) (fun _ h9 => h9) rfl d_T_requireFloor_7 ?_
    refine va_get (D := (dC, dI)) (ci := 0) (v := .int (nI F)) (C := R_B) (T := F_B) (N := 4) hx hb hts i_B hown hK hP 1 rfl rfl 2 (by decide) (hts _ k_37) (fun _ h9 => h9) rfl d_T_requireFloor_10 ?_
    refine lv_icmp_le (tgt := 26) hx hb d_T_requireFloor_13 (by decide) (fun h2 => ?_) (fun h2 => ?_)
    · exact W.vret hx hb hr (fun t ht hW => ⟨rfl, ht⟩) (fun q h => by cases h) d_T_requireFloor_26
    · exact absurd (Int32.le_iff_toInt_le.mpr (by rw [nI_toInt (by omega)]; exact hok.2)) h2
set_option maxHeartbeats 4000000 in
set_option maxRecDepth 100000 in
theorem c_T_requireFloor_b (l : Launch) (hlt : l.stackTraces = false) {dC : Nat → ClassId} {dI : Nat → Nat → Nat} {cI cL cT : ClassId} {sa : Nat → Nat} (g : Nat → Nat) (F nt E : Nat) (v0 : Int32) (hF12 : F ≤ 12) (hbad : ¬ okFl F v0) : vx_Met l y_T_requireFloor (Cond.code y_T_requireFloor b_T_requireFloor 2 none :: gw) ({ frames := 6, cells := 1, slots := 6, locals := 90 } : Room) (px dC dI cI cL cT sa [.ref (g 0), .int v0] [(g 0, .inr (5, [.ref (g 1), .ref (g 4), .int (nI nt), .ref (g 5), .ref (g 6), .ref (g 11)])), (g 1, .inr (0, [.ref (g 2), .ref (g 3), .int (nI F), .int (nI E)]))]) xQ (xX E_arg) 1 6 xF := by
  refine vx_ofW (cc := b_T_requireFloor) (maxL := 2) (ret := none) (by decide) rfl ?_
  intro p e s m args below meth c s₁ B hml hxt hv
  obtain ⟨rfl, hC, hP, hT⟩ := hv
  have hx := B.exec
  have hb := B.bytes
  have hts : ∀ w ∈ gw, w.before ([.ref (g 0), .int v0] : List Value).toArray s = true := fun w hw => atoms_spec (ws := Cond.code y_T_requireFloor b_T_requireFloor 2 none :: gw) B.pre w (List.mem_cons_of_mem _ hw)
  have hown : s.vm.findClass R_T = some m.cls := findClass_of_methodNamed B.named
  have hlocks := B.notSynchronized
  have hK := hC.1
  have hfr : 6 ≤ (headSpec (Cond.code y_T_requireFloor b_T_requireFloor 2 none :: gw) ({ frames := 6, cells := 1, slots := 6, locals := 90 } : Room)).room.frames := Nat.le_refl _
  have hlo : 90 ≤ (headSpec (Cond.code y_T_requireFloor b_T_requireFloor 2 none :: gw) ({ frames := 6, cells := 1, slots := 6, locals := 90 } : Room)).room.locals := Nat.le_refl _
  have hce : 0 ≤ (headSpec (Cond.code y_T_requireFloor b_T_requireFloor 2 none :: gw) ({ frames := 6, cells := 1, slots := 6, locals := 90 } : Room)).room.cells := Nat.zero_le _
  have hsl : 0 ≤ (headSpec (Cond.code y_T_requireFloor b_T_requireFloor 2 none :: gw) ({ frames := 6, cells := 1, slots := 6, locals := 90 } : Room)).room.slots := Nat.zero_le _
  have hc1 : 1 ≤ (headSpec (Cond.code y_T_requireFloor b_T_requireFloor 2 none :: gw) ({ frames := 6, cells := 1, slots := 6, locals := 90 } : Room)).room.cells := Nat.le_refl _
  have hs6 : 6 ≤ (headSpec (Cond.code y_T_requireFloor b_T_requireFloor 2 none :: gw) ({ frames := 6, cells := 1, slots := 6, locals := 90 } : Room)).room.slots := Nat.le_refl _
  have hl := lv_entry ([.ref (g 0), .int v0]) (n := 2) (Nat.le_of_ble_eq_true rfl)
  rw [lg_entry_eq]
  generalize (lg_sl ([.ref (g 0), .int v0]) ++ List.replicate (2 - (lg_sl ([.ref (g 0), .int v0])).length) Slot.unset).toArray = ls at hl ⊢
  have hl : lv_has ls 2 [(0, .ref (g 0)), (1, .int v0)] := hl
  unfold okFl at hbad
  refine lv_iload_n hx hb d_T_requireFloor_0 rfl (lv_at hl 1 rfl) ?_
  refine lv_iconst (v := nI 1) hx hb d_T_requireFloor_1 (by decide) ?_
  refine lv_icmp_lt (tgt := 16) hx hb d_T_requireFloor_2 (by decide) (fun h1 => ?_) (fun h1 => ?_)
  · exact vx_throwS hx hb hlt hown xa_fit xn_fit (hts _ k_151) (hts _ k_10) (hC.2.2.1 (180, "there is no such floor") (by simp [ct_str])) (xa_hat hts hC) xa_ot hT.1 hT.2 va_S.rf (hl.1.trans hml.symm) d_T_requireFloor_16 d_T_requireFloor_19 d_T_requireFloor_20 d_T_requireFloor_22 d_T_requireFloor_25 (fun x hx => (hxt x hx).elim) (Nat.le_trans (Nat.le_of_ble_eq_true rfl) hfr) (Nat.le_trans (Nat.le_of_ble_eq_true rfl) hlo) hc1 hs6 hlocks (fun t _ h1 h2 => ⟨rfl, h1, fun q h _ => h2 q h⟩) (fun z hz => by cases hz) (by decide) (by decide)
  · refine lv_iload_n hx hb d_T_requireFloor_5 rfl (lv_at hl 1 rfl) ?_
    refine lv_aload_n hx hb d_T_requireFloor_6 rfl (lv_at hl 0 rfl) ?_
    refine va_get (D := (dC, dI)) (ci := 5) (v := .ref (g 1)) (C := R_T) (T := F_T) (N := 6) hx hb hts i_T hown hK hP 0 rfl rfl 0 (by decide) (hts _ k_120) (fun _ h9 => h9) rfl d_T_requireFloor_7 ?_
    refine va_get (D := (dC, dI)) (ci := 0) (v := .int (nI F)) (C := R_B) (T := F_B) (N := 4) hx hb hts i_B hown hK hP 1 rfl rfl 2 (by decide) (hts _ k_37) (fun _ h9 => h9) rfl d_T_requireFloor_10 ?_
    refine lv_icmp_le (tgt := 26) hx hb d_T_requireFloor_13 (by decide) (fun h2 => ?_) (fun h2 => ?_)
    · have q1 := mt Int32.lt_iff_toInt_lt.mpr h1
      have q2 := Int32.le_iff_toInt_le.mp h2
      rw [nI_toInt (by decide)] at q1
      rw [nI_toInt (by omega)] at q2
      exact absurd ⟨by omega, q2⟩ hbad
    · exact vx_throwS hx hb hlt hown xa_fit xn_fit (hts _ k_151) (hts _ k_10) (hC.2.2.1 (180, "there is no such floor") (by simp [ct_str])) (xa_hat hts hC) xa_ot hT.1 hT.2 va_S.rf (hl.1.trans hml.symm) d_T_requireFloor_16 d_T_requireFloor_19 d_T_requireFloor_20 d_T_requireFloor_22 d_T_requireFloor_25 (fun x hx => (hxt x hx).elim) (Nat.le_trans (Nat.le_of_ble_eq_true rfl) hfr) (Nat.le_trans (Nat.le_of_ble_eq_true rfl) hlo) hc1 hs6 hlocks (fun t _ h1 h2 => ⟨rfl, h1, fun q h _ => h2 q h⟩) (fun z hz => by cases hz) (by decide) (by decide)
set_option maxHeartbeats 4000000 in
set_option maxRecDepth 100000 in
theorem c_T_requireZone (l : Launch) {dC : Nat → ClassId} {dI : Nat → Nat → Nat} {cI cL cT : ClassId} {sa : Nat → Nat} (g : Nat → Nat) (F nt E : Nat) (v0 v1 : Int32) (hF12 : F ≤ 12) (hok : okFl F v0 ∧ okFl F v1 ∧ v0.toInt ≤ v1.toInt) : Met l y_T_requireZone (Cond.code y_T_requireZone b_T_requireZone 3 none :: gw) ({ frames := 1, cells := 0, slots := 0, locals := 21 } : Room) (pr dC dI cI cL cT sa [.ref (g 0), .int v0, .int v1] [(g 0, .inr (5, [.ref (g 1), .ref (g 4), .int (nI nt), .ref (g 5), .ref (g 6), .ref (g 11)])), (g 1, .inr (0, [.ref (g 2), .ref (g 3), .int (nI F), .int (nI E)]))]) (pv) 0 0 xF := by
  refine Met.ofW (cc := b_T_requireZone) (maxL := 3) (ret := none) (by decide) rfl ?_
  intro p e s m args below meth c s₁ B hml hv
  obtain ⟨rfl, hC, hP⟩ := hv
  have hx := B.exec
  have hb := B.bytes
  have hr := B.returns
  have hts : ∀ w ∈ gw, w.before ([.ref (g 0), .int v0, .int v1] : List Value).toArray s = true := fun w hw => atoms_spec (ws := Cond.code y_T_requireZone b_T_requireZone 3 none :: gw) B.pre w (List.mem_cons_of_mem _ hw)
  have hown : s.vm.findClass R_T = some m.cls := findClass_of_methodNamed B.named
  have hlocks := B.notSynchronized
  have hK := hC.1
  have hfr : 1 ≤ (headSpec (Cond.code y_T_requireZone b_T_requireZone 3 none :: gw) ({ frames := 1, cells := 0, slots := 0, locals := 21 } : Room)).room.frames := Nat.le_refl _
  have hlo : 21 ≤ (headSpec (Cond.code y_T_requireZone b_T_requireZone 3 none :: gw) ({ frames := 1, cells := 0, slots := 0, locals := 21 } : Room)).room.locals := Nat.le_refl _
  have hce : 0 ≤ (headSpec (Cond.code y_T_requireZone b_T_requireZone 3 none :: gw) ({ frames := 1, cells := 0, slots := 0, locals := 21 } : Room)).room.cells := Nat.zero_le _
  have hsl : 0 ≤ (headSpec (Cond.code y_T_requireZone b_T_requireZone 3 none :: gw) ({ frames := 1, cells := 0, slots := 0, locals := 21 } : Room)).room.slots := Nat.zero_le _
  have hl := lv_entry ([.ref (g 0), .int v0, .int v1]) (n := 3) (Nat.le_of_ble_eq_true rfl)
  rw [lg_entry_eq]
  generalize (lg_sl ([.ref (g 0), .int v0, .int v1]) ++ List.replicate (3 - (lg_sl ([.ref (g 0), .int v0, .int v1])).length) Slot.unset).toArray = ls at hl ⊢
  have hl : lv_has ls 3 [(0, .ref (g 0)), (1, .int v0), (2, .int v1)] := hl
  refine lv_aload_n hx hb d_T_requireZone_0 rfl (lv_at hl 0 rfl) ?_
  refine lv_iload_n hx hb d_T_requireZone_1 rfl (lv_at hl 1 rfl) ?_
  refine ro_callv (va_runV (As := [.int v0]) (rest := []) ⟨hx, hb, hml, hown, hts⟩ (c_T_requireFloor l g F nt E v0 hF12 hok.1) (cwV 1 hts (gw_V k_252 k_249 k_251 ks_T_requireFloor k_1) rfl rfl rfl (by decide +kernel) ⟨Nat.le_trans (Nat.le_of_ble_eq_true rfl) hfr, Nat.le_trans (Nat.le_of_ble_eq_true rfl) hlo⟩) ⟨pr_blind, va_recv hK hP (ci := 5) (q0 := 0) rfl rfl, pr_at hC (hP.sub (ws' := [(g 0, .inr (5, [.ref (g 1), .ref (g 4), .int (nI nt), .ref (g 5), .ref (g 6), .ref (g 11)])), (g 1, .inr (0, [.ref (g 2), .ref (g 3), .int (nI F), .int (nI E)]))]) [0, 1] rfl)⟩ rfl rfl hl.1 rfl (lv_room (Nat.le_of_ble_eq_true rfl)) d_T_requireZone_2 ⟨hce, hsl⟩) ?_
  refine lv_aload_n hx hb d_T_requireZone_5 rfl (lv_at hl 0 rfl) ?_
  refine lv_iload_n hx hb d_T_requireZone_6 rfl (lv_at hl 2 rfl) ?_
  refine ro_callv (va_runV (As := [.int v1]) (rest := []) ⟨hx, hb, hml, hown, hts⟩ (c_T_requireFloor l g F nt E v1 hF12 hok.2.1) (cwV 1 hts (gw_V k_252 k_249 k_251 ks_T_requireFloor k_1) rfl rfl rfl (by decide +kernel) ⟨Nat.le_trans (Nat.le_of_ble_eq_true rfl) hfr, Nat.le_trans (Nat.le_of_ble_eq_true rfl) hlo⟩) ⟨pr_blind, va_recv hK hP (ci := 5) (q0 := 0) rfl rfl, pr_at hC (hP.sub (ws' := [(g 0, .inr (5, [.ref (g 1), .ref (g 4), .int (nI nt), .ref (g 5), .ref (g 6), .ref (g 11)])), (g 1, .inr (0, [.ref (g 2), .ref (g 3), .int (nI F), .int (nI E)]))]) [0, 1] rfl)⟩ rfl rfl hl.1 rfl (lv_room (Nat.le_of_ble_eq_true rfl)) d_T_requireZone_7 ⟨hce, hsl⟩) ?_
  refine lv_iload_n hx hb d_T_requireZone_10 rfl (lv_at hl 2 rfl) ?_
  refine lv_iload_n hx hb d_T_requireZone_11 rfl (lv_at hl 1 rfl) ?_
  refine lv_icmp_ge (tgt := 25) hx hb d_T_requireZone_12 (by decide) (fun h1 => ?_) (fun h1 => ?_)
  · exact W.vret hx hb hr (fun t ht hW => ⟨rfl, ht⟩) (fun q h => by cases h) d_T_requireZone_25
  · exact absurd (Int32.le_iff_toInt_le.mpr hok.2.2) h1
set_option maxHeartbeats 4000000 in
set_option maxRecDepth 100000 in
theorem c_T_requireZone_b (l : Launch) (hlt : l.stackTraces = false) {dC : Nat → ClassId} {dI : Nat → Nat → Nat} {cI cL cT : ClassId} {sa : Nat → Nat} (g : Nat → Nat) (F nt E : Nat) (v0 v1 : Int32) (hF12 : F ≤ 12) (hbad : ¬ (okFl F v0 ∧ okFl F v1 ∧ v0.toInt ≤ v1.toInt)) : vx_Met l y_T_requireZone (Cond.code y_T_requireZone b_T_requireZone 3 none :: gw) ({ frames := 7, cells := 1, slots := 6, locals := 120 } : Room) (px dC dI cI cL cT sa [.ref (g 0), .int v0, .int v1] [(g 0, .inr (5, [.ref (g 1), .ref (g 4), .int (nI nt), .ref (g 5), .ref (g 6), .ref (g 11)])), (g 1, .inr (0, [.ref (g 2), .ref (g 3), .int (nI F), .int (nI E)]))]) xQ (xX E_arg) 1 6 xF := by
  refine vx_ofW (cc := b_T_requireZone) (maxL := 3) (ret := none) (by decide) rfl ?_
  intro p e s m args below meth c s₁ B hml hxt hv
  obtain ⟨rfl, hC, hP, hT⟩ := hv
  have hx := B.exec
  have hb := B.bytes
  have hts : ∀ w ∈ gw, w.before ([.ref (g 0), .int v0, .int v1] : List Value).toArray s = true := fun w hw => atoms_spec (ws := Cond.code y_T_requireZone b_T_requireZone 3 none :: gw) B.pre w (List.mem_cons_of_mem _ hw)
  have hown : s.vm.findClass R_T = some m.cls := findClass_of_methodNamed B.named
  have hlocks := B.notSynchronized
  have hK := hC.1
  have hfr : 7 ≤ (headSpec (Cond.code y_T_requireZone b_T_requireZone 3 none :: gw) ({ frames := 7, cells := 1, slots := 6, locals := 120 } : Room)).room.frames := Nat.le_refl _
  have hlo : 120 ≤ (headSpec (Cond.code y_T_requireZone b_T_requireZone 3 none :: gw) ({ frames := 7, cells := 1, slots := 6, locals := 120 } : Room)).room.locals := Nat.le_refl _
  have hce : 0 ≤ (headSpec (Cond.code y_T_requireZone b_T_requireZone 3 none :: gw) ({ frames := 7, cells := 1, slots := 6, locals := 120 } : Room)).room.cells := Nat.zero_le _
  have hsl : 0 ≤ (headSpec (Cond.code y_T_requireZone b_T_requireZone 3 none :: gw) ({ frames := 7, cells := 1, slots := 6, locals := 120 } : Room)).room.slots := Nat.zero_le _
  have hc1 : 1 ≤ (headSpec (Cond.code y_T_requireZone b_T_requireZone 3 none :: gw) ({ frames := 7, cells := 1, slots := 6, locals := 120 } : Room)).room.cells := Nat.le_refl _
  have hs6 : 6 ≤ (headSpec (Cond.code y_T_requireZone b_T_requireZone 3 none :: gw) ({ frames := 7, cells := 1, slots := 6, locals := 120 } : Room)).room.slots := Nat.le_refl _
  have hl := lv_entry ([.ref (g 0), .int v0, .int v1]) (n := 3) (Nat.le_of_ble_eq_true rfl)
  rw [lg_entry_eq]
  generalize (lg_sl ([.ref (g 0), .int v0, .int v1]) ++ List.replicate (3 - (lg_sl ([.ref (g 0), .int v0, .int v1])).length) Slot.unset).toArray = ls at hl ⊢
  have hl : lv_has ls 3 [(0, .ref (g 0)), (1, .int v0), (2, .int v1)] := hl
  refine lv_aload_n hx hb d_T_requireZone_0 rfl (lv_at hl 0 rfl) ?_
  refine lv_iload_n hx hb d_T_requireZone_1 rfl (lv_at hl 1 rfl) ?_
  by_cases a0 : okFl F v0
  · refine ro_callv (va_runV (As := [.int v0]) (rest := []) ⟨hx, hb, hml, hown, hts⟩ (c_T_requireFloor l g F nt E v0 hF12 a0) (cwV 1 hts (gw_V k_252 k_249 k_251 ks_T_requireFloor k_1) rfl rfl rfl (by decide +kernel) ⟨Nat.le_trans (Nat.le_of_ble_eq_true rfl) hfr, Nat.le_trans (Nat.le_of_ble_eq_true rfl) hlo⟩) ⟨pr_blind, va_recv hK hP (ci := 5) (q0 := 0) rfl rfl, pr_at hC (hP.sub (ws' := [(g 0, .inr (5, [.ref (g 1), .ref (g 4), .int (nI nt), .ref (g 5), .ref (g 6), .ref (g 11)])), (g 1, .inr (0, [.ref (g 2), .ref (g 3), .int (nI F), .int (nI E)]))]) [0, 1] rfl)⟩ rfl rfl hl.1 rfl (lv_room (Nat.le_of_ble_eq_true rfl)) d_T_requireZone_2 ⟨hce, hsl⟩) ?_
    refine lv_aload_n hx hb d_T_requireZone_5 rfl (lv_at hl 0 rfl) ?_
    refine lv_iload_n hx hb d_T_requireZone_6 rfl (lv_at hl 2 rfl) ?_
    by_cases a1 : okFl F v1
    · refine ro_callv (va_runV (As := [.int v1]) (rest := []) ⟨hx, hb, hml, hown, hts⟩ (c_T_requireFloor l g F nt E v1 hF12 a1) (cwV 1 hts (gw_V k_252 k_249 k_251 ks_T_requireFloor k_1) rfl rfl rfl (by decide +kernel) ⟨Nat.le_trans (Nat.le_of_ble_eq_true rfl) hfr, Nat.le_trans (Nat.le_of_ble_eq_true rfl) hlo⟩) ⟨pr_blind, va_recv hK hP (ci := 5) (q0 := 0) rfl rfl, pr_at hC (hP.sub (ws' := [(g 0, .inr (5, [.ref (g 1), .ref (g 4), .int (nI nt), .ref (g 5), .ref (g 6), .ref (g 11)])), (g 1, .inr (0, [.ref (g 2), .ref (g 3), .int (nI F), .int (nI E)]))]) [0, 1] rfl)⟩ rfl rfl hl.1 rfl (lv_room (Nat.le_of_ble_eq_true rfl)) d_T_requireZone_7 ⟨hce, hsl⟩) ?_
      refine lv_iload_n hx hb d_T_requireZone_10 rfl (lv_at hl 2 rfl) ?_
      refine lv_iload_n hx hb d_T_requireZone_11 rfl (lv_at hl 1 rfl) ?_
      refine lv_icmp_ge (tgt := 25) hx hb d_T_requireZone_12 (by decide) (fun h1 => ?_) (fun h1 => ?_)
      · exact absurd ⟨a0, a1, Int32.le_iff_toInt_le.mp h1⟩ hbad
      · exact vx_throwS hx hb hlt hown xa_fit xn_fit (hts _ k_151) (hts _ k_10) (hC.2.2.1 (182, "a zone ends below its begin") (by simp [ct_str])) (xa_hat hts hC) xa_ot hT.1 hT.2 va_S.rf (hl.1.trans hml.symm) d_T_requireZone_15 d_T_requireZone_18 d_T_requireZone_19 d_T_requireZone_21 d_T_requireZone_24 (fun x hx => (hxt x hx).elim) (Nat.le_trans (Nat.le_of_ble_eq_true rfl) hfr) (Nat.le_trans (Nat.le_of_ble_eq_true rfl) hlo) hc1 hs6 hlocks (fun t _ h1 h2 => ⟨rfl, h1, fun q h _ => h2 q h⟩) (fun z hz => by cases hz) (by decide) (by decide)
    · refine tx_call (vx_runV (As := [.int v1]) (rest := []) ⟨hx, hb, hml, hown, hts⟩ (c_T_requireFloor_b l hlt g F nt E v1 hF12 a1) (cwV 1 hts (gw_V k_252 k_249 k_251 ks_T_requireFloor k_1) rfl rfl rfl (by decide +kernel) ⟨Nat.le_trans (Nat.le_of_ble_eq_true rfl) hfr, Nat.le_trans (Nat.le_of_ble_eq_true rfl) hlo⟩) ⟨px_blind, va_recv hK hP (ci := 5) (q0 := 0) rfl rfl, px_at hC (hP.sub (ws' := [(g 0, .inr (5, [.ref (g 1), .ref (g 4), .int (nI nt), .ref (g 5), .ref (g 6), .ref (g 11)])), (g 1, .inr (0, [.ref (g 2), .ref (g 3), .int (nI F), .int (nI E)]))]) [0, 1] rfl) hT⟩ rfl rfl hl.1 rfl (lv_room (Nat.le_of_ble_eq_true rfl)) d_T_requireZone_7 ⟨hc1, hs6⟩) (fun ce q9 H1 hz1 hk1 hce1 hv1 hcl1 => ?_)
      exact tx_out hxt hlocks hz1 hk1 hce1 hv1 hcl1 (by decide) (by decide)
  · refine tx_call (vx_runV (As := [.int v0]) (rest := []) ⟨hx, hb, hml, hown, hts⟩ (c_T_requireFloor_b l hlt g F nt E v0 hF12 a0) (cwV 1 hts (gw_V k_252 k_249 k_251 ks_T_requireFloor k_1) rfl rfl rfl (by decide +kernel) ⟨Nat.le_trans (Nat.le_of_ble_eq_true rfl) hfr, Nat.le_trans (Nat.le_of_ble_eq_true rfl) hlo⟩) ⟨px_blind, va_recv hK hP (ci := 5) (q0 := 0) rfl rfl, px_at hC (hP.sub (ws' := [(g 0, .inr (5, [.ref (g 1), .ref (g 4), .int (nI nt), .ref (g 5), .ref (g 6), .ref (g 11)])), (g 1, .inr (0, [.ref (g 2), .ref (g 3), .int (nI F), .int (nI E)]))]) [0, 1] rfl) hT⟩ rfl rfl hl.1 rfl (lv_room (Nat.le_of_ble_eq_true rfl)) d_T_requireZone_2 ⟨hc1, hs6⟩) (fun ce q9 H1 hz1 hk1 hce1 hv1 hcl1 => ?_)
    exact tx_out hxt hlocks hz1 hk1 hce1 hv1 hcl1 (by decide) (by decide)
set_option maxHeartbeats 4000000 in
set_option maxRecDepth 100000 in
theorem c_T_requireType (l : Launch) {dC : Nat → ClassId} {dI : Nat → Nat → Nat} {cI cL cT : ClassId} {sa : Nat → Nat} (g ca : Nat → Nat) (nt : Nat) (k : Nat) (hn6 : nt ≤ 6) (hk : k < nt) : Met l y_T_requireType (Cond.code y_T_requireType b_T_requireType 3 (some (.object "RoundTrips$CarType")) :: gw) ({ frames := 0, cells := 0, slots := 0, locals := 0 } : Room) (pr dC dI cI cL cT sa [.ref (g 0), .int (nI k)] [(g 0, .inr (5, [.ref (g 1), .ref (g 4), .int (nI nt), .ref (g 5), .ref (g 6), .ref (g 11)])), (g 4, .inl (cT, 6, .inr (.inr (.inr (.inr (tq ca nt))))))]) (pf (ca k)) 0 0 xF := by
  refine Met.ofW (cc := b_T_requireType) (maxL := 3) (ret := (some (.object "RoundTrips$CarType"))) (by decide) rfl ?_
  intro p e s m args below meth c s₁ B hml hv
  obtain ⟨rfl, hC, hP⟩ := hv
  have hx := B.exec
  have hb := B.bytes
  have hr := B.returns
  have hts : ∀ w ∈ gw, w.before ([.ref (g 0), .int (nI k)] : List Value).toArray s = true := fun w hw => atoms_spec (ws := Cond.code y_T_requireType b_T_requireType 3 (some (.object "RoundTrips$CarType")) :: gw) B.pre w (List.mem_cons_of_mem _ hw)
  have hown : s.vm.findClass R_T = some m.cls := findClass_of_methodNamed B.named
  have hlocks := B.notSynchronized
  have hK := hC.1
  have hfr : 0 ≤ (headSpec (Cond.code y_T_requireType b_T_requireType 3 (some (.object "RoundTrips$CarType")) :: gw) ({ frames := 0, cells := 0, slots := 0, locals := 0 } : Room)).room.frames := Nat.le_refl _
  have hlo : 0 ≤ (headSpec (Cond.code y_T_requireType b_T_requireType 3 (some (.object "RoundTrips$CarType")) :: gw) ({ frames := 0, cells := 0, slots := 0, locals := 0 } : Room)).room.locals := Nat.le_refl _
  have hce : 0 ≤ (headSpec (Cond.code y_T_requireType b_T_requireType 3 (some (.object "RoundTrips$CarType")) :: gw) ({ frames := 0, cells := 0, slots := 0, locals := 0 } : Room)).room.cells := Nat.zero_le _
  have hsl : 0 ≤ (headSpec (Cond.code y_T_requireType b_T_requireType 3 (some (.object "RoundTrips$CarType")) :: gw) ({ frames := 0, cells := 0, slots := 0, locals := 0 } : Room)).room.slots := Nat.zero_le _
  have hl := lv_entry ([.ref (g 0), .int (nI k)]) (n := 3) (Nat.le_of_ble_eq_true rfl)
  rw [lg_entry_eq]
  generalize (lg_sl ([.ref (g 0), .int (nI k)]) ++ List.replicate (3 - (lg_sl ([.ref (g 0), .int (nI k)])).length) Slot.unset).toArray = ls at hl ⊢
  have hl : lv_has ls 3 [(0, .ref (g 0)), (1, .int (nI k))] := hl
  refine lv_iload_n hx hb d_T_requireType_0 rfl (lv_at hl 1 rfl) ?_
  refine lv_if_lt (tgt := 19) hx hb d_T_requireType_1 (by decide) (fun h1 => ?_) (fun h1 => ?_)
  · exact absurd (Int32.lt_iff_toInt_lt.mp h1) (by rw [nI_toInt (by omega), show (0 : Int32) = nI 0 by decide, nI_toInt (by decide)]; omega)
  · refine lv_iload_n hx hb d_T_requireType_4 rfl (lv_at hl 1 rfl) ?_
    refine lv_bipush (v := nI 6) hx hb d_T_requireType_5 (by decide) ?_
    refine nx_icmp_ge (tgt := 19) hx hb d_T_requireType_7 (by decide) (by omega) (by omega) (fun h2 => ?_) (fun h2 => ?_)
    · exact absurd h2 (by omega)
    · refine lv_aload_n hx hb d_T_requireType_10 rfl (lv_at hl 0 rfl) ?_
      refine va_get (D := (dC, dI)) (ci := 5) (v := .ref (g 4)) (C := R_T) (T := F_T) (N := 6) hx hb hts i_T hown hK hP 0 rfl rfl 1 (by decide) (hts _ k_121) (fun _ h9 => h9) rfl d_T_requireType_11 ?_
      refine lv_iload_n hx hb d_T_requireType_14 rfl (lv_at hl 1 rfl) ?_
      refine nx_aaldS hx hb hK hP 1 2 rfl rfl hk (by omega) d_T_requireType_15 ?_
      refine lv_goto (tgt := 20) hx hb d_T_requireType_16 (by decide) ?_
      refine lv_astore_n (lv' := [(2, .ref (ca k)), (0, .ref (g 0)), (1, .int (nI k))]) hx hb d_T_requireType_20 rfl hl (by decide) rfl (fun ls hl => ?_)
      refine lv_aload_n hx hb d_T_requireType_21 rfl (lv_at hl 0 rfl) ?_
      refine lv_ifnonnull (tgt := 35) hx hb d_T_requireType_22 (by decide) ?_
      refine lv_aload_n hx hb d_T_requireType_35 rfl (lv_at hl 0 rfl) ?_
      exact W.aret hx hb hr (Or.inl ⟨_, rfl⟩) (Or.inr ⟨_, rfl⟩) (fun t ht hW => ⟨rfl, ht⟩) (fun q h => by cases h) d_T_requireType_36
set_option maxHeartbeats 4000000 in
set_option maxRecDepth 100000 in
theorem c_T_requireType_b (l : Launch) (hlt : l.stackTraces = false) {dC : Nat → ClassId} {dI : Nat → Nat → Nat} {cI cL cT : ClassId} {sa : Nat → Nat} (g ca : Nat → Nat) (nt : Nat) (v0 : Int32) (hn6 : nt ≤ 6) (hbad : ¬ okTy nt v0) : vx_Met l y_T_requireType (Cond.code y_T_requireType b_T_requireType 3 (some (.object "RoundTrips$CarType")) :: gw) ({ frames := 6, cells := 1, slots := 6, locals := 90 } : Room) (px dC dI cI cL cT sa [.ref (g 0), .int v0] [(g 0, .inr (5, [.ref (g 1), .ref (g 4), .int (nI nt), .ref (g 5), .ref (g 6), .ref (g 11)])), (g 4, .inl (cT, 6, .inr (.inr (.inr (.inr (tq ca nt))))))]) xQ (xX E_arg) 1 6 xF := by
  refine vx_ofW (cc := b_T_requireType) (maxL := 3) (ret := (some (.object "RoundTrips$CarType"))) (by decide) rfl ?_
  intro p e s m args below meth c s₁ B hml hxt hv
  obtain ⟨rfl, hC, hP, hT⟩ := hv
  have hx := B.exec
  have hb := B.bytes
  have hts : ∀ w ∈ gw, w.before ([.ref (g 0), .int v0] : List Value).toArray s = true := fun w hw => atoms_spec (ws := Cond.code y_T_requireType b_T_requireType 3 (some (.object "RoundTrips$CarType")) :: gw) B.pre w (List.mem_cons_of_mem _ hw)
  have hown : s.vm.findClass R_T = some m.cls := findClass_of_methodNamed B.named
  have hlocks := B.notSynchronized
  have hK := hC.1
  have hfr : 6 ≤ (headSpec (Cond.code y_T_requireType b_T_requireType 3 (some (.object "RoundTrips$CarType")) :: gw) ({ frames := 6, cells := 1, slots := 6, locals := 90 } : Room)).room.frames := Nat.le_refl _
  have hlo : 90 ≤ (headSpec (Cond.code y_T_requireType b_T_requireType 3 (some (.object "RoundTrips$CarType")) :: gw) ({ frames := 6, cells := 1, slots := 6, locals := 90 } : Room)).room.locals := Nat.le_refl _
  have hce : 0 ≤ (headSpec (Cond.code y_T_requireType b_T_requireType 3 (some (.object "RoundTrips$CarType")) :: gw) ({ frames := 6, cells := 1, slots := 6, locals := 90 } : Room)).room.cells := Nat.zero_le _
  have hsl : 0 ≤ (headSpec (Cond.code y_T_requireType b_T_requireType 3 (some (.object "RoundTrips$CarType")) :: gw) ({ frames := 6, cells := 1, slots := 6, locals := 90 } : Room)).room.slots := Nat.zero_le _
  have hc1 : 1 ≤ (headSpec (Cond.code y_T_requireType b_T_requireType 3 (some (.object "RoundTrips$CarType")) :: gw) ({ frames := 6, cells := 1, slots := 6, locals := 90 } : Room)).room.cells := Nat.le_refl _
  have hs6 : 6 ≤ (headSpec (Cond.code y_T_requireType b_T_requireType 3 (some (.object "RoundTrips$CarType")) :: gw) ({ frames := 6, cells := 1, slots := 6, locals := 90 } : Room)).room.slots := Nat.le_refl _
  have hl := lv_entry ([.ref (g 0), .int v0]) (n := 3) (Nat.le_of_ble_eq_true rfl)
  rw [lg_entry_eq]
  generalize (lg_sl ([.ref (g 0), .int v0]) ++ List.replicate (3 - (lg_sl ([.ref (g 0), .int v0])).length) Slot.unset).toArray = ls at hl ⊢
  have hl : lv_has ls 3 [(0, .ref (g 0)), (1, .int v0)] := hl
  unfold okTy at hbad
  refine lv_iload_n hx hb d_T_requireType_0 rfl (lv_at hl 1 rfl) ?_
  refine lv_if_lt (tgt := 19) hx hb d_T_requireType_1 (by decide) (fun h1 => ?_) (fun h1 => ?_)
  · refine lv_null hx hb d_T_requireType_19 ?_
    refine lv_astore_nN (lv' := [(2, .null), (0, .ref (g 0)), (1, .int v0)]) hx hb d_T_requireType_20 rfl hl (by decide) rfl (fun ls hl => ?_)
    refine lv_aload_nN hx hb d_T_requireType_21 rfl (lv_at hl 0 rfl) ?_
    refine lv_ifnonnullN hx hb d_T_requireType_22 ?_
    exact vx_throwS hx hb hlt hown xa_fit xn_fit (hts _ k_151) (hts _ k_10) (hC.2.2.1 (184, "there is no such type") (by simp [ct_str])) (xa_hat hts hC) xa_ot hT.1 hT.2 va_S.rf (hl.1.trans hml.symm) d_T_requireType_25 d_T_requireType_28 d_T_requireType_29 d_T_requireType_31 d_T_requireType_34 (fun x hx => (hxt x hx).elim) (Nat.le_trans (Nat.le_of_ble_eq_true rfl) hfr) (Nat.le_trans (Nat.le_of_ble_eq_true rfl) hlo) hc1 hs6 hlocks (fun t _ h1 h2 => ⟨rfl, h1, fun q h _ => h2 q h⟩) (fun z hz => by cases hz) (by decide) (by decide)
  · refine lv_iload_n hx hb d_T_requireType_4 rfl (lv_at hl 1 rfl) ?_
    refine lv_bipush (v := nI 6) hx hb d_T_requireType_5 (by decide) ?_
    refine lv_icmp_ge (tgt := 19) hx hb d_T_requireType_7 (by decide) (fun h2 => ?_) (fun h2 => ?_)
    · refine lv_null hx hb d_T_requireType_19 ?_
      refine lv_astore_nN (lv' := [(2, .null), (0, .ref (g 0)), (1, .int v0)]) hx hb d_T_requireType_20 rfl hl (by decide) rfl (fun ls hl => ?_)
      refine lv_aload_nN hx hb d_T_requireType_21 rfl (lv_at hl 0 rfl) ?_
      refine lv_ifnonnullN hx hb d_T_requireType_22 ?_
      exact vx_throwS hx hb hlt hown xa_fit xn_fit (hts _ k_151) (hts _ k_10) (hC.2.2.1 (184, "there is no such type") (by simp [ct_str])) (xa_hat hts hC) xa_ot hT.1 hT.2 va_S.rf (hl.1.trans hml.symm) d_T_requireType_25 d_T_requireType_28 d_T_requireType_29 d_T_requireType_31 d_T_requireType_34 (fun x hx => (hxt x hx).elim) (Nat.le_trans (Nat.le_of_ble_eq_true rfl) hfr) (Nat.le_trans (Nat.le_of_ble_eq_true rfl) hlo) hc1 hs6 hlocks (fun t _ h1 h2 => ⟨rfl, h1, fun q h _ => h2 q h⟩) (fun z hz => by cases hz) (by decide) (by decide)
    · have q1 := mt Int32.lt_iff_toInt_lt.mpr h1
      have q2 := mt Int32.le_iff_toInt_le.mpr h2
      rw [show (0 : Int32) = nI 0 by decide, nI_toInt (by decide)] at q1
      rw [nI_toInt (by decide)] at q2
      obtain ⟨k, hk⟩ : ∃ k : Nat, v0.toInt = (k : Int) := ⟨v0.toInt.toNat, by omega⟩
      have hv : v0 = nI k := Int32.toInt_inj.mp (by rw [hk, nI_toInt (by omega)])
      subst hv
      clear h1 h2
      refine lv_aload_n hx hb d_T_requireType_10 rfl (lv_at hl 0 rfl) ?_
      refine va_get (D := (dC, dI)) (ci := 5) (v := .ref (g 4)) (C := R_T) (T := F_T) (N := 6) hx hb hts i_T hown hK hP 0 rfl rfl 1 (by decide) (hts _ k_121) (fun _ h9 => h9) rfl d_T_requireType_11 ?_
      refine lv_iload_n hx hb d_T_requireType_14 rfl (lv_at hl 1 rfl) ?_
      refine nx_aaldN hx hb hK hP 1 2 rfl rfl (by omega) (by omega) d_T_requireType_15 ?_
      refine lv_goto (tgt := 20) hx hb d_T_requireType_16 (by decide) ?_
      refine lv_astore_nN (lv' := [(2, .null), (0, .ref (g 0)), (1, .int (nI k))]) hx hb d_T_requireType_20 rfl hl (by decide) rfl (fun ls hl => ?_)
      refine lv_aload_nN hx hb d_T_requireType_21 rfl (lv_at hl 0 rfl) ?_
      refine lv_ifnonnullN hx hb d_T_requireType_22 ?_
      exact vx_throwS hx hb hlt hown xa_fit xn_fit (hts _ k_151) (hts _ k_10) (hC.2.2.1 (184, "there is no such type") (by simp [ct_str])) (xa_hat hts hC) xa_ot hT.1 hT.2 va_S.rf (hl.1.trans hml.symm) d_T_requireType_25 d_T_requireType_28 d_T_requireType_29 d_T_requireType_31 d_T_requireType_34 (fun x hx => (hxt x hx).elim) (Nat.le_trans (Nat.le_of_ble_eq_true rfl) hfr) (Nat.le_trans (Nat.le_of_ble_eq_true rfl) hlo) hc1 hs6 hlocks (fun t _ h1 h2 => ⟨rfl, h1, fun q h _ => h2 q h⟩) (fun z hz => by cases hz) (by decide) (by decide)
set_option maxHeartbeats 4000000 in
set_option maxRecDepth 100000 in
theorem c_T_requireSomeFloor (l : Launch) {dC : Nat → ClassId} {dI : Nat → Nat → Nat} {cI cL cT : ClassId} {sa : Nat → Nat} (g : Nat → Nat) (F nt E : Nat) (hF12 : F ≤ 12) (hok : F ≠ 0) : Met l y_T_requireSomeFloor (Cond.code y_T_requireSomeFloor b_T_requireSomeFloor 1 none :: gw) ({ frames := 0, cells := 0, slots := 0, locals := 0 } : Room) (pr dC dI cI cL cT sa [.ref (g 0)] [(g 0, .inr (5, [.ref (g 1), .ref (g 4), .int (nI nt), .ref (g 5), .ref (g 6), .ref (g 11)])), (g 1, .inr (0, [.ref (g 2), .ref (g 3), .int (nI F), .int (nI E)]))]) (pv) 0 0 xF := by
  refine Met.ofW (cc := b_T_requireSomeFloor) (maxL := 1) (ret := none) (by decide) rfl ?_
  intro p e s m args below meth c s₁ B hml hv
  obtain ⟨rfl, hC, hP⟩ := hv
  have hx := B.exec
  have hb := B.bytes
  have hr := B.returns
  have hts : ∀ w ∈ gw, w.before ([.ref (g 0)] : List Value).toArray s = true := fun w hw => atoms_spec (ws := Cond.code y_T_requireSomeFloor b_T_requireSomeFloor 1 none :: gw) B.pre w (List.mem_cons_of_mem _ hw)
  have hown : s.vm.findClass R_T = some m.cls := findClass_of_methodNamed B.named
  have hlocks := B.notSynchronized
  have hK := hC.1
  have hfr : 0 ≤ (headSpec (Cond.code y_T_requireSomeFloor b_T_requireSomeFloor 1 none :: gw) ({ frames := 0, cells := 0, slots := 0, locals := 0 } : Room)).room.frames := Nat.le_refl _
  have hlo : 0 ≤ (headSpec (Cond.code y_T_requireSomeFloor b_T_requireSomeFloor 1 none :: gw) ({ frames := 0, cells := 0, slots := 0, locals := 0 } : Room)).room.locals := Nat.le_refl _
  have hce : 0 ≤ (headSpec (Cond.code y_T_requireSomeFloor b_T_requireSomeFloor 1 none :: gw) ({ frames := 0, cells := 0, slots := 0, locals := 0 } : Room)).room.cells := Nat.zero_le _
  have hsl : 0 ≤ (headSpec (Cond.code y_T_requireSomeFloor b_T_requireSomeFloor 1 none :: gw) ({ frames := 0, cells := 0, slots := 0, locals := 0 } : Room)).room.slots := Nat.zero_le _
  have hl := lv_entry ([.ref (g 0)]) (n := 1) (Nat.le_of_ble_eq_true rfl)
  rw [lg_entry_eq]
  generalize (lg_sl ([.ref (g 0)]) ++ List.replicate (1 - (lg_sl ([.ref (g 0)])).length) Slot.unset).toArray = ls at hl ⊢
  have hl : lv_has ls 1 [(0, .ref (g 0))] := hl
  refine lv_aload_n hx hb d_T_requireSomeFloor_0 rfl (lv_at hl 0 rfl) ?_
  refine va_get (D := (dC, dI)) (ci := 5) (v := .ref (g 1)) (C := R_T) (T := F_T) (N := 6) hx hb hts i_T hown hK hP 0 rfl rfl 0 (by decide) (hts _ k_120) (fun _ h9 => h9) rfl d_T_requireSomeFloor_1 ?_
  refine va_get (D := (dC, dI)) (ci := 0) (v := .int (nI F)) (C := R_B) (T := F_B) (N := 4) hx hb hts i_B hown hK hP 1 rfl rfl 2 (by decide) (hts _ k_37) (fun _ h9 => h9) rfl d_T_requireSomeFloor_4 ?_
  refine nx_if_ne (tgt := 20) hx hb d_T_requireSomeFloor_7 (by decide) (by omega) (fun h1 => ?_) (fun h1 => ?_)
  · exact W.vret hx hb hr (fun t ht hW => ⟨rfl, ht⟩) (fun q h => by cases h) d_T_requireSomeFloor_20
  · exact absurd h1 hok
set_option maxHeartbeats 4000000 in
set_option maxRecDepth 100000 in
theorem c_T_requireSomeFloor_b (l : Launch) (hlt : l.stackTraces = false) {dC : Nat → ClassId} {dI : Nat → Nat → Nat} {cI cL cT : ClassId} {sa : Nat → Nat} (g : Nat → Nat) (F nt E : Nat) (hbad : F = 0) : vx_Met l y_T_requireSomeFloor (Cond.code y_T_requireSomeFloor b_T_requireSomeFloor 1 none :: gw) ({ frames := 6, cells := 1, slots := 6, locals := 90 } : Room) (px dC dI cI cL cT sa [.ref (g 0)] [(g 0, .inr (5, [.ref (g 1), .ref (g 4), .int (nI nt), .ref (g 5), .ref (g 6), .ref (g 11)])), (g 1, .inr (0, [.ref (g 2), .ref (g 3), .int (nI F), .int (nI E)]))]) xQ (xX E_sta) 1 6 xF := by
  refine vx_ofW (cc := b_T_requireSomeFloor) (maxL := 1) (ret := none) (by decide) rfl ?_
  intro p e s m args below meth c s₁ B hml hxt hv
  obtain ⟨rfl, hC, hP, hT⟩ := hv
  have hx := B.exec
  have hb := B.bytes
  have hts : ∀ w ∈ gw, w.before ([.ref (g 0)] : List Value).toArray s = true := fun w hw => atoms_spec (ws := Cond.code y_T_requireSomeFloor b_T_requireSomeFloor 1 none :: gw) B.pre w (List.mem_cons_of_mem _ hw)
  have hown : s.vm.findClass R_T = some m.cls := findClass_of_methodNamed B.named
  have hlocks := B.notSynchronized
  have hK := hC.1
  have hfr : 6 ≤ (headSpec (Cond.code y_T_requireSomeFloor b_T_requireSomeFloor 1 none :: gw) ({ frames := 6, cells := 1, slots := 6, locals := 90 } : Room)).room.frames := Nat.le_refl _
  have hlo : 90 ≤ (headSpec (Cond.code y_T_requireSomeFloor b_T_requireSomeFloor 1 none :: gw) ({ frames := 6, cells := 1, slots := 6, locals := 90 } : Room)).room.locals := Nat.le_refl _
  have hce : 0 ≤ (headSpec (Cond.code y_T_requireSomeFloor b_T_requireSomeFloor 1 none :: gw) ({ frames := 6, cells := 1, slots := 6, locals := 90 } : Room)).room.cells := Nat.zero_le _
  have hsl : 0 ≤ (headSpec (Cond.code y_T_requireSomeFloor b_T_requireSomeFloor 1 none :: gw) ({ frames := 6, cells := 1, slots := 6, locals := 90 } : Room)).room.slots := Nat.zero_le _
  have hc1 : 1 ≤ (headSpec (Cond.code y_T_requireSomeFloor b_T_requireSomeFloor 1 none :: gw) ({ frames := 6, cells := 1, slots := 6, locals := 90 } : Room)).room.cells := Nat.le_refl _
  have hs6 : 6 ≤ (headSpec (Cond.code y_T_requireSomeFloor b_T_requireSomeFloor 1 none :: gw) ({ frames := 6, cells := 1, slots := 6, locals := 90 } : Room)).room.slots := Nat.le_refl _
  have hl := lv_entry ([.ref (g 0)]) (n := 1) (Nat.le_of_ble_eq_true rfl)
  rw [lg_entry_eq]
  generalize (lg_sl ([.ref (g 0)]) ++ List.replicate (1 - (lg_sl ([.ref (g 0)])).length) Slot.unset).toArray = ls at hl ⊢
  have hl : lv_has ls 1 [(0, .ref (g 0))] := hl
  refine lv_aload_n hx hb d_T_requireSomeFloor_0 rfl (lv_at hl 0 rfl) ?_
  refine va_get (D := (dC, dI)) (ci := 5) (v := .ref (g 1)) (C := R_T) (T := F_T) (N := 6) hx hb hts i_T hown hK hP 0 rfl rfl 0 (by decide) (hts _ k_120) (fun _ h9 => h9) rfl d_T_requireSomeFloor_1 ?_
  refine va_get (D := (dC, dI)) (ci := 0) (v := .int (nI F)) (C := R_B) (T := F_B) (N := 4) hx hb hts i_B hown hK hP 1 rfl rfl 2 (by decide) (hts _ k_37) (fun _ h9 => h9) rfl d_T_requireSomeFloor_4 ?_
  refine nx_if_ne (tgt := 20) hx hb d_T_requireSomeFloor_7 (by decide) (by omega) (fun h1 => ?_) (fun h1 => ?_)
  · exact absurd h1 (by omega)
  · exact vx_throwS hx hb hlt hown xs_fit xn_fit (hts _ k_218) (hts _ k_11) (hC.2.2.1 (186, "there is no floor") (by simp [ct_str])) (xs_hat hts hC) xs_ot hT.1 hT.2 va_S.rf (hl.1.trans hml.symm) d_T_requireSomeFloor_10 d_T_requireSomeFloor_13 d_T_requireSomeFloor_14 d_T_requireSomeFloor_16 d_T_requireSomeFloor_19 (fun x hx => (hxt x hx).elim) (Nat.le_trans (Nat.le_of_ble_eq_true rfl) hfr) (Nat.le_trans (Nat.le_of_ble_eq_true rfl) hlo) hc1 hs6 hlocks (fun t _ h1 h2 => ⟨rfl, h1, fun q h _ => h2 q h⟩) (fun z hz => by cases hz) (by decide) (by decide)
set_option maxHeartbeats 4000000 in
set_option maxRecDepth 100000 in
theorem c_T_requireRoomForAll (l : Launch) {dC : Nat → ClassId} {dI : Nat → Nat → Nat} {cI cL cT : ClassId} {sa : Nat → Nat} (x : Nat) (hok : x ≤ 200) : Met l y_T_requireRoomForAll (Cond.code y_T_requireRoomForAll b_T_requireRoomForAll 1 none :: gw) ({ frames := 0, cells := 0, slots := 0, locals := 0 } : Room) (pr dC dI cI cL cT sa [.int (nI x)] []) (pv) 0 0 xF := by
  refine Met.ofW (cc := b_T_requireRoomForAll) (maxL := 1) (ret := none) (by decide) rfl ?_
  intro p e s m args below meth c s₁ B hml hv
  obtain ⟨rfl, hC, hP⟩ := hv
  have hx := B.exec
  have hb := B.bytes
  have hr := B.returns
  have hts : ∀ w ∈ gw, w.before ([.int (nI x)] : List Value).toArray s = true := fun w hw => atoms_spec (ws := Cond.code y_T_requireRoomForAll b_T_requireRoomForAll 1 none :: gw) B.pre w (List.mem_cons_of_mem _ hw)
  have hown : s.vm.findClass R_T = some m.cls := findClass_of_methodNamed B.named
  have hlocks := B.notSynchronized
  have hK := hC.1
  have hfr : 0 ≤ (headSpec (Cond.code y_T_requireRoomForAll b_T_requireRoomForAll 1 none :: gw) ({ frames := 0, cells := 0, slots := 0, locals := 0 } : Room)).room.frames := Nat.le_refl _
  have hlo : 0 ≤ (headSpec (Cond.code y_T_requireRoomForAll b_T_requireRoomForAll 1 none :: gw) ({ frames := 0, cells := 0, slots := 0, locals := 0 } : Room)).room.locals := Nat.le_refl _
  have hce : 0 ≤ (headSpec (Cond.code y_T_requireRoomForAll b_T_requireRoomForAll 1 none :: gw) ({ frames := 0, cells := 0, slots := 0, locals := 0 } : Room)).room.cells := Nat.zero_le _
  have hsl : 0 ≤ (headSpec (Cond.code y_T_requireRoomForAll b_T_requireRoomForAll 1 none :: gw) ({ frames := 0, cells := 0, slots := 0, locals := 0 } : Room)).room.slots := Nat.zero_le _
  have hl := lv_entry ([.int (nI x)]) (n := 1) (Nat.le_of_ble_eq_true rfl)
  rw [lg_entry_eq]
  generalize (lg_sl ([.int (nI x)]) ++ List.replicate (1 - (lg_sl ([.int (nI x)])).length) Slot.unset).toArray = ls at hl ⊢
  have hl : lv_has ls 1 [(0, .int (nI x))] := hl
  refine lv_iload_n hx hb d_T_requireRoomForAll_0 rfl (lv_at hl 0 rfl) ?_
  refine lv_sipush (v := nI 200) hx hb d_T_requireRoomForAll_1 (by decide) ?_
  refine nx_icmp_le (tgt := 17) hx hb d_T_requireRoomForAll_4 (by decide) (by omega) (by omega) (fun h1 => ?_) (fun h1 => ?_)
  · exact W.vret hx hb hr (fun t ht hW => ⟨rfl, ht⟩) (fun q h => by cases h) d_T_requireRoomForAll_17
  · exact absurd hok (by omega)
set_option maxHeartbeats 4000000 in
set_option maxRecDepth 100000 in
theorem c_T_requireRoomForAll_b (l : Launch) (hlt : l.stackTraces = false) {dC : Nat → ClassId} {dI : Nat → Nat → Nat} {cI cL cT : ClassId} {sa : Nat → Nat} (x : Nat) (hx9 : x < 2 ^ 31) (hbad : 200 < x) : vx_Met l y_T_requireRoomForAll (Cond.code y_T_requireRoomForAll b_T_requireRoomForAll 1 none :: gw) ({ frames := 6, cells := 1, slots := 6, locals := 90 } : Room) (px dC dI cI cL cT sa [.int (nI x)] []) xQ (xX E_sta) 1 6 xF := by
  refine vx_ofW (cc := b_T_requireRoomForAll) (maxL := 1) (ret := none) (by decide) rfl ?_
  intro p e s m args below meth c s₁ B hml hxt hv
  obtain ⟨rfl, hC, hP, hT⟩ := hv
  have hx := B.exec
  have hb := B.bytes
  have hts : ∀ w ∈ gw, w.before ([.int (nI x)] : List Value).toArray s = true := fun w hw => atoms_spec (ws := Cond.code y_T_requireRoomForAll b_T_requireRoomForAll 1 none :: gw) B.pre w (List.mem_cons_of_mem _ hw)
  have hown : s.vm.findClass R_T = some m.cls := findClass_of_methodNamed B.named
  have hlocks := B.notSynchronized
  have hK := hC.1
  have hfr : 6 ≤ (headSpec (Cond.code y_T_requireRoomForAll b_T_requireRoomForAll 1 none :: gw) ({ frames := 6, cells := 1, slots := 6, locals := 90 } : Room)).room.frames := Nat.le_refl _
  have hlo : 90 ≤ (headSpec (Cond.code y_T_requireRoomForAll b_T_requireRoomForAll 1 none :: gw) ({ frames := 6, cells := 1, slots := 6, locals := 90 } : Room)).room.locals := Nat.le_refl _
  have hce : 0 ≤ (headSpec (Cond.code y_T_requireRoomForAll b_T_requireRoomForAll 1 none :: gw) ({ frames := 6, cells := 1, slots := 6, locals := 90 } : Room)).room.cells := Nat.zero_le _
  have hsl : 0 ≤ (headSpec (Cond.code y_T_requireRoomForAll b_T_requireRoomForAll 1 none :: gw) ({ frames := 6, cells := 1, slots := 6, locals := 90 } : Room)).room.slots := Nat.zero_le _
  have hc1 : 1 ≤ (headSpec (Cond.code y_T_requireRoomForAll b_T_requireRoomForAll 1 none :: gw) ({ frames := 6, cells := 1, slots := 6, locals := 90 } : Room)).room.cells := Nat.le_refl _
  have hs6 : 6 ≤ (headSpec (Cond.code y_T_requireRoomForAll b_T_requireRoomForAll 1 none :: gw) ({ frames := 6, cells := 1, slots := 6, locals := 90 } : Room)).room.slots := Nat.le_refl _
  have hl := lv_entry ([.int (nI x)]) (n := 1) (Nat.le_of_ble_eq_true rfl)
  rw [lg_entry_eq]
  generalize (lg_sl ([.int (nI x)]) ++ List.replicate (1 - (lg_sl ([.int (nI x)])).length) Slot.unset).toArray = ls at hl ⊢
  have hl : lv_has ls 1 [(0, .int (nI x))] := hl
  refine lv_iload_n hx hb d_T_requireRoomForAll_0 rfl (lv_at hl 0 rfl) ?_
  refine lv_sipush (v := nI 200) hx hb d_T_requireRoomForAll_1 (by decide) ?_
  refine nx_icmp_le (tgt := 17) hx hb d_T_requireRoomForAll_4 (by decide) (by omega) (by omega) (fun h1 => ?_) (fun h1 => ?_)
  · exact absurd hbad (by omega)
  · exact vx_throwS hx hb hlt hown xs_fit xn_fit (hts _ k_218) (hts _ k_11) (hC.2.2.1 (188, "all floors have more than 200 persons together") (by simp [ct_str])) (xs_hat hts hC) xs_ot hT.1 hT.2 va_S.rf (hl.1.trans hml.symm) d_T_requireRoomForAll_7 d_T_requireRoomForAll_10 d_T_requireRoomForAll_11 d_T_requireRoomForAll_13 d_T_requireRoomForAll_16 (fun x hx => (hxt x hx).elim) (Nat.le_trans (Nat.le_of_ble_eq_true rfl) hfr) (Nat.le_trans (Nat.le_of_ble_eq_true rfl) hlo) hc1 hs6 hlocks (fun t _ h1 h2 => ⟨rfl, h1, fun q h _ => h2 q h⟩) (fun z hz => by cases hz) (by decide) (by decide)
