set_option maxHeartbeats 4000000 in
set_option maxRecDepth 100000 in
theorem c_B_init (l : Launch) {dC : Nat → ClassId} {dI : Nat → Nat → Nat} {cI cL cT : ClassId} {sa : Nat → Nat} (sz : Nat) (a0 : Nat)  : Met l y_B_init (Cond.code y_B_init b_B_init 1 none :: gw) ({ frames := 1, cells := 2, slots := 26, locals := 60 } : Room) (wr dC dI cI cL cT sa [.ref a0] [(a0, .inr (0, [.null, .null, .int (nI 0), .int (nI 0)]))] sz) (va_Qv (fun (u : Nat × Nat) => True) (fun (u : Nat × Nat) => wB dC dI [(a0, .inr (0, [.null, .null, .int (nI 0), .int (nI 0)]))] [(a0, .inr (0, [.ref u.1, .ref u.2, .int (nI 0), .int (nI 0)])), (u.1, .inl (cI, 13, .inl (fun j => nI (z0 j)))), (u.2, .inl (cI, 13, .inl (fun j => nI (z0 j))))] sz ()) (va_A [(a0, .inr (0, [.null, .null, .int (nI 0), .int (nI 0)]))] sz)) 2 26 (va_A [(a0, .inr (0, [.null, .null, .int (nI 0), .int (nI 0)]))] sz) := by
  refine Met.ofW (cc := b_B_init) (maxL := 1) (ret := none) (by decide) rfl ?_
  intro p e s m args below meth c s₁ B hml hv
  obtain ⟨rfl, hsz, hC, hP, hD0⟩ := hv
  have hx := B.exec
  have hb := B.bytes
  have hr := B.returns
  have hts : ∀ w ∈ gw, w.before ([.ref a0] : List Value).toArray s = true := fun w hw => atoms_spec (ws := Cond.code y_B_init b_B_init 1 none :: gw) B.pre w (List.mem_cons_of_mem _ hw)
  have hown : s.vm.findClass R_B = some m.cls := findClass_of_methodNamed B.named
  have hlocks := B.notSynchronized
  have hin : meth.name = "<init>" := (name_of_methodNamed B.named B.method).1
  have hK := hC.1
  have hfr : 1 ≤ (headSpec (Cond.code y_B_init b_B_init 1 none :: gw) ({ frames := 1, cells := 2, slots := 26, locals := 60 } : Room)).room.frames := Nat.le_refl _
  have hlo : 60 ≤ (headSpec (Cond.code y_B_init b_B_init 1 none :: gw) ({ frames := 1, cells := 2, slots := 26, locals := 60 } : Room)).room.locals := Nat.le_refl _
  have hce : 0 ≤ (headSpec (Cond.code y_B_init b_B_init 1 none :: gw) ({ frames := 1, cells := 2, slots := 26, locals := 60 } : Room)).room.cells := Nat.zero_le _
  have hsl : 0 ≤ (headSpec (Cond.code y_B_init b_B_init 1 none :: gw) ({ frames := 1, cells := 2, slots := 26, locals := 60 } : Room)).room.slots := Nat.zero_le _
  subst hsz
  have hD := hD0.self (sz := s.heap.size)
  unfold wB
  generalize hAe : va_A [(a0, .inr (0, [.null, .null, .int (nI 0), .int (nI 0)]))] s.heap.size = A at hD ⊢
  have hA : ∀ q : Nat, s.heap.size ≤ q → A q := fun q h => by rw [← hAe]; exact Or.inr h
  have hS : va_S A s.heap s.heap [] := va_S.rf
  have hl := lv_entry ([.ref a0]) (n := 1) (Nat.le_of_ble_eq_true rfl)
  rw [lg_entry_eq]
  generalize (lg_sl ([.ref a0]) ++ List.replicate (1 - (lg_sl ([.ref a0])).length) Slot.unset).toArray = ls at hl ⊢
  have hl : lv_has ls 1 [(0, .ref a0)] := hl
  have hP : va_P (dC, dI) vwCl [(a0, .inr (0, [.null, .null, .int (nI 0), .int (nI 0)]))] s.heap := hP
  refine lv_aload_n hx hb d_B_init_0 rfl (lv_at hl 0 rfl) ?_
  refine W.objInit hx hb hown (hts _ k_28) (hts _ k_21) (hts _ k_22) rfl (by rw [hml]; exact hl.1) rfl d_B_init_1 (Nat.le_trans (Nat.le_of_ble_eq_true rfl) hfr) (Nat.le_trans (Nat.le_of_ble_eq_true rfl) hlo) ?_
  refine W.eq (g2 := F0 m 4 ls []) rfl ?_
  refine lv_aload_n hx hb d_B_init_4 rfl (lv_at hl 0 rfl) ?_
  refine lv_bipush (v := nI 13) hx hb d_B_init_5 (by decide) ?_
  refine nx_newI hx hb (hts _ k_50) hK hP hD hS hA (N := 13) (by decide) (Nat.le_of_ble_eq_true rfl) (Nat.le_of_ble_eq_true rfl) d_B_init_7 (fun b2 H hP hD hS => ?_)
  have hP : va_P (dC, dI) vwCl [(a0, .inr (0, [.null, .null, .int (nI 0), .int (nI 0)])), (b2, .inl (cI, 13, .inl (fun j => nI (z0 j))))] H := hP
  have hD : va_D A [(a0, .inr (0, [.null, .null, .int (nI 0), .int (nI 0)])), (b2, .inl (cI, 13, .inl (fun j => nI (z0 j))))] := hD
  refine W.widen (k := 1) (n := 13) (Nat.le_of_ble_eq_true rfl) (Nat.le_of_ble_eq_true rfl) ?_
  refine va_putF (D := (dC, dI)) (ci := 0) (v := .ref b2) (ty := (.array .int)) (C := R_B) (T := F_B) (N := 4) hx hb hts i_B ft_B ft_B_ok n_B hown hK hP hD hS 0 rfl rfl 0 (by decide) (hts _ k_29) (fun _ h9 => h9) rfl hin rfl (by decide +kernel) rfl rfl (Nat.le_of_ble_eq_true rfl) d_B_init_9 (fun H locs hP hD hS => ?_)
  have hP : va_P (dC, dI) vwCl [(a0, .inr (0, [.ref b2, .null, .int (nI 0), .int (nI 0)])), (b2, .inl (cI, 13, .inl (fun j => nI (z0 j))))] H := hP
  have hD : va_D A [(a0, .inr (0, [.ref b2, .null, .int (nI 0), .int (nI 0)])), (b2, .inl (cI, 13, .inl (fun j => nI (z0 j))))] := hD
  refine lv_aload_n hx hb d_B_init_12 rfl (lv_at hl 0 rfl) ?_
  refine lv_bipush (v := nI 13) hx hb d_B_init_13 (by decide) ?_
  refine nx_newI hx hb (hts _ k_50) hK hP hD hS hA (N := 13) (by decide) (Nat.le_of_ble_eq_true rfl) (Nat.le_of_ble_eq_true rfl) d_B_init_15 (fun b3 H hP hD hS => ?_)
  have hP : va_P (dC, dI) vwCl [(a0, .inr (0, [.ref b2, .null, .int (nI 0), .int (nI 0)])), (b2, .inl (cI, 13, .inl (fun j => nI (z0 j)))), (b3, .inl (cI, 13, .inl (fun j => nI (z0 j))))] H := hP
  have hD : va_D A [(a0, .inr (0, [.ref b2, .null, .int (nI 0), .int (nI 0)])), (b2, .inl (cI, 13, .inl (fun j => nI (z0 j)))), (b3, .inl (cI, 13, .inl (fun j => nI (z0 j))))] := hD
  refine W.widen (k := 2) (n := 26) (Nat.le_of_ble_eq_true rfl) (Nat.le_of_ble_eq_true rfl) ?_
  refine va_putF (D := (dC, dI)) (ci := 0) (v := .ref b3) (ty := (.array .int)) (C := R_B) (T := F_B) (N := 4) hx hb hts i_B ft_B ft_B_ok n_B hown hK hP hD hS 0 rfl rfl 1 (by decide) (hts _ k_33) (fun _ h9 => h9) rfl hin rfl (by decide +kernel) rfl rfl (Nat.le_of_ble_eq_true rfl) d_B_init_17 (fun H locs hP hD hS => ?_)
  have hP : va_P (dC, dI) vwCl [(a0, .inr (0, [.ref b2, .ref b3, .int (nI 0), .int (nI 0)])), (b2, .inl (cI, 13, .inl (fun j => nI (z0 j)))), (b3, .inl (cI, 13, .inl (fun j => nI (z0 j))))] H := hP
  have hD : va_D A [(a0, .inr (0, [.ref b2, .ref b3, .int (nI 0), .int (nI 0)])), (b2, .inl (cI, 13, .inl (fun j => nI (z0 j)))), (b3, .inl (cI, 13, .inl (fun j => nI (z0 j))))] := hD
  exact W.vret hx hb hr (fun t ht hW => ⟨⟨(b2, b3), rfl, trivial, by rw [ht]; exact hP, hD⟩, hS.F ht⟩) hS.2.2 d_B_init_20
set_option maxHeartbeats 4000000 in
set_option maxRecDepth 100000 in
theorem c_O_init (l : Launch) {dC : Nat → ClassId} {dI : Nat → Nat → Nat} {cI cL cT : ClassId} {sa : Nat → Nat} (sz : Nat) (a0 : Nat)  : Met l y_O_init (Cond.code y_O_init b_O_init 1 none :: gw) ({ frames := 1, cells := 0, slots := 0, locals := 60 } : Room) (wr dC dI cI cL cT sa [.ref a0] [(a0, .inr (2, [.int (nI 0), .long (lN 0), .long (lN 0), .long (lN 0)]))] sz) (va_Qv (fun (u : Unit) => True) (fun (u : Unit) => wB dC dI [(a0, .inr (2, [.int (nI 0), .long (lN 0), .long (lN 0), .long (lN 0)]))] [(a0, .inr (2, [.int (nI 1), .long (lN 1), .long (lN 0), .long (lN 0)]))] sz ()) (va_A [(a0, .inr (2, [.int (nI 0), .long (lN 0), .long (lN 0), .long (lN 0)]))] sz)) 0 0 (va_A [(a0, .inr (2, [.int (nI 0), .long (lN 0), .long (lN 0), .long (lN 0)]))] sz) := by
  refine Met.ofW (cc := b_O_init) (maxL := 1) (ret := none) (by decide) rfl ?_
  intro p e s m args below meth c s₁ B hml hv
  obtain ⟨rfl, hsz, hC, hP, hD0⟩ := hv
  have hx := B.exec
  have hb := B.bytes
  have hr := B.returns
  have hts : ∀ w ∈ gw, w.before ([.ref a0] : List Value).toArray s = true := fun w hw => atoms_spec (ws := Cond.code y_O_init b_O_init 1 none :: gw) B.pre w (List.mem_cons_of_mem _ hw)
  have hown : s.vm.findClass R_O = some m.cls := findClass_of_methodNamed B.named
  have hlocks := B.notSynchronized
  have hin : meth.name = "<init>" := (name_of_methodNamed B.named B.method).1
  have hK := hC.1
  have hfr : 1 ≤ (headSpec (Cond.code y_O_init b_O_init 1 none :: gw) ({ frames := 1, cells := 0, slots := 0, locals := 60 } : Room)).room.frames := Nat.le_refl _
  have hlo : 60 ≤ (headSpec (Cond.code y_O_init b_O_init 1 none :: gw) ({ frames := 1, cells := 0, slots := 0, locals := 60 } : Room)).room.locals := Nat.le_refl _
  have hce : 0 ≤ (headSpec (Cond.code y_O_init b_O_init 1 none :: gw) ({ frames := 1, cells := 0, slots := 0, locals := 60 } : Room)).room.cells := Nat.zero_le _
  have hsl : 0 ≤ (headSpec (Cond.code y_O_init b_O_init 1 none :: gw) ({ frames := 1, cells := 0, slots := 0, locals := 60 } : Room)).room.slots := Nat.zero_le _
  subst hsz
  have hD := hD0.self (sz := s.heap.size)
  unfold wB
  generalize hAe : va_A [(a0, .inr (2, [.int (nI 0), .long (lN 0), .long (lN 0), .long (lN 0)]))] s.heap.size = A at hD ⊢
  have hA : ∀ q : Nat, s.heap.size ≤ q → A q := fun q h => by rw [← hAe]; exact Or.inr h
  have hS : va_S A s.heap s.heap [] := va_S.rf
  have hl := lv_entry ([.ref a0]) (n := 1) (Nat.le_of_ble_eq_true rfl)
  rw [lg_entry_eq]
  generalize (lg_sl ([.ref a0]) ++ List.replicate (1 - (lg_sl ([.ref a0])).length) Slot.unset).toArray = ls at hl ⊢
  have hl : lv_has ls 1 [(0, .ref a0)] := hl
  have hP : va_P (dC, dI) vwCl [(a0, .inr (2, [.int (nI 0), .long (lN 0), .long (lN 0), .long (lN 0)]))] s.heap := hP
  refine lv_aload_n hx hb d_O_init_0 rfl (lv_at hl 0 rfl) ?_
  refine W.objInit hx hb hown (hts _ k_58) (hts _ k_21) (hts _ k_22) rfl (by rw [hml]; exact hl.1) rfl d_O_init_1 (Nat.le_trans (Nat.le_of_ble_eq_true rfl) hfr) (Nat.le_trans (Nat.le_of_ble_eq_true rfl) hlo) ?_
  refine W.eq (g2 := F0 m 4 ls []) rfl ?_
  refine lv_aload_n hx hb d_O_init_4 rfl (lv_at hl 0 rfl) ?_
  refine lv_iconst (v := nI 1) hx hb d_O_init_5 (by decide) ?_
  refine va_put (D := (dC, dI)) (ci := 2) (v := .int (nI 1)) (ty := (.boolean)) (C := R_O) (T := F_O) (N := 4) hx hb hts i_O ft_O ft_O_ok n_O hown hK hP hD hS 0 rfl rfl 0 (by decide) (hts _ k_59) (fun _ h9 => h9) rfl (by decide +kernel) (by decide) (by decide) (Nat.le_of_ble_eq_true rfl) d_O_init_6 (fun H locs hP hD hS => ?_)
  have hP : va_P (dC, dI) vwCl [(a0, .inr (2, [.int (nI 1), .long (lN 0), .long (lN 0), .long (lN 0)]))] H := hP
  have hD : va_D A [(a0, .inr (2, [.int (nI 1), .long (lN 0), .long (lN 0), .long (lN 0)]))] := hD
  refine lv_aload_n hx hb d_O_init_9 rfl (lv_at hl 0 rfl) ?_
  refine lv_lconst (v := lN 1) hx hb d_O_init_10 (by decide) ?_
  refine va_put (D := (dC, dI)) (ci := 2) (v := .long (lN 1)) (ty := (.long)) (C := R_O) (T := F_O) (N := 4) hx hb hts i_O ft_O ft_O_ok n_O hown hK hP hD hS 0 rfl rfl 1 (by decide) (hts _ k_60) (fun _ h9 => h9) rfl (by decide +kernel) rfl rfl (Nat.le_of_ble_eq_true rfl) d_O_init_11 (fun H locs hP hD hS => ?_)
  have hP : va_P (dC, dI) vwCl [(a0, .inr (2, [.int (nI 1), .long (lN 1), .long (lN 0), .long (lN 0)]))] H := hP
  have hD : va_D A [(a0, .inr (2, [.int (nI 1), .long (lN 1), .long (lN 0), .long (lN 0)]))] := hD
  exact W.vret hx hb hr (fun t ht hW => ⟨⟨(), rfl, trivial, by rw [ht]; exact hP, hD⟩, hS.F ht⟩) hS.2.2 d_O_init_14
set_option maxHeartbeats 4000000 in
set_option maxRecDepth 100000 in
theorem c_S_init (l : Launch) {dC : Nat → ClassId} {dI : Nat → Nat → Nat} {cI cL cT : ClassId} {sa : Nat → Nat} (sz : Nat) (a0 : Nat)  : Met l y_S_init (Cond.code y_S_init b_S_init 1 none :: gw) ({ frames := 1, cells := 4, slots := 346, locals := 60 } : Room) (wr dC dI cI cL cT sa [.ref a0] [(a0, .inr (3, [.null, .null, .null, .null, .int (nI 0), .int (nI 0), .int (nI 0)]))] sz) (va_Qv (fun (u : Nat × Nat × Nat × Nat) => True) (fun (u : Nat × Nat × Nat × Nat) => wB dC dI [(a0, .inr (3, [.null, .null, .null, .null, .int (nI 0), .int (nI 0), .int (nI 0)]))] [(a0, .inr (3, [.ref u.1, .ref u.2.1, .ref u.2.2.1, .ref u.2.2.2, .int (nI 0), .int (nI 0), .int (nI 0)])), (u.1, .inl (cL, 169, .inr (.inl (fun j => lN (z0 j))))), (u.2.1, .inl (cL, 169, .inr (.inl (fun j => lN ((up z0 0 1) j))))), (u.2.2.1, .inl (cI, 4, .inl (fun j => nI (z0 j)))), (u.2.2.2, .inl (cI, 4, .inl (fun j => nI (z0 j))))] sz ()) (va_A [(a0, .inr (3, [.null, .null, .null, .null, .int (nI 0), .int (nI 0), .int (nI 0)]))] sz)) 4 346 (va_A [(a0, .inr (3, [.null, .null, .null, .null, .int (nI 0), .int (nI 0), .int (nI 0)]))] sz) := by
  refine Met.ofW (cc := b_S_init) (maxL := 1) (ret := none) (by decide) rfl ?_
  intro p e s m args below meth c s₁ B hml hv
  obtain ⟨rfl, hsz, hC, hP, hD0⟩ := hv
  have hx := B.exec
  have hb := B.bytes
  have hr := B.returns
  have hts : ∀ w ∈ gw, w.before ([.ref a0] : List Value).toArray s = true := fun w hw => atoms_spec (ws := Cond.code y_S_init b_S_init 1 none :: gw) B.pre w (List.mem_cons_of_mem _ hw)
  have hown : s.vm.findClass R_S = some m.cls := findClass_of_methodNamed B.named
  have hlocks := B.notSynchronized
  have hin : meth.name = "<init>" := (name_of_methodNamed B.named B.method).1
  have hK := hC.1
  have hfr : 1 ≤ (headSpec (Cond.code y_S_init b_S_init 1 none :: gw) ({ frames := 1, cells := 4, slots := 346, locals := 60 } : Room)).room.frames := Nat.le_refl _
  have hlo : 60 ≤ (headSpec (Cond.code y_S_init b_S_init 1 none :: gw) ({ frames := 1, cells := 4, slots := 346, locals := 60 } : Room)).room.locals := Nat.le_refl _
  have hce : 0 ≤ (headSpec (Cond.code y_S_init b_S_init 1 none :: gw) ({ frames := 1, cells := 4, slots := 346, locals := 60 } : Room)).room.cells := Nat.zero_le _
  have hsl : 0 ≤ (headSpec (Cond.code y_S_init b_S_init 1 none :: gw) ({ frames := 1, cells := 4, slots := 346, locals := 60 } : Room)).room.slots := Nat.zero_le _
  subst hsz
  have hD := hD0.self (sz := s.heap.size)
  unfold wB
  generalize hAe : va_A [(a0, .inr (3, [.null, .null, .null, .null, .int (nI 0), .int (nI 0), .int (nI 0)]))] s.heap.size = A at hD ⊢
  have hA : ∀ q : Nat, s.heap.size ≤ q → A q := fun q h => by rw [← hAe]; exact Or.inr h
  have hS : va_S A s.heap s.heap [] := va_S.rf
  have hl := lv_entry ([.ref a0]) (n := 1) (Nat.le_of_ble_eq_true rfl)
  rw [lg_entry_eq]
  generalize (lg_sl ([.ref a0]) ++ List.replicate (1 - (lg_sl ([.ref a0])).length) Slot.unset).toArray = ls at hl ⊢
  have hl : lv_has ls 1 [(0, .ref a0)] := hl
  have hP : va_P (dC, dI) vwCl [(a0, .inr (3, [.null, .null, .null, .null, .int (nI 0), .int (nI 0), .int (nI 0)]))] s.heap := hP
  refine lv_aload_n hx hb d_S_init_0 rfl (lv_at hl 0 rfl) ?_
  refine W.objInit hx hb hown (hts _ k_80) (hts _ k_21) (hts _ k_22) rfl (by rw [hml]; exact hl.1) rfl d_S_init_1 (Nat.le_trans (Nat.le_of_ble_eq_true rfl) hfr) (Nat.le_trans (Nat.le_of_ble_eq_true rfl) hlo) ?_
  refine W.eq (g2 := F0 m 4 ls []) rfl ?_
  refine lv_aload_n hx hb d_S_init_4 rfl (lv_at hl 0 rfl) ?_
  refine lv_sipush (v := nI 169) hx hb d_S_init_5 (by decide) ?_
  refine nx_newL hx hb (hts _ k_104) hK hP hD hS hA (N := 169) (by decide) (Nat.le_of_ble_eq_true rfl) (Nat.le_of_ble_eq_true rfl) d_S_init_8 (fun b1 H hP hD hS => ?_)
  have hP : va_P (dC, dI) vwCl [(a0, .inr (3, [.null, .null, .null, .null, .int (nI 0), .int (nI 0), .int (nI 0)])), (b1, .inl (cL, 169, .inr (.inl (fun j => lN (z0 j)))))] H := hP
  have hD : va_D A [(a0, .inr (3, [.null, .null, .null, .null, .int (nI 0), .int (nI 0), .int (nI 0)])), (b1, .inl (cL, 169, .inr (.inl (fun j => lN (z0 j)))))] := hD
  refine W.widen (k := 1) (n := 169) (Nat.le_of_ble_eq_true rfl) (Nat.le_of_ble_eq_true rfl) ?_
  refine va_putF (D := (dC, dI)) (ci := 3) (v := .ref b1) (ty := (.array .long)) (C := R_S) (T := F_S) (N := 7) hx hb hts i_S ft_S ft_S_ok n_S hown hK hP hD hS 0 rfl rfl 0 (by decide) (hts _ k_81) (fun _ h9 => h9) rfl hin rfl (by decide +kernel) rfl rfl (Nat.le_of_ble_eq_true rfl) d_S_init_10 (fun H locs hP hD hS => ?_)
  have hP : va_P (dC, dI) vwCl [(a0, .inr (3, [.ref b1, .null, .null, .null, .int (nI 0), .int (nI 0), .int (nI 0)])), (b1, .inl (cL, 169, .inr (.inl (fun j => lN (z0 j)))))] H := hP
  have hD : va_D A [(a0, .inr (3, [.ref b1, .null, .null, .null, .int (nI 0), .int (nI 0), .int (nI 0)])), (b1, .inl (cL, 169, .inr (.inl (fun j => lN (z0 j)))))] := hD
  refine lv_aload_n hx hb d_S_init_13 rfl (lv_at hl 0 rfl) ?_
  refine lv_sipush (v := nI 169) hx hb d_S_init_14 (by decide) ?_
  refine nx_newL hx hb (hts _ k_104) hK hP hD hS hA (N := 169) (by decide) (Nat.le_of_ble_eq_true rfl) (Nat.le_of_ble_eq_true rfl) d_S_init_17 (fun b2 H hP hD hS => ?_)
  have hP : va_P (dC, dI) vwCl [(a0, .inr (3, [.ref b1, .null, .null, .null, .int (nI 0), .int (nI 0), .int (nI 0)])), (b1, .inl (cL, 169, .inr (.inl (fun j => lN (z0 j))))), (b2, .inl (cL, 169, .inr (.inl (fun j => lN (z0 j)))))] H := hP
  have hD : va_D A [(a0, .inr (3, [.ref b1, .null, .null, .null, .int (nI 0), .int (nI 0), .int (nI 0)])), (b1, .inl (cL, 169, .inr (.inl (fun j => lN (z0 j))))), (b2, .inl (cL, 169, .inr (.inl (fun j => lN (z0 j)))))] := hD
  refine W.widen (k := 2) (n := 338) (Nat.le_of_ble_eq_true rfl) (Nat.le_of_ble_eq_true rfl) ?_
  refine va_putF (D := (dC, dI)) (ci := 3) (v := .ref b2) (ty := (.array .long)) (C := R_S) (T := F_S) (N := 7) hx hb hts i_S ft_S ft_S_ok n_S hown hK hP hD hS 0 rfl rfl 1 (by decide) (hts _ k_82) (fun _ h9 => h9) rfl hin rfl (by decide +kernel) rfl rfl (Nat.le_of_ble_eq_true rfl) d_S_init_19 (fun H locs hP hD hS => ?_)
  have hP : va_P (dC, dI) vwCl [(a0, .inr (3, [.ref b1, .ref b2, .null, .null, .int (nI 0), .int (nI 0), .int (nI 0)])), (b1, .inl (cL, 169, .inr (.inl (fun j => lN (z0 j))))), (b2, .inl (cL, 169, .inr (.inl (fun j => lN (z0 j)))))] H := hP
  have hD : va_D A [(a0, .inr (3, [.ref b1, .ref b2, .null, .null, .int (nI 0), .int (nI 0), .int (nI 0)])), (b1, .inl (cL, 169, .inr (.inl (fun j => lN (z0 j))))), (b2, .inl (cL, 169, .inr (.inl (fun j => lN (z0 j)))))] := hD
  refine lv_aload_n hx hb d_S_init_22 rfl (lv_at hl 0 rfl) ?_
  refine lv_iconst (v := nI 4) hx hb d_S_init_23 (by decide) ?_
  refine nx_newI hx hb (hts _ k_50) hK hP hD hS hA (N := 4) (by decide) (Nat.le_of_ble_eq_true rfl) (Nat.le_of_ble_eq_true rfl) d_S_init_24 (fun b3 H hP hD hS => ?_)
  have hP : va_P (dC, dI) vwCl [(a0, .inr (3, [.ref b1, .ref b2, .null, .null, .int (nI 0), .int (nI 0), .int (nI 0)])), (b1, .inl (cL, 169, .inr (.inl (fun j => lN (z0 j))))), (b2, .inl (cL, 169, .inr (.inl (fun j => lN (z0 j))))), (b3, .inl (cI, 4, .inl (fun j => nI (z0 j))))] H := hP
  have hD : va_D A [(a0, .inr (3, [.ref b1, .ref b2, .null, .null, .int (nI 0), .int (nI 0), .int (nI 0)])), (b1, .inl (cL, 169, .inr (.inl (fun j => lN (z0 j))))), (b2, .inl (cL, 169, .inr (.inl (fun j => lN (z0 j))))), (b3, .inl (cI, 4, .inl (fun j => nI (z0 j))))] := hD
  refine W.widen (k := 3) (n := 342) (Nat.le_of_ble_eq_true rfl) (Nat.le_of_ble_eq_true rfl) ?_
  refine va_putF (D := (dC, dI)) (ci := 3) (v := .ref b3) (ty := (.array .int)) (C := R_S) (T := F_S) (N := 7) hx hb hts i_S ft_S ft_S_ok n_S hown hK hP hD hS 0 rfl rfl 2 (by decide) (hts _ k_83) (fun _ h9 => h9) rfl hin rfl (by decide +kernel) rfl rfl (Nat.le_of_ble_eq_true rfl) d_S_init_26 (fun H locs hP hD hS => ?_)
  have hP : va_P (dC, dI) vwCl [(a0, .inr (3, [.ref b1, .ref b2, .ref b3, .null, .int (nI 0), .int (nI 0), .int (nI 0)])), (b1, .inl (cL, 169, .inr (.inl (fun j => lN (z0 j))))), (b2, .inl (cL, 169, .inr (.inl (fun j => lN (z0 j))))), (b3, .inl (cI, 4, .inl (fun j => nI (z0 j))))] H := hP
  have hD : va_D A [(a0, .inr (3, [.ref b1, .ref b2, .ref b3, .null, .int (nI 0), .int (nI 0), .int (nI 0)])), (b1, .inl (cL, 169, .inr (.inl (fun j => lN (z0 j))))), (b2, .inl (cL, 169, .inr (.inl (fun j => lN (z0 j))))), (b3, .inl (cI, 4, .inl (fun j => nI (z0 j))))] := hD
  refine lv_aload_n hx hb d_S_init_29 rfl (lv_at hl 0 rfl) ?_
  refine lv_iconst (v := nI 4) hx hb d_S_init_30 (by decide) ?_
  refine nx_newI hx hb (hts _ k_50) hK hP hD hS hA (N := 4) (by decide) (Nat.le_of_ble_eq_true rfl) (Nat.le_of_ble_eq_true rfl) d_S_init_31 (fun b4 H hP hD hS => ?_)
  have hP : va_P (dC, dI) vwCl [(a0, .inr (3, [.ref b1, .ref b2, .ref b3, .null, .int (nI 0), .int (nI 0), .int (nI 0)])), (b1, .inl (cL, 169, .inr (.inl (fun j => lN (z0 j))))), (b2, .inl (cL, 169, .inr (.inl (fun j => lN (z0 j))))), (b3, .inl (cI, 4, .inl (fun j => nI (z0 j)))), (b4, .inl (cI, 4, .inl (fun j => nI (z0 j))))] H := hP
  have hD : va_D A [(a0, .inr (3, [.ref b1, .ref b2, .ref b3, .null, .int (nI 0), .int (nI 0), .int (nI 0)])), (b1, .inl (cL, 169, .inr (.inl (fun j => lN (z0 j))))), (b2, .inl (cL, 169, .inr (.inl (fun j => lN (z0 j))))), (b3, .inl (cI, 4, .inl (fun j => nI (z0 j)))), (b4, .inl (cI, 4, .inl (fun j => nI (z0 j))))] := hD
  refine W.widen (k := 4) (n := 346) (Nat.le_of_ble_eq_true rfl) (Nat.le_of_ble_eq_true rfl) ?_
  refine va_putF (D := (dC, dI)) (ci := 3) (v := .ref b4) (ty := (.array .int)) (C := R_S) (T := F_S) (N := 7) hx hb hts i_S ft_S ft_S_ok n_S hown hK hP hD hS 0 rfl rfl 3 (by decide) (hts _ k_84) (fun _ h9 => h9) rfl hin rfl (by decide +kernel) rfl rfl (Nat.le_of_ble_eq_true rfl) d_S_init_33 (fun H locs hP hD hS => ?_)
  have hP : va_P (dC, dI) vwCl [(a0, .inr (3, [.ref b1, .ref b2, .ref b3, .ref b4, .int (nI 0), .int (nI 0), .int (nI 0)])), (b1, .inl (cL, 169, .inr (.inl (fun j => lN (z0 j))))), (b2, .inl (cL, 169, .inr (.inl (fun j => lN (z0 j))))), (b3, .inl (cI, 4, .inl (fun j => nI (z0 j)))), (b4, .inl (cI, 4, .inl (fun j => nI (z0 j))))] H := hP
  have hD : va_D A [(a0, .inr (3, [.ref b1, .ref b2, .ref b3, .ref b4, .int (nI 0), .int (nI 0), .int (nI 0)])), (b1, .inl (cL, 169, .inr (.inl (fun j => lN (z0 j))))), (b2, .inl (cL, 169, .inr (.inl (fun j => lN (z0 j))))), (b3, .inl (cI, 4, .inl (fun j => nI (z0 j)))), (b4, .inl (cI, 4, .inl (fun j => nI (z0 j))))] := hD
  refine lv_aload_n hx hb d_S_init_36 rfl (lv_at hl 0 rfl) ?_
  refine lv_iconst (v := nI 0) hx hb d_S_init_37 (by decide) ?_
  refine va_put (D := (dC, dI)) (ci := 3) (v := .int (nI 0)) (ty := (.int)) (C := R_S) (T := F_S) (N := 7) hx hb hts i_S ft_S ft_S_ok n_S hown hK hP hD hS 0 rfl rfl 4 (by decide) (hts _ k_86) (fun _ h9 => h9) rfl (by decide +kernel) rfl rfl (Nat.le_of_ble_eq_true rfl) d_S_init_38 (fun H locs hP hD hS => ?_)
  have hP : va_P (dC, dI) vwCl [(a0, .inr (3, [.ref b1, .ref b2, .ref b3, .ref b4, .int (nI 0), .int (nI 0), .int (nI 0)])), (b1, .inl (cL, 169, .inr (.inl (fun j => lN (z0 j))))), (b2, .inl (cL, 169, .inr (.inl (fun j => lN (z0 j))))), (b3, .inl (cI, 4, .inl (fun j => nI (z0 j)))), (b4, .inl (cI, 4, .inl (fun j => nI (z0 j))))] H := hP
  have hD : va_D A [(a0, .inr (3, [.ref b1, .ref b2, .ref b3, .ref b4, .int (nI 0), .int (nI 0), .int (nI 0)])), (b1, .inl (cL, 169, .inr (.inl (fun j => lN (z0 j))))), (b2, .inl (cL, 169, .inr (.inl (fun j => lN (z0 j))))), (b3, .inl (cI, 4, .inl (fun j => nI (z0 j)))), (b4, .inl (cI, 4, .inl (fun j => nI (z0 j))))] := hD
  refine lv_aload_n hx hb d_S_init_41 rfl (lv_at hl 0 rfl) ?_
  refine va_get (D := (dC, dI)) (ci := 3) (v := .ref b2) (C := R_S) (T := F_S) (N := 7) hx hb hts i_S hown hK hP 0 rfl rfl 1 (by decide) (hts _ k_82) (fun _ h9 => h9) rfl d_S_init_42 ?_
  refine lv_iconst (v := nI 0) hx hb d_S_init_45 (by decide) ?_
  refine lv_lconst (v := lN 1) hx hb d_S_init_46 (by decide) ?_
  refine nx_last hx hb hK hP hD hS 2 1 rfl rfl (k := 0) (x := lN 1) (by omega) (by decide) d_S_init_47 (fun H locs hP hD hS => ?_)
  have hP : va_P (dC, dI) vwCl [(a0, .inr (3, [.ref b1, .ref b2, .ref b3, .ref b4, .int (nI 0), .int (nI 0), .int (nI 0)])), (b1, .inl (cL, 169, .inr (.inl (fun j => lN (z0 j))))), (b2, .inl (cL, 169, .inr (.inl (vp_updL (fun j => lN (z0 j)) (0) (lN 1))))), (b3, .inl (cI, 4, .inl (fun j => nI (z0 j)))), (b4, .inl (cI, 4, .inl (fun j => nI (z0 j))))] H := hP
  have hD : va_D A [(a0, .inr (3, [.ref b1, .ref b2, .ref b3, .ref b4, .int (nI 0), .int (nI 0), .int (nI 0)])), (b1, .inl (cL, 169, .inr (.inl (fun j => lN (z0 j))))), (b2, .inl (cL, 169, .inr (.inl (vp_updL (fun j => lN (z0 j)) (0) (lN 1))))), (b3, .inl (cI, 4, .inl (fun j => nI (z0 j)))), (b4, .inl (cI, 4, .inl (fun j => nI (z0 j))))] := hD
  rw [up_eqL] at hP hD
  exact W.vret hx hb hr (fun t ht hW => ⟨⟨(b1, b2, b3, b4), rfl, trivial, by rw [ht]; exact hP, hD⟩, hS.F ht⟩) hS.2.2 d_S_init_48
set_option maxHeartbeats 4000000 in
set_option maxRecDepth 100000 in
theorem c_A_init (l : Launch) {dC : Nat → ClassId} {dI : Nat → Nat → Nat} {cI cL cT : ClassId} {sa : Nat → Nat} (sz : Nat) (a0 : Nat)  : Met l y_A_init (Cond.code y_A_init b_A_init 1 none :: gw) ({ frames := 1, cells := 1, slots := 13, locals := 60 } : Room) (wr dC dI cI cL cT sa [.ref a0] [(a0, .inr (4, [.null, .int (nI 0)]))] sz) (va_Qv (fun (u : Nat) => True) (fun (u : Nat) => wB dC dI [(a0, .inr (4, [.null, .int (nI 0)]))] [(a0, .inr (4, [.ref u, .int (nI 0)])), (u, .inl (cI, 13, .inl (fun j => nI (z0 j))))] sz ()) (va_A [(a0, .inr (4, [.null, .int (nI 0)]))] sz)) 1 13 (va_A [(a0, .inr (4, [.null, .int (nI 0)]))] sz) := by
  refine Met.ofW (cc := b_A_init) (maxL := 1) (ret := none) (by decide) rfl ?_
  intro p e s m args below meth c s₁ B hml hv
  obtain ⟨rfl, hsz, hC, hP, hD0⟩ := hv
  have hx := B.exec
  have hb := B.bytes
  have hr := B.returns
  have hts : ∀ w ∈ gw, w.before ([.ref a0] : List Value).toArray s = true := fun w hw => atoms_spec (ws := Cond.code y_A_init b_A_init 1 none :: gw) B.pre w (List.mem_cons_of_mem _ hw)
  have hown : s.vm.findClass R_A = some m.cls := findClass_of_methodNamed B.named
  have hlocks := B.notSynchronized
  have hin : meth.name = "<init>" := (name_of_methodNamed B.named B.method).1
  have hK := hC.1
  have hfr : 1 ≤ (headSpec (Cond.code y_A_init b_A_init 1 none :: gw) ({ frames := 1, cells := 1, slots := 13, locals := 60 } : Room)).room.frames := Nat.le_refl _
  have hlo : 60 ≤ (headSpec (Cond.code y_A_init b_A_init 1 none :: gw) ({ frames := 1, cells := 1, slots := 13, locals := 60 } : Room)).room.locals := Nat.le_refl _
  have hce : 0 ≤ (headSpec (Cond.code y_A_init b_A_init 1 none :: gw) ({ frames := 1, cells := 1, slots := 13, locals := 60 } : Room)).room.cells := Nat.zero_le _
  have hsl : 0 ≤ (headSpec (Cond.code y_A_init b_A_init 1 none :: gw) ({ frames := 1, cells := 1, slots := 13, locals := 60 } : Room)).room.slots := Nat.zero_le _
  subst hsz
  have hD := hD0.self (sz := s.heap.size)
  unfold wB
  generalize hAe : va_A [(a0, .inr (4, [.null, .int (nI 0)]))] s.heap.size = A at hD ⊢
  have hA : ∀ q : Nat, s.heap.size ≤ q → A q := fun q h => by rw [← hAe]; exact Or.inr h
  have hS : va_S A s.heap s.heap [] := va_S.rf
  have hl := lv_entry ([.ref a0]) (n := 1) (Nat.le_of_ble_eq_true rfl)
  rw [lg_entry_eq]
  generalize (lg_sl ([.ref a0]) ++ List.replicate (1 - (lg_sl ([.ref a0])).length) Slot.unset).toArray = ls at hl ⊢
  have hl : lv_has ls 1 [(0, .ref a0)] := hl
  have hP : va_P (dC, dI) vwCl [(a0, .inr (4, [.null, .int (nI 0)]))] s.heap := hP
  refine lv_aload_n hx hb d_A_init_0 rfl (lv_at hl 0 rfl) ?_
  refine W.objInit hx hb hown (hts _ k_110) (hts _ k_21) (hts _ k_22) rfl (by rw [hml]; exact hl.1) rfl d_A_init_1 (Nat.le_trans (Nat.le_of_ble_eq_true rfl) hfr) (Nat.le_trans (Nat.le_of_ble_eq_true rfl) hlo) ?_
  refine W.eq (g2 := F0 m 4 ls []) rfl ?_
  refine lv_aload_n hx hb d_A_init_4 rfl (lv_at hl 0 rfl) ?_
  refine lv_bipush (v := nI 13) hx hb d_A_init_5 (by decide) ?_
  refine nx_newI hx hb (hts _ k_50) hK hP hD hS hA (N := 13) (by decide) (Nat.le_of_ble_eq_true rfl) (Nat.le_of_ble_eq_true rfl) d_A_init_7 (fun b1 H hP hD hS => ?_)
  have hP : va_P (dC, dI) vwCl [(a0, .inr (4, [.null, .int (nI 0)])), (b1, .inl (cI, 13, .inl (fun j => nI (z0 j))))] H := hP
  have hD : va_D A [(a0, .inr (4, [.null, .int (nI 0)])), (b1, .inl (cI, 13, .inl (fun j => nI (z0 j))))] := hD
  refine W.widen (k := 1) (n := 13) (Nat.le_of_ble_eq_true rfl) (Nat.le_of_ble_eq_true rfl) ?_
  refine va_putF (D := (dC, dI)) (ci := 4) (v := .ref b1) (ty := (.array .int)) (C := R_A) (T := F_A) (N := 2) hx hb hts i_A ft_A ft_A_ok n_A hown hK hP hD hS 0 rfl rfl 0 (by decide) (hts _ k_111) (fun _ h9 => h9) rfl hin rfl (by decide +kernel) rfl rfl (Nat.le_of_ble_eq_true rfl) d_A_init_9 (fun H locs hP hD hS => ?_)
  have hP : va_P (dC, dI) vwCl [(a0, .inr (4, [.ref b1, .int (nI 0)])), (b1, .inl (cI, 13, .inl (fun j => nI (z0 j))))] H := hP
  have hD : va_D A [(a0, .inr (4, [.ref b1, .int (nI 0)])), (b1, .inl (cI, 13, .inl (fun j => nI (z0 j))))] := hD
  exact W.vret hx hb hr (fun t ht hW => ⟨⟨b1, rfl, trivial, by rw [ht]; exact hP, hD⟩, hS.F ht⟩) hS.2.2 d_A_init_12
set_option maxHeartbeats 4000000 in
set_option maxRecDepth 100000 in
theorem c_C_init (l : Launch) {dC : Nat → ClassId} {dI : Nat → Nat → Nat} {cI cL cT : ClassId} {sa : Nat → Nat} (sz : Nat) (a0 c0 c1 c2 c3 c4 : Nat)  : Met l y_C_init (Cond.code y_C_init b_C_init 6 none :: gw) ({ frames := 1, cells := 0, slots := 0, locals := 60 } : Room) (wr dC dI cI cL cT sa [.ref a0, .int (nI c0), .int (nI c1), .int (nI c2), .int (nI c3), .int (nI c4)] [(a0, .inr (1, [.int (nI 0), .int (nI 0), .int (nI 0), .int (nI 0), .int (nI 0)]))] sz) (va_Qv (fun (u : Unit) => True) (fun (u : Unit) => wB dC dI [(a0, .inr (1, [.int (nI 0), .int (nI 0), .int (nI 0), .int (nI 0), .int (nI 0)]))] [(a0, .inr (1, [.int (nI c0), .int (nI c1), .int (nI c2), .int (nI c3), .int (nI c4)]))] sz ()) (va_A [(a0, .inr (1, [.int (nI 0), .int (nI 0), .int (nI 0), .int (nI 0), .int (nI 0)]))] sz)) 0 0 (va_A [(a0, .inr (1, [.int (nI 0), .int (nI 0), .int (nI 0), .int (nI 0), .int (nI 0)]))] sz) := by
  refine Met.ofW (cc := b_C_init) (maxL := 6) (ret := none) (by decide) rfl ?_
  intro p e s m args below meth c s₁ B hml hv
  obtain ⟨rfl, hsz, hC, hP, hD0⟩ := hv
  have hx := B.exec
  have hb := B.bytes
  have hr := B.returns
  have hts : ∀ w ∈ gw, w.before ([.ref a0, .int (nI c0), .int (nI c1), .int (nI c2), .int (nI c3), .int (nI c4)] : List Value).toArray s = true := fun w hw => atoms_spec (ws := Cond.code y_C_init b_C_init 6 none :: gw) B.pre w (List.mem_cons_of_mem _ hw)
  have hown : s.vm.findClass R_C = some m.cls := findClass_of_methodNamed B.named
  have hlocks := B.notSynchronized
  have hin : meth.name = "<init>" := (name_of_methodNamed B.named B.method).1
  have hK := hC.1
  have hfr : 1 ≤ (headSpec (Cond.code y_C_init b_C_init 6 none :: gw) ({ frames := 1, cells := 0, slots := 0, locals := 60 } : Room)).room.frames := Nat.le_refl _
  have hlo : 60 ≤ (headSpec (Cond.code y_C_init b_C_init 6 none :: gw) ({ frames := 1, cells := 0, slots := 0, locals := 60 } : Room)).room.locals := Nat.le_refl _
  have hce : 0 ≤ (headSpec (Cond.code y_C_init b_C_init 6 none :: gw) ({ frames := 1, cells := 0, slots := 0, locals := 60 } : Room)).room.cells := Nat.zero_le _
  have hsl : 0 ≤ (headSpec (Cond.code y_C_init b_C_init 6 none :: gw) ({ frames := 1, cells := 0, slots := 0, locals := 60 } : Room)).room.slots := Nat.zero_le _
  subst hsz
  have hD := hD0.self (sz := s.heap.size)
  unfold wB
  generalize hAe : va_A [(a0, .inr (1, [.int (nI 0), .int (nI 0), .int (nI 0), .int (nI 0), .int (nI 0)]))] s.heap.size = A at hD ⊢
  have hA : ∀ q : Nat, s.heap.size ≤ q → A q := fun q h => by rw [← hAe]; exact Or.inr h
  have hS : va_S A s.heap s.heap [] := va_S.rf
  have hl := lv_entry ([.ref a0, .int (nI c0), .int (nI c1), .int (nI c2), .int (nI c3), .int (nI c4)]) (n := 6) (Nat.le_of_ble_eq_true rfl)
  rw [lg_entry_eq]
  generalize (lg_sl ([.ref a0, .int (nI c0), .int (nI c1), .int (nI c2), .int (nI c3), .int (nI c4)]) ++ List.replicate (6 - (lg_sl ([.ref a0, .int (nI c0), .int (nI c1), .int (nI c2), .int (nI c3), .int (nI c4)])).length) Slot.unset).toArray = ls at hl ⊢
  have hl : lv_has ls 6 [(0, .ref a0), (1, .int (nI c0)), (2, .int (nI c1)), (3, .int (nI c2)), (4, .int (nI c3)), (5, .int (nI c4))] := hl
  have hP : va_P (dC, dI) vwCl [(a0, .inr (1, [.int (nI 0), .int (nI 0), .int (nI 0), .int (nI 0), .int (nI 0)]))] s.heap := hP
  refine lv_aload_n hx hb d_C_init_0 rfl (lv_at hl 0 rfl) ?_
  refine W.objInit hx hb hown (hts _ k_267) (hts _ k_21) (hts _ k_22) rfl (by rw [hml]; exact hl.1) rfl d_C_init_1 (Nat.le_trans (Nat.le_of_ble_eq_true rfl) hfr) (Nat.le_trans (Nat.le_of_ble_eq_true rfl) hlo) ?_
  refine W.eq (g2 := F0 m 4 ls []) rfl ?_
  refine lv_aload_n hx hb d_C_init_4 rfl (lv_at hl 0 rfl) ?_
  refine lv_iload_n hx hb d_C_init_5 rfl (lv_at hl 1 rfl) ?_
  refine va_putF (D := (dC, dI)) (ci := 1) (v := .int (nI c0)) (ty := (.int)) (C := R_C) (T := F_C) (N := 5) hx hb hts i_C ft_C ft_C_ok n_C hown hK hP hD hS 0 rfl rfl 0 (by decide) (hts _ k_268) (fun _ h9 => h9) rfl hin rfl (by decide +kernel) rfl rfl (Nat.le_of_ble_eq_true rfl) d_C_init_6 (fun H locs hP hD hS => ?_)
  have hP : va_P (dC, dI) vwCl [(a0, .inr (1, [.int (nI c0), .int (nI 0), .int (nI 0), .int (nI 0), .int (nI 0)]))] H := hP
  have hD : va_D A [(a0, .inr (1, [.int (nI c0), .int (nI 0), .int (nI 0), .int (nI 0), .int (nI 0)]))] := hD
  refine lv_aload_n hx hb d_C_init_9 rfl (lv_at hl 0 rfl) ?_
  refine lv_iload_n hx hb d_C_init_10 rfl (lv_at hl 2 rfl) ?_
  refine va_putF (D := (dC, dI)) (ci := 1) (v := .int (nI c1)) (ty := (.int)) (C := R_C) (T := F_C) (N := 5) hx hb hts i_C ft_C ft_C_ok n_C hown hK hP hD hS 0 rfl rfl 1 (by decide) (hts _ k_272) (fun _ h9 => h9) rfl hin rfl (by decide +kernel) rfl rfl (Nat.le_of_ble_eq_true rfl) d_C_init_11 (fun H locs hP hD hS => ?_)
  have hP : va_P (dC, dI) vwCl [(a0, .inr (1, [.int (nI c0), .int (nI c1), .int (nI 0), .int (nI 0), .int (nI 0)]))] H := hP
  have hD : va_D A [(a0, .inr (1, [.int (nI c0), .int (nI c1), .int (nI 0), .int (nI 0), .int (nI 0)]))] := hD
  refine lv_aload_n hx hb d_C_init_14 rfl (lv_at hl 0 rfl) ?_
  refine lv_iload_n hx hb d_C_init_15 rfl (lv_at hl 3 rfl) ?_
  refine va_putF (D := (dC, dI)) (ci := 1) (v := .int (nI c2)) (ty := (.int)) (C := R_C) (T := F_C) (N := 5) hx hb hts i_C ft_C ft_C_ok n_C hown hK hP hD hS 0 rfl rfl 2 (by decide) (hts _ k_274) (fun _ h9 => h9) rfl hin rfl (by decide +kernel) rfl rfl (Nat.le_of_ble_eq_true rfl) d_C_init_16 (fun H locs hP hD hS => ?_)
  have hP : va_P (dC, dI) vwCl [(a0, .inr (1, [.int (nI c0), .int (nI c1), .int (nI c2), .int (nI 0), .int (nI 0)]))] H := hP
  have hD : va_D A [(a0, .inr (1, [.int (nI c0), .int (nI c1), .int (nI c2), .int (nI 0), .int (nI 0)]))] := hD
  refine lv_aload_n hx hb d_C_init_19 rfl (lv_at hl 0 rfl) ?_
  refine lv_iload hx hb d_C_init_20 (lv_at hl 4 rfl) ?_
  refine va_putF (D := (dC, dI)) (ci := 1) (v := .int (nI c3)) (ty := (.int)) (C := R_C) (T := F_C) (N := 5) hx hb hts i_C ft_C ft_C_ok n_C hown hK hP hD hS 0 rfl rfl 3 (by decide) (hts _ k_276) (fun _ h9 => h9) rfl hin rfl (by decide +kernel) rfl rfl (Nat.le_of_ble_eq_true rfl) d_C_init_22 (fun H locs hP hD hS => ?_)
  have hP : va_P (dC, dI) vwCl [(a0, .inr (1, [.int (nI c0), .int (nI c1), .int (nI c2), .int (nI c3), .int (nI 0)]))] H := hP
  have hD : va_D A [(a0, .inr (1, [.int (nI c0), .int (nI c1), .int (nI c2), .int (nI c3), .int (nI 0)]))] := hD
  refine lv_aload_n hx hb d_C_init_25 rfl (lv_at hl 0 rfl) ?_
  refine lv_iload hx hb d_C_init_26 (lv_at hl 5 rfl) ?_
  refine va_putF (D := (dC, dI)) (ci := 1) (v := .int (nI c4)) (ty := (.int)) (C := R_C) (T := F_C) (N := 5) hx hb hts i_C ft_C ft_C_ok n_C hown hK hP hD hS 0 rfl rfl 4 (by decide) (hts _ k_278) (fun _ h9 => h9) rfl hin rfl (by decide +kernel) rfl rfl (Nat.le_of_ble_eq_true rfl) d_C_init_28 (fun H locs hP hD hS => ?_)
  have hP : va_P (dC, dI) vwCl [(a0, .inr (1, [.int (nI c0), .int (nI c1), .int (nI c2), .int (nI c3), .int (nI c4)]))] H := hP
  have hD : va_D A [(a0, .inr (1, [.int (nI c0), .int (nI c1), .int (nI c2), .int (nI c3), .int (nI c4)]))] := hD
  exact W.vret hx hb hr (fun t ht hW => ⟨⟨(), rfl, trivial, by rw [ht]; exact hP, hD⟩, hS.F ht⟩) hS.2.2 d_C_init_31
set_option maxHeartbeats 4000000 in
set_option maxRecDepth 100000 in
theorem c_T_init (l : Launch) {dC : Nat → ClassId} {dI : Nat → Nat → Nat} {cI cL cT : ClassId} {sa : Nat → Nat} (sz : Nat) (a0 : Nat)  : Met l y_T_init (Cond.code y_T_init b_T_init 1 none :: gw) ({ frames := 2, cells := 12, slots := 408, locals := 100 } : Room) (wr dC dI cI cL cT sa [.ref a0] [(a0, .inr (5, [.null, .null, .int (nI 0), .null, .null, .null]))] sz) (va_Qv (fun (u : Nat → Nat) => u 0 = a0) (fun (u : Nat → Nat) => wB dC dI [(a0, .inr (5, [.null, .null, .int (nI 0), .null, .null, .null]))] [(u 0, .inr (5, [.ref (u 1), .ref (u 4), .int (nI 0), .ref (u 5), .ref (u 6), .ref (u 11)])), (u 1, .inr (0, [.ref (u 2), .ref (u 3), .int (nI 0), .int (nI 0)])), (u 2, .inl (cI, 13, .inl (fun j => nI (z0 j)))), (u 3, .inl (cI, 13, .inl (fun j => nI (z0 j)))), (u 4, .inl (cT, 6, .inr (.inr (.inr (.inr (tq z0 0)))))), (u 5, .inr (2, [.int (nI 1), .long (lN 1), .long (lN 0), .long (lN 0)])), (u 6, .inr (3, [.ref (u 7), .ref (u 8), .ref (u 9), .ref (u 10), .int (nI 0), .int (nI 0), .int (nI 0)])), (u 7, .inl (cL, 169, .inr (.inl (fun j => lN (z0 j))))), (u 8, .inl (cL, 169, .inr (.inl (fun j => lN ((up z0 0 1) j))))), (u 9, .inl (cI, 4, .inl (fun j => nI (z0 j)))), (u 10, .inl (cI, 4, .inl (fun j => nI (z0 j)))), (u 11, .inr (4, [.ref (u 12), .int (nI 0)])), (u 12, .inl (cI, 13, .inl (fun j => nI (z0 j))))] sz ()) (va_A [(a0, .inr (5, [.null, .null, .int (nI 0), .null, .null, .null]))] sz)) 12 408 (va_A [(a0, .inr (5, [.null, .null, .int (nI 0), .null, .null, .null]))] sz) := by
  refine Met.ofW (cc := b_T_init) (maxL := 1) (ret := none) (by decide) rfl ?_
  intro p e s m args below meth c s₁ B hml hv
  obtain ⟨rfl, hsz, hC, hP, hD0⟩ := hv
  have hx := B.exec
  have hb := B.bytes
  have hr := B.returns
  have hts : ∀ w ∈ gw, w.before ([.ref a0] : List Value).toArray s = true := fun w hw => atoms_spec (ws := Cond.code y_T_init b_T_init 1 none :: gw) B.pre w (List.mem_cons_of_mem _ hw)
  have hown : s.vm.findClass R_T = some m.cls := findClass_of_methodNamed B.named
  have hlocks := B.notSynchronized
  have hin : meth.name = "<init>" := (name_of_methodNamed B.named B.method).1
  have hK := hC.1
  have hfr : 2 ≤ (headSpec (Cond.code y_T_init b_T_init 1 none :: gw) ({ frames := 2, cells := 12, slots := 408, locals := 100 } : Room)).room.frames := Nat.le_refl _
  have hlo : 100 ≤ (headSpec (Cond.code y_T_init b_T_init 1 none :: gw) ({ frames := 2, cells := 12, slots := 408, locals := 100 } : Room)).room.locals := Nat.le_refl _
  have hce : 0 ≤ (headSpec (Cond.code y_T_init b_T_init 1 none :: gw) ({ frames := 2, cells := 12, slots := 408, locals := 100 } : Room)).room.cells := Nat.zero_le _
  have hsl : 0 ≤ (headSpec (Cond.code y_T_init b_T_init 1 none :: gw) ({ frames := 2, cells := 12, slots := 408, locals := 100 } : Room)).room.slots := Nat.zero_le _
  subst hsz
  have hD := hD0.self (sz := s.heap.size)
  unfold wB
  generalize hAe : va_A [(a0, .inr (5, [.null, .null, .int (nI 0), .null, .null, .null]))] s.heap.size = A at hD ⊢
  have hA : ∀ q : Nat, s.heap.size ≤ q → A q := fun q h => by rw [← hAe]; exact Or.inr h
  have hS : va_S A s.heap s.heap [] := va_S.rf
  have hl := lv_entry ([.ref a0]) (n := 1) (Nat.le_of_ble_eq_true rfl)
  rw [lg_entry_eq]
  generalize (lg_sl ([.ref a0]) ++ List.replicate (1 - (lg_sl ([.ref a0])).length) Slot.unset).toArray = ls at hl ⊢
  have hl : lv_has ls 1 [(0, .ref a0)] := hl
  have hP : va_P (dC, dI) vwCl [(a0, .inr (5, [.null, .null, .int (nI 0), .null, .null, .null]))] s.heap := hP
  refine lv_aload_n hx hb d_T_init_0 rfl (lv_at hl 0 rfl) ?_
  refine W.objInit hx hb hown (hts _ k_20) (hts _ k_21) (hts _ k_22) rfl (by rw [hml]; exact hl.1) rfl d_T_init_1 (Nat.le_trans (Nat.le_of_ble_eq_true rfl) hfr) (Nat.le_trans (Nat.le_of_ble_eq_true rfl) hlo) ?_
  refine W.eq (g2 := F0 m 4 ls []) rfl ?_
  refine lv_aload_n hx hb d_T_init_4 rfl (lv_at hl 0 rfl) ?_
  refine va_new (ci := 0) (fs := [.null, .null, .int (nI 0), .int (nI 0)]) (C := R_B) (T := F_B) (N := 4) hx hb hts i_B ft_B ft_B_ok hown (hts _ k_23) (hts _ k_24) (hts _ k_2) hK hP hD hS hA rfl (fun j hj => by rcases (show j = 0 ∨ j = 1 ∨ j = 2 ∨ j = 3 by omega) with rfl | rfl | rfl | rfl <;> rfl) (Nat.le_of_ble_eq_true rfl) (Nat.le_of_ble_eq_true rfl) d_T_init_5 (fun b1 H hP hD hS => ?_)
  have hP : va_P (dC, dI) vwCl [(a0, .inr (5, [.null, .null, .int (nI 0), .null, .null, .null])), (b1, .inr (0, [.null, .null, .int (nI 0), .int (nI 0)]))] H := hP
  have hD : va_D A [(a0, .inr (5, [.null, .null, .int (nI 0), .null, .null, .null])), (b1, .inr (0, [.null, .null, .int (nI 0), .int (nI 0)]))] := hD
  refine W.widen (k := 1) (n := 4) (Nat.le_of_ble_eq_true rfl) (Nat.le_of_ble_eq_true rfl) ?_
  refine lv_dup hx hb d_T_init_8 rfl ?_
  have hPc := hP.sub (ws' := [(b1, .inr (0, [.null, .null, .int (nI 0), .int (nI 0)]))]) [1] rfl
  have hDc := hD.sub (ws' := [(b1, .inr (0, [.null, .null, .int (nI 0), .int (nI 0)]))]) [1] (by decide) rfl
  have hFc := va_free (wc := [(b1, .inr (0, [.null, .null, .int (nI 0), .int (nI 0)]))]) hD hS hA [1] rfl
  refine va_callv (va_runIN (As := []) (rest := [.ref b1, .ref a0]) ⟨hx, hb, hml, hown, hts⟩ (c_B_init l _ b1) ⟨va_cnB 0 hts (gw_code k_27) rfl rfl rfl (hC.2.1 (Cond.methodLinkNest R_T 9 y_B_init R_T) (by simp [ct_nest])) (hts _ k_2) (by decide +kernel) ⟨Nat.le_trans (Nat.le_of_ble_eq_true rfl) hfr, Nat.le_trans (Nat.le_of_ble_eq_true rfl) hlo⟩, rfl, hts _ k_26⟩ ⟨wr_blind, wr_at hC hPc hDc⟩ rfl rfl hl.1 rfl (lv_room (Nat.le_of_ble_eq_true rfl)) d_T_init_9 ⟨Nat.le_of_ble_eq_true rfl, Nat.le_of_ble_eq_true rfl⟩) hS (fun q _ h => hFc q h) hFc (fun u t H1 locs ht hvm hw hB hz1 hk1 hS => ?_)
  obtain ⟨b2, b3⟩ := u
  obtain ⟨hP1, hD1⟩ := hB
  rw [ht] at hP1
  obtain ⟨hP, hD⟩ := va_join (wr := [(a0, .inr (5, [.null, .null, .int (nI 0), .null, .null, .null]))]) (w1 := [(b1, .inr (0, [.ref b2, .ref b3, .int (nI 0), .int (nI 0)])), (b2, .inl (cI, 13, .inl (fun j => nI (z0 j)))), (b3, .inl (cI, 13, .inl (fun j => nI (z0 j))))]) hP hD [1] [0] rfl rfl (by decide) (by decide) hk1 hFc hP1 hD1
  generalize H1 = H at hP hS ⊢
  have hP : va_P (dC, dI) vwCl [(a0, .inr (5, [.null, .null, .int (nI 0), .null, .null, .null])), (b1, .inr (0, [.ref b2, .ref b3, .int (nI 0), .int (nI 0)])), (b2, .inl (cI, 13, .inl (fun j => nI (z0 j)))), (b3, .inl (cI, 13, .inl (fun j => nI (z0 j))))] H := hP
  have hD : va_D A [(a0, .inr (5, [.null, .null, .int (nI 0), .null, .null, .null])), (b1, .inr (0, [.ref b2, .ref b3, .int (nI 0), .int (nI 0)])), (b2, .inl (cI, 13, .inl (fun j => nI (z0 j)))), (b3, .inl (cI, 13, .inl (fun j => nI (z0 j))))] := hD
  refine W.widen (k := 3) (n := 30) (Nat.le_of_ble_eq_true rfl) (Nat.le_of_ble_eq_true rfl) ?_
  refine va_putF (D := (dC, dI)) (ci := 5) (v := .ref b1) (ty := (.object "RoundTrips$Building")) (C := R_T) (T := F_T) (N := 6) hx hb hts i_T ft_T ft_T_ok n_T hown hK hP hD hS 0 rfl rfl 0 (by decide) (hts _ k_120) (fun _ h9 => h9) rfl hin rfl (by decide +kernel) rfl rfl (Nat.le_of_ble_eq_true rfl) d_T_init_12 (fun H locs hP hD hS => ?_)
  have hP : va_P (dC, dI) vwCl [(a0, .inr (5, [.ref b1, .null, .int (nI 0), .null, .null, .null])), (b1, .inr (0, [.ref b2, .ref b3, .int (nI 0), .int (nI 0)])), (b2, .inl (cI, 13, .inl (fun j => nI (z0 j)))), (b3, .inl (cI, 13, .inl (fun j => nI (z0 j))))] H := hP
  have hD : va_D A [(a0, .inr (5, [.ref b1, .null, .int (nI 0), .null, .null, .null])), (b1, .inr (0, [.ref b2, .ref b3, .int (nI 0), .int (nI 0)])), (b2, .inl (cI, 13, .inl (fun j => nI (z0 j)))), (b3, .inl (cI, 13, .inl (fun j => nI (z0 j))))] := hD
  refine lv_aload_n hx hb d_T_init_15 rfl (lv_at hl 0 rfl) ?_
  refine lv_bipush (v := nI 6) hx hb d_T_init_16 (by decide) ?_
  refine nx_newQ hx hb hown (hts _ k_51) hC.2.2.2 hK hP hD hS hA (ca := z0) (Nat.le_of_ble_eq_true rfl) (Nat.le_of_ble_eq_true rfl) d_T_init_18 (fun b4 H hP hD hS => ?_)
  have hP : va_P (dC, dI) vwCl [(a0, .inr (5, [.ref b1, .null, .int (nI 0), .null, .null, .null])), (b1, .inr (0, [.ref b2, .ref b3, .int (nI 0), .int (nI 0)])), (b2, .inl (cI, 13, .inl (fun j => nI (z0 j)))), (b3, .inl (cI, 13, .inl (fun j => nI (z0 j)))), (b4, .inl (cT, 6, .inr (.inr (.inr (.inr (tq z0 0))))))] H := hP
  have hD : va_D A [(a0, .inr (5, [.ref b1, .null, .int (nI 0), .null, .null, .null])), (b1, .inr (0, [.ref b2, .ref b3, .int (nI 0), .int (nI 0)])), (b2, .inl (cI, 13, .inl (fun j => nI (z0 j)))), (b3, .inl (cI, 13, .inl (fun j => nI (z0 j)))), (b4, .inl (cT, 6, .inr (.inr (.inr (.inr (tq z0 0))))))] := hD
  refine W.widen (k := 4) (n := 36) (Nat.le_of_ble_eq_true rfl) (Nat.le_of_ble_eq_true rfl) ?_
  refine va_putF (D := (dC, dI)) (ci := 5) (v := .ref b4) (ty := (.array (.object "RoundTrips$CarType"))) (C := R_T) (T := F_T) (N := 6) hx hb hts i_T ft_T ft_T_ok n_T hown hK hP hD hS 0 rfl rfl 1 (by decide) (hts _ k_121) (fun _ h9 => h9) rfl hin rfl (by decide +kernel) rfl rfl (Nat.le_of_ble_eq_true rfl) d_T_init_21 (fun H locs hP hD hS => ?_)
  have hP : va_P (dC, dI) vwCl [(a0, .inr (5, [.ref b1, .ref b4, .int (nI 0), .null, .null, .null])), (b1, .inr (0, [.ref b2, .ref b3, .int (nI 0), .int (nI 0)])), (b2, .inl (cI, 13, .inl (fun j => nI (z0 j)))), (b3, .inl (cI, 13, .inl (fun j => nI (z0 j)))), (b4, .inl (cT, 6, .inr (.inr (.inr (.inr (tq z0 0))))))] H := hP
  have hD : va_D A [(a0, .inr (5, [.ref b1, .ref b4, .int (nI 0), .null, .null, .null])), (b1, .inr (0, [.ref b2, .ref b3, .int (nI 0), .int (nI 0)])), (b2, .inl (cI, 13, .inl (fun j => nI (z0 j)))), (b3, .inl (cI, 13, .inl (fun j => nI (z0 j)))), (b4, .inl (cT, 6, .inr (.inr (.inr (.inr (tq z0 0))))))] := hD
  refine lv_aload_n hx hb d_T_init_24 rfl (lv_at hl 0 rfl) ?_
  refine lv_iconst (v := nI 0) hx hb d_T_init_25 (by decide) ?_
  refine va_put (D := (dC, dI)) (ci := 5) (v := .int (nI 0)) (ty := (.int)) (C := R_T) (T := F_T) (N := 6) hx hb hts i_T ft_T ft_T_ok n_T hown hK hP hD hS 0 rfl rfl 2 (by decide) (hts _ k_122) (fun _ h9 => h9) rfl (by decide +kernel) rfl rfl (Nat.le_of_ble_eq_true rfl) d_T_init_26 (fun H locs hP hD hS => ?_)
  have hP : va_P (dC, dI) vwCl [(a0, .inr (5, [.ref b1, .ref b4, .int (nI 0), .null, .null, .null])), (b1, .inr (0, [.ref b2, .ref b3, .int (nI 0), .int (nI 0)])), (b2, .inl (cI, 13, .inl (fun j => nI (z0 j)))), (b3, .inl (cI, 13, .inl (fun j => nI (z0 j)))), (b4, .inl (cT, 6, .inr (.inr (.inr (.inr (tq z0 0))))))] H := hP
  have hD : va_D A [(a0, .inr (5, [.ref b1, .ref b4, .int (nI 0), .null, .null, .null])), (b1, .inr (0, [.ref b2, .ref b3, .int (nI 0), .int (nI 0)])), (b2, .inl (cI, 13, .inl (fun j => nI (z0 j)))), (b3, .inl (cI, 13, .inl (fun j => nI (z0 j)))), (b4, .inl (cT, 6, .inr (.inr (.inr (.inr (tq z0 0))))))] := hD
  refine lv_aload_n hx hb d_T_init_29 rfl (lv_at hl 0 rfl) ?_
  refine va_new (ci := 2) (fs := [.int (nI 0), .long (lN 0), .long (lN 0), .long (lN 0)]) (C := R_O) (T := F_O) (N := 4) hx hb hts i_O ft_O ft_O_ok hown (hts _ k_53) (hts _ k_54) (hts _ k_3) hK hP hD hS hA rfl (fun j hj => by rcases (show j = 0 ∨ j = 1 ∨ j = 2 ∨ j = 3 by omega) with rfl | rfl | rfl | rfl <;> rfl) (Nat.le_of_ble_eq_true rfl) (Nat.le_of_ble_eq_true rfl) d_T_init_30 (fun b5 H hP hD hS => ?_)
  have hP : va_P (dC, dI) vwCl [(a0, .inr (5, [.ref b1, .ref b4, .int (nI 0), .null, .null, .null])), (b1, .inr (0, [.ref b2, .ref b3, .int (nI 0), .int (nI 0)])), (b2, .inl (cI, 13, .inl (fun j => nI (z0 j)))), (b3, .inl (cI, 13, .inl (fun j => nI (z0 j)))), (b4, .inl (cT, 6, .inr (.inr (.inr (.inr (tq z0 0)))))), (b5, .inr (2, [.int (nI 0), .long (lN 0), .long (lN 0), .long (lN 0)]))] H := hP
  have hD : va_D A [(a0, .inr (5, [.ref b1, .ref b4, .int (nI 0), .null, .null, .null])), (b1, .inr (0, [.ref b2, .ref b3, .int (nI 0), .int (nI 0)])), (b2, .inl (cI, 13, .inl (fun j => nI (z0 j)))), (b3, .inl (cI, 13, .inl (fun j => nI (z0 j)))), (b4, .inl (cT, 6, .inr (.inr (.inr (.inr (tq z0 0)))))), (b5, .inr (2, [.int (nI 0), .long (lN 0), .long (lN 0), .long (lN 0)]))] := hD
  refine W.widen (k := 5) (n := 40) (Nat.le_of_ble_eq_true rfl) (Nat.le_of_ble_eq_true rfl) ?_
  refine lv_dup hx hb d_T_init_33 rfl ?_
  have hPc := hP.sub (ws' := [(b5, .inr (2, [.int (nI 0), .long (lN 0), .long (lN 0), .long (lN 0)]))]) [5] rfl
  have hDc := hD.sub (ws' := [(b5, .inr (2, [.int (nI 0), .long (lN 0), .long (lN 0), .long (lN 0)]))]) [5] (by decide) rfl
  have hFc := va_free (wc := [(b5, .inr (2, [.int (nI 0), .long (lN 0), .long (lN 0), .long (lN 0)]))]) hD hS hA [5] rfl
  refine va_callv (va_runIN (As := []) (rest := [.ref b5, .ref a0]) ⟨hx, hb, hml, hown, hts⟩ (c_O_init l _ b5) ⟨va_cnB 0 hts (gw_code k_57) rfl rfl rfl (hC.2.1 (Cond.methodLinkNest R_T 28 y_O_init R_T) (by simp [ct_nest])) (hts _ k_3) (by decide +kernel) ⟨Nat.le_trans (Nat.le_of_ble_eq_true rfl) hfr, Nat.le_trans (Nat.le_of_ble_eq_true rfl) hlo⟩, rfl, hts _ k_56⟩ ⟨wr_blind, wr_at hC hPc hDc⟩ rfl rfl hl.1 rfl (lv_room (Nat.le_of_ble_eq_true rfl)) d_T_init_34 ⟨Nat.le_of_ble_eq_true rfl, Nat.le_of_ble_eq_true rfl⟩) hS (fun q _ h => hFc q h) hFc (fun u t H1 locs ht hvm hw hB hz1 hk1 hS => ?_)
  obtain ⟨hP1, hD1⟩ := hB
  rw [ht] at hP1
  obtain ⟨hP, hD⟩ := va_join (wr := [(a0, .inr (5, [.ref b1, .ref b4, .int (nI 0), .null, .null, .null])), (b1, .inr (0, [.ref b2, .ref b3, .int (nI 0), .int (nI 0)])), (b2, .inl (cI, 13, .inl (fun j => nI (z0 j)))), (b3, .inl (cI, 13, .inl (fun j => nI (z0 j)))), (b4, .inl (cT, 6, .inr (.inr (.inr (.inr (tq z0 0))))))]) (w1 := [(b5, .inr (2, [.int (nI 1), .long (lN 1), .long (lN 0), .long (lN 0)]))]) hP hD [5] [0, 1, 2, 3, 4] rfl rfl (by decide) (by decide) hk1 hFc hP1 hD1
  generalize H1 = H at hP hS ⊢
  have hP : va_P (dC, dI) vwCl [(a0, .inr (5, [.ref b1, .ref b4, .int (nI 0), .null, .null, .null])), (b1, .inr (0, [.ref b2, .ref b3, .int (nI 0), .int (nI 0)])), (b2, .inl (cI, 13, .inl (fun j => nI (z0 j)))), (b3, .inl (cI, 13, .inl (fun j => nI (z0 j)))), (b4, .inl (cT, 6, .inr (.inr (.inr (.inr (tq z0 0)))))), (b5, .inr (2, [.int (nI 1), .long (lN 1), .long (lN 0), .long (lN 0)]))] H := hP
  have hD : va_D A [(a0, .inr (5, [.ref b1, .ref b4, .int (nI 0), .null, .null, .null])), (b1, .inr (0, [.ref b2, .ref b3, .int (nI 0), .int (nI 0)])), (b2, .inl (cI, 13, .inl (fun j => nI (z0 j)))), (b3, .inl (cI, 13, .inl (fun j => nI (z0 j)))), (b4, .inl (cT, 6, .inr (.inr (.inr (.inr (tq z0 0)))))), (b5, .inr (2, [.int (nI 1), .long (lN 1), .long (lN 0), .long (lN 0)]))] := hD
  refine W.widen (k := 5) (n := 40) (Nat.le_of_ble_eq_true rfl) (Nat.le_of_ble_eq_true rfl) ?_
  refine va_putF (D := (dC, dI)) (ci := 5) (v := .ref b5) (ty := (.object "RoundTrips$Odds")) (C := R_T) (T := F_T) (N := 6) hx hb hts i_T ft_T ft_T_ok n_T hown hK hP hD hS 0 rfl rfl 3 (by decide) (hts _ k_123) (fun _ h9 => h9) rfl hin rfl (by decide +kernel) rfl rfl (Nat.le_of_ble_eq_true rfl) d_T_init_37 (fun H locs hP hD hS => ?_)
  have hP : va_P (dC, dI) vwCl [(a0, .inr (5, [.ref b1, .ref b4, .int (nI 0), .ref b5, .null, .null])), (b1, .inr (0, [.ref b2, .ref b3, .int (nI 0), .int (nI 0)])), (b2, .inl (cI, 13, .inl (fun j => nI (z0 j)))), (b3, .inl (cI, 13, .inl (fun j => nI (z0 j)))), (b4, .inl (cT, 6, .inr (.inr (.inr (.inr (tq z0 0)))))), (b5, .inr (2, [.int (nI 1), .long (lN 1), .long (lN 0), .long (lN 0)]))] H := hP
  have hD : va_D A [(a0, .inr (5, [.ref b1, .ref b4, .int (nI 0), .ref b5, .null, .null])), (b1, .inr (0, [.ref b2, .ref b3, .int (nI 0), .int (nI 0)])), (b2, .inl (cI, 13, .inl (fun j => nI (z0 j)))), (b3, .inl (cI, 13, .inl (fun j => nI (z0 j)))), (b4, .inl (cT, 6, .inr (.inr (.inr (.inr (tq z0 0)))))), (b5, .inr (2, [.int (nI 1), .long (lN 1), .long (lN 0), .long (lN 0)]))] := hD
  refine lv_aload_n hx hb d_T_init_40 rfl (lv_at hl 0 rfl) ?_
  refine va_new (ci := 3) (fs := [.null, .null, .null, .null, .int (nI 0), .int (nI 0), .int (nI 0)]) (C := R_S) (T := F_S) (N := 7) hx hb hts i_S ft_S ft_S_ok hown (hts _ k_75) (hts _ k_76) (hts _ k_4) hK hP hD hS hA rfl (fun j hj => by rcases (show j = 0 ∨ j = 1 ∨ j = 2 ∨ j = 3 ∨ j = 4 ∨ j = 5 ∨ j = 6 by omega) with rfl | rfl | rfl | rfl | rfl | rfl | rfl <;> rfl) (Nat.le_of_ble_eq_true rfl) (Nat.le_of_ble_eq_true rfl) d_T_init_41 (fun b6 H hP hD hS => ?_)
  have hP : va_P (dC, dI) vwCl [(a0, .inr (5, [.ref b1, .ref b4, .int (nI 0), .ref b5, .null, .null])), (b1, .inr (0, [.ref b2, .ref b3, .int (nI 0), .int (nI 0)])), (b2, .inl (cI, 13, .inl (fun j => nI (z0 j)))), (b3, .inl (cI, 13, .inl (fun j => nI (z0 j)))), (b4, .inl (cT, 6, .inr (.inr (.inr (.inr (tq z0 0)))))), (b5, .inr (2, [.int (nI 1), .long (lN 1), .long (lN 0), .long (lN 0)])), (b6, .inr (3, [.null, .null, .null, .null, .int (nI 0), .int (nI 0), .int (nI 0)]))] H := hP
  have hD : va_D A [(a0, .inr (5, [.ref b1, .ref b4, .int (nI 0), .ref b5, .null, .null])), (b1, .inr (0, [.ref b2, .ref b3, .int (nI 0), .int (nI 0)])), (b2, .inl (cI, 13, .inl (fun j => nI (z0 j)))), (b3, .inl (cI, 13, .inl (fun j => nI (z0 j)))), (b4, .inl (cT, 6, .inr (.inr (.inr (.inr (tq z0 0)))))), (b5, .inr (2, [.int (nI 1), .long (lN 1), .long (lN 0), .long (lN 0)])), (b6, .inr (3, [.null, .null, .null, .null, .int (nI 0), .int (nI 0), .int (nI 0)]))] := hD
  refine W.widen (k := 6) (n := 47) (Nat.le_of_ble_eq_true rfl) (Nat.le_of_ble_eq_true rfl) ?_
  refine lv_dup hx hb d_T_init_44 rfl ?_
  have hPc := hP.sub (ws' := [(b6, .inr (3, [.null, .null, .null, .null, .int (nI 0), .int (nI 0), .int (nI 0)]))]) [6] rfl
  have hDc := hD.sub (ws' := [(b6, .inr (3, [.null, .null, .null, .null, .int (nI 0), .int (nI 0), .int (nI 0)]))]) [6] (by decide) rfl
  have hFc := va_free (wc := [(b6, .inr (3, [.null, .null, .null, .null, .int (nI 0), .int (nI 0), .int (nI 0)]))]) hD hS hA [6] rfl
  refine va_callv (va_runI (As := []) (rest := [.ref b6, .ref a0]) ⟨hx, hb, hml, hown, hts⟩ (c_S_init l _ b6) (cwI 0 hts (gw_code k_79) rfl rfl rfl (hts _ k_4) (hts _ k_77) (hts _ k_78) rfl (by decide +kernel) ⟨Nat.le_trans (Nat.le_of_ble_eq_true rfl) hfr, Nat.le_trans (Nat.le_of_ble_eq_true rfl) hlo⟩) ⟨wr_blind, wr_at hC hPc hDc⟩ rfl rfl hl.1 rfl (lv_room (Nat.le_of_ble_eq_true rfl)) d_T_init_45 ⟨Nat.le_of_ble_eq_true rfl, Nat.le_of_ble_eq_true rfl⟩) hS (fun q _ h => hFc q h) hFc (fun u t H1 locs ht hvm hw hB hz1 hk1 hS => ?_)
  obtain ⟨b7, b8, b9, b10⟩ := u
  obtain ⟨hP1, hD1⟩ := hB
  rw [ht] at hP1
  obtain ⟨hP, hD⟩ := va_join (wr := [(a0, .inr (5, [.ref b1, .ref b4, .int (nI 0), .ref b5, .null, .null])), (b1, .inr (0, [.ref b2, .ref b3, .int (nI 0), .int (nI 0)])), (b2, .inl (cI, 13, .inl (fun j => nI (z0 j)))), (b3, .inl (cI, 13, .inl (fun j => nI (z0 j)))), (b4, .inl (cT, 6, .inr (.inr (.inr (.inr (tq z0 0)))))), (b5, .inr (2, [.int (nI 1), .long (lN 1), .long (lN 0), .long (lN 0)]))]) (w1 := [(b6, .inr (3, [.ref b7, .ref b8, .ref b9, .ref b10, .int (nI 0), .int (nI 0), .int (nI 0)])), (b7, .inl (cL, 169, .inr (.inl (fun j => lN (z0 j))))), (b8, .inl (cL, 169, .inr (.inl (fun j => lN ((up z0 0 1) j))))), (b9, .inl (cI, 4, .inl (fun j => nI (z0 j)))), (b10, .inl (cI, 4, .inl (fun j => nI (z0 j))))]) hP hD [6] [0, 1, 2, 3, 4, 5] rfl rfl (by decide) (by decide) hk1 hFc hP1 hD1
  generalize H1 = H at hP hS ⊢
  have hP : va_P (dC, dI) vwCl [(a0, .inr (5, [.ref b1, .ref b4, .int (nI 0), .ref b5, .null, .null])), (b1, .inr (0, [.ref b2, .ref b3, .int (nI 0), .int (nI 0)])), (b2, .inl (cI, 13, .inl (fun j => nI (z0 j)))), (b3, .inl (cI, 13, .inl (fun j => nI (z0 j)))), (b4, .inl (cT, 6, .inr (.inr (.inr (.inr (tq z0 0)))))), (b5, .inr (2, [.int (nI 1), .long (lN 1), .long (lN 0), .long (lN 0)])), (b6, .inr (3, [.ref b7, .ref b8, .ref b9, .ref b10, .int (nI 0), .int (nI 0), .int (nI 0)])), (b7, .inl (cL, 169, .inr (.inl (fun j => lN (z0 j))))), (b8, .inl (cL, 169, .inr (.inl (fun j => lN ((up z0 0 1) j))))), (b9, .inl (cI, 4, .inl (fun j => nI (z0 j)))), (b10, .inl (cI, 4, .inl (fun j => nI (z0 j))))] H := hP
  have hD : va_D A [(a0, .inr (5, [.ref b1, .ref b4, .int (nI 0), .ref b5, .null, .null])), (b1, .inr (0, [.ref b2, .ref b3, .int (nI 0), .int (nI 0)])), (b2, .inl (cI, 13, .inl (fun j => nI (z0 j)))), (b3, .inl (cI, 13, .inl (fun j => nI (z0 j)))), (b4, .inl (cT, 6, .inr (.inr (.inr (.inr (tq z0 0)))))), (b5, .inr (2, [.int (nI 1), .long (lN 1), .long (lN 0), .long (lN 0)])), (b6, .inr (3, [.ref b7, .ref b8, .ref b9, .ref b10, .int (nI 0), .int (nI 0), .int (nI 0)])), (b7, .inl (cL, 169, .inr (.inl (fun j => lN (z0 j))))), (b8, .inl (cL, 169, .inr (.inl (fun j => lN ((up z0 0 1) j))))), (b9, .inl (cI, 4, .inl (fun j => nI (z0 j)))), (b10, .inl (cI, 4, .inl (fun j => nI (z0 j))))] := hD
  refine W.widen (k := 10) (n := 393) (Nat.le_of_ble_eq_true rfl) (Nat.le_of_ble_eq_true rfl) ?_
  refine va_putF (D := (dC, dI)) (ci := 5) (v := .ref b6) (ty := (.object "RoundTrips$Splits")) (C := R_T) (T := F_T) (N := 6) hx hb hts i_T ft_T ft_T_ok n_T hown hK hP hD hS 0 rfl rfl 4 (by decide) (hts _ k_124) (fun _ h9 => h9) rfl hin rfl (by decide +kernel) rfl rfl (Nat.le_of_ble_eq_true rfl) d_T_init_48 (fun H locs hP hD hS => ?_)
  have hP : va_P (dC, dI) vwCl [(a0, .inr (5, [.ref b1, .ref b4, .int (nI 0), .ref b5, .ref b6, .null])), (b1, .inr (0, [.ref b2, .ref b3, .int (nI 0), .int (nI 0)])), (b2, .inl (cI, 13, .inl (fun j => nI (z0 j)))), (b3, .inl (cI, 13, .inl (fun j => nI (z0 j)))), (b4, .inl (cT, 6, .inr (.inr (.inr (.inr (tq z0 0)))))), (b5, .inr (2, [.int (nI 1), .long (lN 1), .long (lN 0), .long (lN 0)])), (b6, .inr (3, [.ref b7, .ref b8, .ref b9, .ref b10, .int (nI 0), .int (nI 0), .int (nI 0)])), (b7, .inl (cL, 169, .inr (.inl (fun j => lN (z0 j))))), (b8, .inl (cL, 169, .inr (.inl (fun j => lN ((up z0 0 1) j))))), (b9, .inl (cI, 4, .inl (fun j => nI (z0 j)))), (b10, .inl (cI, 4, .inl (fun j => nI (z0 j))))] H := hP
  have hD : va_D A [(a0, .inr (5, [.ref b1, .ref b4, .int (nI 0), .ref b5, .ref b6, .null])), (b1, .inr (0, [.ref b2, .ref b3, .int (nI 0), .int (nI 0)])), (b2, .inl (cI, 13, .inl (fun j => nI (z0 j)))), (b3, .inl (cI, 13, .inl (fun j => nI (z0 j)))), (b4, .inl (cT, 6, .inr (.inr (.inr (.inr (tq z0 0)))))), (b5, .inr (2, [.int (nI 1), .long (lN 1), .long (lN 0), .long (lN 0)])), (b6, .inr (3, [.ref b7, .ref b8, .ref b9, .ref b10, .int (nI 0), .int (nI 0), .int (nI 0)])), (b7, .inl (cL, 169, .inr (.inl (fun j => lN (z0 j))))), (b8, .inl (cL, 169, .inr (.inl (fun j => lN ((up z0 0 1) j))))), (b9, .inl (cI, 4, .inl (fun j => nI (z0 j)))), (b10, .inl (cI, 4, .inl (fun j => nI (z0 j))))] := hD
  refine lv_aload_n hx hb d_T_init_51 rfl (lv_at hl 0 rfl) ?_
  refine va_new (ci := 4) (fs := [.null, .int (nI 0)]) (C := R_A) (T := F_A) (N := 2) hx hb hts i_A ft_A ft_A_ok hown (hts _ k_105) (hts _ k_106) (hts _ k_5) hK hP hD hS hA rfl (fun j hj => by rcases (show j = 0 ∨ j = 1 by omega) with rfl | rfl <;> rfl) (Nat.le_of_ble_eq_true rfl) (Nat.le_of_ble_eq_true rfl) d_T_init_52 (fun b11 H hP hD hS => ?_)
  have hP : va_P (dC, dI) vwCl [(a0, .inr (5, [.ref b1, .ref b4, .int (nI 0), .ref b5, .ref b6, .null])), (b1, .inr (0, [.ref b2, .ref b3, .int (nI 0), .int (nI 0)])), (b2, .inl (cI, 13, .inl (fun j => nI (z0 j)))), (b3, .inl (cI, 13, .inl (fun j => nI (z0 j)))), (b4, .inl (cT, 6, .inr (.inr (.inr (.inr (tq z0 0)))))), (b5, .inr (2, [.int (nI 1), .long (lN 1), .long (lN 0), .long (lN 0)])), (b6, .inr (3, [.ref b7, .ref b8, .ref b9, .ref b10, .int (nI 0), .int (nI 0), .int (nI 0)])), (b7, .inl (cL, 169, .inr (.inl (fun j => lN (z0 j))))), (b8, .inl (cL, 169, .inr (.inl (fun j => lN ((up z0 0 1) j))))), (b9, .inl (cI, 4, .inl (fun j => nI (z0 j)))), (b10, .inl (cI, 4, .inl (fun j => nI (z0 j)))), (b11, .inr (4, [.null, .int (nI 0)]))] H := hP
  have hD : va_D A [(a0, .inr (5, [.ref b1, .ref b4, .int (nI 0), .ref b5, .ref b6, .null])), (b1, .inr (0, [.ref b2, .ref b3, .int (nI 0), .int (nI 0)])), (b2, .inl (cI, 13, .inl (fun j => nI (z0 j)))), (b3, .inl (cI, 13, .inl (fun j => nI (z0 j)))), (b4, .inl (cT, 6, .inr (.inr (.inr (.inr (tq z0 0)))))), (b5, .inr (2, [.int (nI 1), .long (lN 1), .long (lN 0), .long (lN 0)])), (b6, .inr (3, [.ref b7, .ref b8, .ref b9, .ref b10, .int (nI 0), .int (nI 0), .int (nI 0)])), (b7, .inl (cL, 169, .inr (.inl (fun j => lN (z0 j))))), (b8, .inl (cL, 169, .inr (.inl (fun j => lN ((up z0 0 1) j))))), (b9, .inl (cI, 4, .inl (fun j => nI (z0 j)))), (b10, .inl (cI, 4, .inl (fun j => nI (z0 j)))), (b11, .inr (4, [.null, .int (nI 0)]))] := hD
  refine W.widen (k := 11) (n := 395) (Nat.le_of_ble_eq_true rfl) (Nat.le_of_ble_eq_true rfl) ?_
  refine lv_dup hx hb d_T_init_55 rfl ?_
  have hPc := hP.sub (ws' := [(b11, .inr (4, [.null, .int (nI 0)]))]) [11] rfl
  have hDc := hD.sub (ws' := [(b11, .inr (4, [.null, .int (nI 0)]))]) [11] (by decide) rfl
  have hFc := va_free (wc := [(b11, .inr (4, [.null, .int (nI 0)]))]) hD hS hA [11] rfl
  refine va_callv (va_runIN (As := []) (rest := [.ref b11, .ref a0]) ⟨hx, hb, hml, hown, hts⟩ (c_A_init l _ b11) ⟨va_cnB 0 hts (gw_code k_109) rfl rfl rfl (hC.2.1 (Cond.methodLinkNest R_T 42 y_A_init R_T) (by simp [ct_nest])) (hts _ k_5) (by decide +kernel) ⟨Nat.le_trans (Nat.le_of_ble_eq_true rfl) hfr, Nat.le_trans (Nat.le_of_ble_eq_true rfl) hlo⟩, rfl, hts _ k_108⟩ ⟨wr_blind, wr_at hC hPc hDc⟩ rfl rfl hl.1 rfl (lv_room (Nat.le_of_ble_eq_true rfl)) d_T_init_56 ⟨Nat.le_of_ble_eq_true rfl, Nat.le_of_ble_eq_true rfl⟩) hS (fun q _ h => hFc q h) hFc (fun u t H1 locs ht hvm hw hB hz1 hk1 hS => ?_)
  obtain ⟨b12, rfl⟩ : ∃ z, z = u := ⟨_, rfl⟩
  obtain ⟨hP1, hD1⟩ := hB
  rw [ht] at hP1
  obtain ⟨hP, hD⟩ := va_join (wr := [(a0, .inr (5, [.ref b1, .ref b4, .int (nI 0), .ref b5, .ref b6, .null])), (b1, .inr (0, [.ref b2, .ref b3, .int (nI 0), .int (nI 0)])), (b2, .inl (cI, 13, .inl (fun j => nI (z0 j)))), (b3, .inl (cI, 13, .inl (fun j => nI (z0 j)))), (b4, .inl (cT, 6, .inr (.inr (.inr (.inr (tq z0 0)))))), (b5, .inr (2, [.int (nI 1), .long (lN 1), .long (lN 0), .long (lN 0)])), (b6, .inr (3, [.ref b7, .ref b8, .ref b9, .ref b10, .int (nI 0), .int (nI 0), .int (nI 0)])), (b7, .inl (cL, 169, .inr (.inl (fun j => lN (z0 j))))), (b8, .inl (cL, 169, .inr (.inl (fun j => lN ((up z0 0 1) j))))), (b9, .inl (cI, 4, .inl (fun j => nI (z0 j)))), (b10, .inl (cI, 4, .inl (fun j => nI (z0 j))))]) (w1 := [(b11, .inr (4, [.ref b12, .int (nI 0)])), (b12, .inl (cI, 13, .inl (fun j => nI (z0 j))))]) hP hD [11] [0, 1, 2, 3, 4, 5, 6, 7, 8, 9, 10] rfl rfl (by decide) (by decide) hk1 hFc hP1 hD1
  generalize H1 = H at hP hS ⊢
  have hP : va_P (dC, dI) vwCl [(a0, .inr (5, [.ref b1, .ref b4, .int (nI 0), .ref b5, .ref b6, .null])), (b1, .inr (0, [.ref b2, .ref b3, .int (nI 0), .int (nI 0)])), (b2, .inl (cI, 13, .inl (fun j => nI (z0 j)))), (b3, .inl (cI, 13, .inl (fun j => nI (z0 j)))), (b4, .inl (cT, 6, .inr (.inr (.inr (.inr (tq z0 0)))))), (b5, .inr (2, [.int (nI 1), .long (lN 1), .long (lN 0), .long (lN 0)])), (b6, .inr (3, [.ref b7, .ref b8, .ref b9, .ref b10, .int (nI 0), .int (nI 0), .int (nI 0)])), (b7, .inl (cL, 169, .inr (.inl (fun j => lN (z0 j))))), (b8, .inl (cL, 169, .inr (.inl (fun j => lN ((up z0 0 1) j))))), (b9, .inl (cI, 4, .inl (fun j => nI (z0 j)))), (b10, .inl (cI, 4, .inl (fun j => nI (z0 j)))), (b11, .inr (4, [.ref b12, .int (nI 0)])), (b12, .inl (cI, 13, .inl (fun j => nI (z0 j))))] H := hP
  have hD : va_D A [(a0, .inr (5, [.ref b1, .ref b4, .int (nI 0), .ref b5, .ref b6, .null])), (b1, .inr (0, [.ref b2, .ref b3, .int (nI 0), .int (nI 0)])), (b2, .inl (cI, 13, .inl (fun j => nI (z0 j)))), (b3, .inl (cI, 13, .inl (fun j => nI (z0 j)))), (b4, .inl (cT, 6, .inr (.inr (.inr (.inr (tq z0 0)))))), (b5, .inr (2, [.int (nI 1), .long (lN 1), .long (lN 0), .long (lN 0)])), (b6, .inr (3, [.ref b7, .ref b8, .ref b9, .ref b10, .int (nI 0), .int (nI 0), .int (nI 0)])), (b7, .inl (cL, 169, .inr (.inl (fun j => lN (z0 j))))), (b8, .inl (cL, 169, .inr (.inl (fun j => lN ((up z0 0 1) j))))), (b9, .inl (cI, 4, .inl (fun j => nI (z0 j)))), (b10, .inl (cI, 4, .inl (fun j => nI (z0 j)))), (b11, .inr (4, [.ref b12, .int (nI 0)])), (b12, .inl (cI, 13, .inl (fun j => nI (z0 j))))] := hD
  refine W.widen (k := 12) (n := 408) (Nat.le_of_ble_eq_true rfl) (Nat.le_of_ble_eq_true rfl) ?_
  refine va_putF (D := (dC, dI)) (ci := 5) (v := .ref b11) (ty := (.object "RoundTrips$Stairs")) (C := R_T) (T := F_T) (N := 6) hx hb hts i_T ft_T ft_T_ok n_T hown hK hP hD hS 0 rfl rfl 5 (by decide) (hts _ k_125) (fun _ h9 => h9) rfl hin rfl (by decide +kernel) rfl rfl (Nat.le_of_ble_eq_true rfl) d_T_init_59 (fun H locs hP hD hS => ?_)
  have hP : va_P (dC, dI) vwCl [(a0, .inr (5, [.ref b1, .ref b4, .int (nI 0), .ref b5, .ref b6, .ref b11])), (b1, .inr (0, [.ref b2, .ref b3, .int (nI 0), .int (nI 0)])), (b2, .inl (cI, 13, .inl (fun j => nI (z0 j)))), (b3, .inl (cI, 13, .inl (fun j => nI (z0 j)))), (b4, .inl (cT, 6, .inr (.inr (.inr (.inr (tq z0 0)))))), (b5, .inr (2, [.int (nI 1), .long (lN 1), .long (lN 0), .long (lN 0)])), (b6, .inr (3, [.ref b7, .ref b8, .ref b9, .ref b10, .int (nI 0), .int (nI 0), .int (nI 0)])), (b7, .inl (cL, 169, .inr (.inl (fun j => lN (z0 j))))), (b8, .inl (cL, 169, .inr (.inl (fun j => lN ((up z0 0 1) j))))), (b9, .inl (cI, 4, .inl (fun j => nI (z0 j)))), (b10, .inl (cI, 4, .inl (fun j => nI (z0 j)))), (b11, .inr (4, [.ref b12, .int (nI 0)])), (b12, .inl (cI, 13, .inl (fun j => nI (z0 j))))] H := hP
  have hD : va_D A [(a0, .inr (5, [.ref b1, .ref b4, .int (nI 0), .ref b5, .ref b6, .ref b11])), (b1, .inr (0, [.ref b2, .ref b3, .int (nI 0), .int (nI 0)])), (b2, .inl (cI, 13, .inl (fun j => nI (z0 j)))), (b3, .inl (cI, 13, .inl (fun j => nI (z0 j)))), (b4, .inl (cT, 6, .inr (.inr (.inr (.inr (tq z0 0)))))), (b5, .inr (2, [.int (nI 1), .long (lN 1), .long (lN 0), .long (lN 0)])), (b6, .inr (3, [.ref b7, .ref b8, .ref b9, .ref b10, .int (nI 0), .int (nI 0), .int (nI 0)])), (b7, .inl (cL, 169, .inr (.inl (fun j => lN (z0 j))))), (b8, .inl (cL, 169, .inr (.inl (fun j => lN ((up z0 0 1) j))))), (b9, .inl (cI, 4, .inl (fun j => nI (z0 j)))), (b10, .inl (cI, 4, .inl (fun j => nI (z0 j)))), (b11, .inr (4, [.ref b12, .int (nI 0)])), (b12, .inl (cI, 13, .inl (fun j => nI (z0 j))))] := hD
  have hP := hP.sub (ws' := [(a0, .inr (5, [.ref b1, .ref b4, .int (nI 0), .ref b5, .ref b6, .ref b11])), (b1, .inr (0, [.ref b2, .ref b3, .int (nI 0), .int (nI 0)])), (b2, .inl (cI, 13, .inl (fun j => nI (z0 j)))), (b3, .inl (cI, 13, .inl (fun j => nI (z0 j)))), (b4, .inl (cT, 6, .inr (.inr (.inr (.inr (tq z0 0)))))), (b5, .inr (2, [.int (nI 1), .long (lN 1), .long (lN 0), .long (lN 0)])), (b6, .inr (3, [.ref b7, .ref b8, .ref b9, .ref b10, .int (nI 0), .int (nI 0), .int (nI 0)])), (b7, .inl (cL, 169, .inr (.inl (fun j => lN (z0 j))))), (b8, .inl (cL, 169, .inr (.inl (fun j => lN ((up z0 0 1) j))))), (b9, .inl (cI, 4, .inl (fun j => nI (z0 j)))), (b10, .inl (cI, 4, .inl (fun j => nI (z0 j)))), (b11, .inr (4, [.ref b12, .int (nI 0)])), (b12, .inl (cI, 13, .inl (fun j => nI (z0 j))))]) [0, 1, 2, 3, 4, 5, 6, 7, 8, 9, 10, 11, 12] rfl
  have hD := hD.sub (ws' := [(a0, .inr (5, [.ref b1, .ref b4, .int (nI 0), .ref b5, .ref b6, .ref b11])), (b1, .inr (0, [.ref b2, .ref b3, .int (nI 0), .int (nI 0)])), (b2, .inl (cI, 13, .inl (fun j => nI (z0 j)))), (b3, .inl (cI, 13, .inl (fun j => nI (z0 j)))), (b4, .inl (cT, 6, .inr (.inr (.inr (.inr (tq z0 0)))))), (b5, .inr (2, [.int (nI 1), .long (lN 1), .long (lN 0), .long (lN 0)])), (b6, .inr (3, [.ref b7, .ref b8, .ref b9, .ref b10, .int (nI 0), .int (nI 0), .int (nI 0)])), (b7, .inl (cL, 169, .inr (.inl (fun j => lN (z0 j))))), (b8, .inl (cL, 169, .inr (.inl (fun j => lN ((up z0 0 1) j))))), (b9, .inl (cI, 4, .inl (fun j => nI (z0 j)))), (b10, .inl (cI, 4, .inl (fun j => nI (z0 j)))), (b11, .inr (4, [.ref b12, .int (nI 0)])), (b12, .inl (cI, 13, .inl (fun j => nI (z0 j))))]) [0, 1, 2, 3, 4, 5, 6, 7, 8, 9, 10, 11, 12] (by decide) rfl
  exact W.vret hx hb hr (fun t ht hW => ⟨⟨(fun i => ([a0, b1, b2, b3, b4, b5, b6, b7, b8, b9, b10, b11, b12] : List Nat).getD i 0), rfl, rfl, by rw [ht]; exact hP, hD⟩, hS.F ht⟩) hS.2.2 d_T_init_62
set_option maxHeartbeats 4000000 in
set_option maxRecDepth 100000 in
theorem c_M_init (l : Launch) {dC : Nat → ClassId} {dI : Nat → Nat → Nat} {cI cL cT : ClassId} {sa : Nat → Nat} (sz : Nat) (a0 : Nat)  : Met l y_M_init (Cond.code y_M_init b_M_init 1 none :: gw) ({ frames := 1, cells := 12, slots := 415, locals := 60 } : Room) (wr dC dI cI cL cT sa [.ref a0] [(a0, .inr (6, [.int (nI 0), .null, .null, .int (nI 0), .null, .null, .null, .null, .null, .int (nI 0), .long (lN 0), .long (lN 0), .null, .null, .null, .null, .null]))] sz) (va_Qv (fun (u : Nat → Nat) => u 0 = a0) (fun (u : Nat → Nat) => wB dC dI [(a0, .inr (6, [.int (nI 0), .null, .null, .int (nI 0), .null, .null, .null, .null, .null, .int (nI 0), .long (lN 0), .long (lN 0), .null, .null, .null, .null, .null]))] [(u 0, .inr (6, [.int (nI 0), .ref (u 1), .ref (u 2), .int (nI 0), .ref (u 4), .ref (u 5), .ref (u 6), .ref (u 7), .ref (u 8), .int (nI 0), .long (lN 0), .long (lN 0), .ref (u 12), .ref (u 13), .ref (u 14), .ref (u 15), .ref (u 16)])), (u 1, .inl (cI, 13, .inl (fun j => nI (z0 j)))), (u 2, .inl (cI, 13, .inl (fun j => nI (z0 j)))), (u 4, .inl (cI, 6, .inl (fun j => nI (z0 j)))), (u 5, .inl (cI, 6, .inl (fun j => nI (z0 j)))), (u 6, .inl (cI, 6, .inl (fun j => nI (z0 j)))), (u 7, .inl (cI, 6, .inl (fun j => nI (z0 j)))), (u 8, .inl (cI, 6, .inl (fun j => nI (z0 j)))), (u 12, .inl (cL, 169, .inr (.inl (fun j => lN (z0 j))))), (u 13, .inl (cL, 169, .inr (.inl (fun j => lN (z0 j))))), (u 14, .inl (cI, 4, .inl (fun j => nI (z0 j)))), (u 15, .inl (cI, 4, .inl (fun j => nI (z0 j)))), (u 16, .inl (cI, 13, .inl (fun j => nI (z0 j))))] sz ()) (va_A [(a0, .inr (6, [.int (nI 0), .null, .null, .int (nI 0), .null, .null, .null, .null, .null, .int (nI 0), .long (lN 0), .long (lN 0), .null, .null, .null, .null, .null]))] sz)) 12 415 (va_A [(a0, .inr (6, [.int (nI 0), .null, .null, .int (nI 0), .null, .null, .null, .null, .null, .int (nI 0), .long (lN 0), .long (lN 0), .null, .null, .null, .null, .null]))] sz) := by
  refine Met.ofW (cc := b_M_init) (maxL := 1) (ret := none) (by decide) rfl ?_
  intro p e s m args below meth c s₁ B hml hv
  obtain ⟨rfl, hsz, hC, hP, hD0⟩ := hv
  have hx := B.exec
  have hb := B.bytes
  have hr := B.returns
  have hts : ∀ w ∈ gw, w.before ([.ref a0] : List Value).toArray s = true := fun w hw => atoms_spec (ws := Cond.code y_M_init b_M_init 1 none :: gw) B.pre w (List.mem_cons_of_mem _ hw)
  have hown : s.vm.findClass R_M = some m.cls := findClass_of_methodNamed B.named
  have hlocks := B.notSynchronized
  have hin : meth.name = "<init>" := (name_of_methodNamed B.named B.method).1
  have hK := hC.1
  have hfr : 1 ≤ (headSpec (Cond.code y_M_init b_M_init 1 none :: gw) ({ frames := 1, cells := 12, slots := 415, locals := 60 } : Room)).room.frames := Nat.le_refl _
  have hlo : 60 ≤ (headSpec (Cond.code y_M_init b_M_init 1 none :: gw) ({ frames := 1, cells := 12, slots := 415, locals := 60 } : Room)).room.locals := Nat.le_refl _
  have hce : 0 ≤ (headSpec (Cond.code y_M_init b_M_init 1 none :: gw) ({ frames := 1, cells := 12, slots := 415, locals := 60 } : Room)).room.cells := Nat.zero_le _
  have hsl : 0 ≤ (headSpec (Cond.code y_M_init b_M_init 1 none :: gw) ({ frames := 1, cells := 12, slots := 415, locals := 60 } : Room)).room.slots := Nat.zero_le _
  subst hsz
  have hD := hD0.self (sz := s.heap.size)
  unfold wB
  generalize hAe : va_A [(a0, .inr (6, [.int (nI 0), .null, .null, .int (nI 0), .null, .null, .null, .null, .null, .int (nI 0), .long (lN 0), .long (lN 0), .null, .null, .null, .null, .null]))] s.heap.size = A at hD ⊢
  have hA : ∀ q : Nat, s.heap.size ≤ q → A q := fun q h => by rw [← hAe]; exact Or.inr h
  have hS : va_S A s.heap s.heap [] := va_S.rf
  have hl := lv_entry ([.ref a0]) (n := 1) (Nat.le_of_ble_eq_true rfl)
  rw [lg_entry_eq]
  generalize (lg_sl ([.ref a0]) ++ List.replicate (1 - (lg_sl ([.ref a0])).length) Slot.unset).toArray = ls at hl ⊢
  have hl : lv_has ls 1 [(0, .ref a0)] := hl
  have hP : va_P (dC, dI) vwCl [(a0, .inr (6, [.int (nI 0), .null, .null, .int (nI 0), .null, .null, .null, .null, .null, .int (nI 0), .long (lN 0), .long (lN 0), .null, .null, .null, .null, .null]))] s.heap := hP
  refine lv_aload_n hx hb d_M_init_0 rfl (lv_at hl 0 rfl) ?_
  refine W.objInit hx hb hown (hts _ k_476) (hts _ k_21) (hts _ k_22) rfl (by rw [hml]; exact hl.1) rfl d_M_init_1 (Nat.le_trans (Nat.le_of_ble_eq_true rfl) hfr) (Nat.le_trans (Nat.le_of_ble_eq_true rfl) hlo) ?_
  refine W.eq (g2 := F0 m 4 ls []) rfl ?_
  refine lv_aload_n hx hb d_M_init_4 rfl (lv_at hl 0 rfl) ?_
  refine lv_bipush (v := nI 13) hx hb d_M_init_5 (by decide) ?_
  refine nx_newI hx hb (hts _ k_50) hK hP hD hS hA (N := 13) (by decide) (Nat.le_of_ble_eq_true rfl) (Nat.le_of_ble_eq_true rfl) d_M_init_7 (fun b1 H hP hD hS => ?_)
  have hP : va_P (dC, dI) vwCl [(a0, .inr (6, [.int (nI 0), .null, .null, .int (nI 0), .null, .null, .null, .null, .null, .int (nI 0), .long (lN 0), .long (lN 0), .null, .null, .null, .null, .null])), (b1, .inl (cI, 13, .inl (fun j => nI (z0 j))))] H := hP
  have hD : va_D A [(a0, .inr (6, [.int (nI 0), .null, .null, .int (nI 0), .null, .null, .null, .null, .null, .int (nI 0), .long (lN 0), .long (lN 0), .null, .null, .null, .null, .null])), (b1, .inl (cI, 13, .inl (fun j => nI (z0 j))))] := hD
  refine W.widen (k := 1) (n := 13) (Nat.le_of_ble_eq_true rfl) (Nat.le_of_ble_eq_true rfl) ?_
  refine va_putF (D := (dC, dI)) (ci := 6) (v := .ref b1) (ty := (.array .int)) (C := R_M) (T := F_M) (N := 17) hx hb hts i_M ft_M ft_M_ok n_M hown hK hP hD hS 0 rfl rfl 1 (by decide) (hts _ k_478) (fun _ h9 => h9) rfl hin rfl (by decide +kernel) rfl rfl (Nat.le_of_ble_eq_true rfl) d_M_init_9 (fun H locs hP hD hS => ?_)
  have hP : va_P (dC, dI) vwCl [(a0, .inr (6, [.int (nI 0), .ref b1, .null, .int (nI 0), .null, .null, .null, .null, .null, .int (nI 0), .long (lN 0), .long (lN 0), .null, .null, .null, .null, .null])), (b1, .inl (cI, 13, .inl (fun j => nI (z0 j))))] H := hP
  have hD : va_D A [(a0, .inr (6, [.int (nI 0), .ref b1, .null, .int (nI 0), .null, .null, .null, .null, .null, .int (nI 0), .long (lN 0), .long (lN 0), .null, .null, .null, .null, .null])), (b1, .inl (cI, 13, .inl (fun j => nI (z0 j))))] := hD
  refine lv_aload_n hx hb d_M_init_12 rfl (lv_at hl 0 rfl) ?_
  refine lv_bipush (v := nI 13) hx hb d_M_init_13 (by decide) ?_
  refine nx_newI hx hb (hts _ k_50) hK hP hD hS hA (N := 13) (by decide) (Nat.le_of_ble_eq_true rfl) (Nat.le_of_ble_eq_true rfl) d_M_init_15 (fun b2 H hP hD hS => ?_)
  have hP : va_P (dC, dI) vwCl [(a0, .inr (6, [.int (nI 0), .ref b1, .null, .int (nI 0), .null, .null, .null, .null, .null, .int (nI 0), .long (lN 0), .long (lN 0), .null, .null, .null, .null, .null])), (b1, .inl (cI, 13, .inl (fun j => nI (z0 j)))), (b2, .inl (cI, 13, .inl (fun j => nI (z0 j))))] H := hP
  have hD : va_D A [(a0, .inr (6, [.int (nI 0), .ref b1, .null, .int (nI 0), .null, .null, .null, .null, .null, .int (nI 0), .long (lN 0), .long (lN 0), .null, .null, .null, .null, .null])), (b1, .inl (cI, 13, .inl (fun j => nI (z0 j)))), (b2, .inl (cI, 13, .inl (fun j => nI (z0 j))))] := hD
  refine W.widen (k := 2) (n := 26) (Nat.le_of_ble_eq_true rfl) (Nat.le_of_ble_eq_true rfl) ?_
  refine va_putF (D := (dC, dI)) (ci := 6) (v := .ref b2) (ty := (.array .int)) (C := R_M) (T := F_M) (N := 17) hx hb hts i_M ft_M ft_M_ok n_M hown hK hP hD hS 0 rfl rfl 2 (by decide) (hts _ k_479) (fun _ h9 => h9) rfl hin rfl (by decide +kernel) rfl rfl (Nat.le_of_ble_eq_true rfl) d_M_init_17 (fun H locs hP hD hS => ?_)
  have hP : va_P (dC, dI) vwCl [(a0, .inr (6, [.int (nI 0), .ref b1, .ref b2, .int (nI 0), .null, .null, .null, .null, .null, .int (nI 0), .long (lN 0), .long (lN 0), .null, .null, .null, .null, .null])), (b1, .inl (cI, 13, .inl (fun j => nI (z0 j)))), (b2, .inl (cI, 13, .inl (fun j => nI (z0 j))))] H := hP
  have hD : va_D A [(a0, .inr (6, [.int (nI 0), .ref b1, .ref b2, .int (nI 0), .null, .null, .null, .null, .null, .int (nI 0), .long (lN 0), .long (lN 0), .null, .null, .null, .null, .null])), (b1, .inl (cI, 13, .inl (fun j => nI (z0 j)))), (b2, .inl (cI, 13, .inl (fun j => nI (z0 j))))] := hD
  refine lv_aload_n hx hb d_M_init_20 rfl (lv_at hl 0 rfl) ?_
  refine lv_bipush (v := nI 6) hx hb d_M_init_21 (by decide) ?_
  refine nx_newI hx hb (hts _ k_50) hK hP hD hS hA (N := 6) (by decide) (Nat.le_of_ble_eq_true rfl) (Nat.le_of_ble_eq_true rfl) d_M_init_23 (fun b4 H hP hD hS => ?_)
  have hP : va_P (dC, dI) vwCl [(a0, .inr (6, [.int (nI 0), .ref b1, .ref b2, .int (nI 0), .null, .null, .null, .null, .null, .int (nI 0), .long (lN 0), .long (lN 0), .null, .null, .null, .null, .null])), (b1, .inl (cI, 13, .inl (fun j => nI (z0 j)))), (b2, .inl (cI, 13, .inl (fun j => nI (z0 j)))), (b4, .inl (cI, 6, .inl (fun j => nI (z0 j))))] H := hP
  have hD : va_D A [(a0, .inr (6, [.int (nI 0), .ref b1, .ref b2, .int (nI 0), .null, .null, .null, .null, .null, .int (nI 0), .long (lN 0), .long (lN 0), .null, .null, .null, .null, .null])), (b1, .inl (cI, 13, .inl (fun j => nI (z0 j)))), (b2, .inl (cI, 13, .inl (fun j => nI (z0 j)))), (b4, .inl (cI, 6, .inl (fun j => nI (z0 j))))] := hD
  refine W.widen (k := 3) (n := 32) (Nat.le_of_ble_eq_true rfl) (Nat.le_of_ble_eq_true rfl) ?_
  refine va_putF (D := (dC, dI)) (ci := 6) (v := .ref b4) (ty := (.array .int)) (C := R_M) (T := F_M) (N := 17) hx hb hts i_M ft_M ft_M_ok n_M hown hK hP hD hS 0 rfl rfl 4 (by decide) (hts _ k_481) (fun _ h9 => h9) rfl hin rfl (by decide +kernel) rfl rfl (Nat.le_of_ble_eq_true rfl) d_M_init_25 (fun H locs hP hD hS => ?_)
  have hP : va_P (dC, dI) vwCl [(a0, .inr (6, [.int (nI 0), .ref b1, .ref b2, .int (nI 0), .ref b4, .null, .null, .null, .null, .int (nI 0), .long (lN 0), .long (lN 0), .null, .null, .null, .null, .null])), (b1, .inl (cI, 13, .inl (fun j => nI (z0 j)))), (b2, .inl (cI, 13, .inl (fun j => nI (z0 j)))), (b4, .inl (cI, 6, .inl (fun j => nI (z0 j))))] H := hP
  have hD : va_D A [(a0, .inr (6, [.int (nI 0), .ref b1, .ref b2, .int (nI 0), .ref b4, .null, .null, .null, .null, .int (nI 0), .long (lN 0), .long (lN 0), .null, .null, .null, .null, .null])), (b1, .inl (cI, 13, .inl (fun j => nI (z0 j)))), (b2, .inl (cI, 13, .inl (fun j => nI (z0 j)))), (b4, .inl (cI, 6, .inl (fun j => nI (z0 j))))] := hD
  refine lv_aload_n hx hb d_M_init_28 rfl (lv_at hl 0 rfl) ?_
  refine lv_bipush (v := nI 6) hx hb d_M_init_29 (by decide) ?_
  refine nx_newI hx hb (hts _ k_50) hK hP hD hS hA (N := 6) (by decide) (Nat.le_of_ble_eq_true rfl) (Nat.le_of_ble_eq_true rfl) d_M_init_31 (fun b5 H hP hD hS => ?_)
  have hP : va_P (dC, dI) vwCl [(a0, .inr (6, [.int (nI 0), .ref b1, .ref b2, .int (nI 0), .ref b4, .null, .null, .null, .null, .int (nI 0), .long (lN 0), .long (lN 0), .null, .null, .null, .null, .null])), (b1, .inl (cI, 13, .inl (fun j => nI (z0 j)))), (b2, .inl (cI, 13, .inl (fun j => nI (z0 j)))), (b4, .inl (cI, 6, .inl (fun j => nI (z0 j)))), (b5, .inl (cI, 6, .inl (fun j => nI (z0 j))))] H := hP
  have hD : va_D A [(a0, .inr (6, [.int (nI 0), .ref b1, .ref b2, .int (nI 0), .ref b4, .null, .null, .null, .null, .int (nI 0), .long (lN 0), .long (lN 0), .null, .null, .null, .null, .null])), (b1, .inl (cI, 13, .inl (fun j => nI (z0 j)))), (b2, .inl (cI, 13, .inl (fun j => nI (z0 j)))), (b4, .inl (cI, 6, .inl (fun j => nI (z0 j)))), (b5, .inl (cI, 6, .inl (fun j => nI (z0 j))))] := hD
  refine W.widen (k := 4) (n := 38) (Nat.le_of_ble_eq_true rfl) (Nat.le_of_ble_eq_true rfl) ?_
  refine va_putF (D := (dC, dI)) (ci := 6) (v := .ref b5) (ty := (.array .int)) (C := R_M) (T := F_M) (N := 17) hx hb hts i_M ft_M ft_M_ok n_M hown hK hP hD hS 0 rfl rfl 5 (by decide) (hts _ k_482) (fun _ h9 => h9) rfl hin rfl (by decide +kernel) rfl rfl (Nat.le_of_ble_eq_true rfl) d_M_init_33 (fun H locs hP hD hS => ?_)
  have hP : va_P (dC, dI) vwCl [(a0, .inr (6, [.int (nI 0), .ref b1, .ref b2, .int (nI 0), .ref b4, .ref b5, .null, .null, .null, .int (nI 0), .long (lN 0), .long (lN 0), .null, .null, .null, .null, .null])), (b1, .inl (cI, 13, .inl (fun j => nI (z0 j)))), (b2, .inl (cI, 13, .inl (fun j => nI (z0 j)))), (b4, .inl (cI, 6, .inl (fun j => nI (z0 j)))), (b5, .inl (cI, 6, .inl (fun j => nI (z0 j))))] H := hP
  have hD : va_D A [(a0, .inr (6, [.int (nI 0), .ref b1, .ref b2, .int (nI 0), .ref b4, .ref b5, .null, .null, .null, .int (nI 0), .long (lN 0), .long (lN 0), .null, .null, .null, .null, .null])), (b1, .inl (cI, 13, .inl (fun j => nI (z0 j)))), (b2, .inl (cI, 13, .inl (fun j => nI (z0 j)))), (b4, .inl (cI, 6, .inl (fun j => nI (z0 j)))), (b5, .inl (cI, 6, .inl (fun j => nI (z0 j))))] := hD
  refine lv_aload_n hx hb d_M_init_36 rfl (lv_at hl 0 rfl) ?_
  refine lv_bipush (v := nI 6) hx hb d_M_init_37 (by decide) ?_
  refine nx_newI hx hb (hts _ k_50) hK hP hD hS hA (N := 6) (by decide) (Nat.le_of_ble_eq_true rfl) (Nat.le_of_ble_eq_true rfl) d_M_init_39 (fun b6 H hP hD hS => ?_)
  have hP : va_P (dC, dI) vwCl [(a0, .inr (6, [.int (nI 0), .ref b1, .ref b2, .int (nI 0), .ref b4, .ref b5, .null, .null, .null, .int (nI 0), .long (lN 0), .long (lN 0), .null, .null, .null, .null, .null])), (b1, .inl (cI, 13, .inl (fun j => nI (z0 j)))), (b2, .inl (cI, 13, .inl (fun j => nI (z0 j)))), (b4, .inl (cI, 6, .inl (fun j => nI (z0 j)))), (b5, .inl (cI, 6, .inl (fun j => nI (z0 j)))), (b6, .inl (cI, 6, .inl (fun j => nI (z0 j))))] H := hP
  have hD : va_D A [(a0, .inr (6, [.int (nI 0), .ref b1, .ref b2, .int (nI 0), .ref b4, .ref b5, .null, .null, .null, .int (nI 0), .long (lN 0), .long (lN 0), .null, .null, .null, .null, .null])), (b1, .inl (cI, 13, .inl (fun j => nI (z0 j)))), (b2, .inl (cI, 13, .inl (fun j => nI (z0 j)))), (b4, .inl (cI, 6, .inl (fun j => nI (z0 j)))), (b5, .inl (cI, 6, .inl (fun j => nI (z0 j)))), (b6, .inl (cI, 6, .inl (fun j => nI (z0 j))))] := hD
  refine W.widen (k := 5) (n := 44) (Nat.le_of_ble_eq_true rfl) (Nat.le_of_ble_eq_true rfl) ?_
  refine va_putF (D := (dC, dI)) (ci := 6) (v := .ref b6) (ty := (.array .int)) (C := R_M) (T := F_M) (N := 17) hx hb hts i_M ft_M ft_M_ok n_M hown hK hP hD hS 0 rfl rfl 6 (by decide) (hts _ k_483) (fun _ h9 => h9) rfl hin rfl (by decide +kernel) rfl rfl (Nat.le_of_ble_eq_true rfl) d_M_init_41 (fun H locs hP hD hS => ?_)
  have hP : va_P (dC, dI) vwCl [(a0, .inr (6, [.int (nI 0), .ref b1, .ref b2, .int (nI 0), .ref b4, .ref b5, .ref b6, .null, .null, .int (nI 0), .long (lN 0), .long (lN 0), .null, .null, .null, .null, .null])), (b1, .inl (cI, 13, .inl (fun j => nI (z0 j)))), (b2, .inl (cI, 13, .inl (fun j => nI (z0 j)))), (b4, .inl (cI, 6, .inl (fun j => nI (z0 j)))), (b5, .inl (cI, 6, .inl (fun j => nI (z0 j)))), (b6, .inl (cI, 6, .inl (fun j => nI (z0 j))))] H := hP
  have hD : va_D A [(a0, .inr (6, [.int (nI 0), .ref b1, .ref b2, .int (nI 0), .ref b4, .ref b5, .ref b6, .null, .null, .int (nI 0), .long (lN 0), .long (lN 0), .null, .null, .null, .null, .null])), (b1, .inl (cI, 13, .inl (fun j => nI (z0 j)))), (b2, .inl (cI, 13, .inl (fun j => nI (z0 j)))), (b4, .inl (cI, 6, .inl (fun j => nI (z0 j)))), (b5, .inl (cI, 6, .inl (fun j => nI (z0 j)))), (b6, .inl (cI, 6, .inl (fun j => nI (z0 j))))] := hD
  refine lv_aload_n hx hb d_M_init_44 rfl (lv_at hl 0 rfl) ?_
  refine lv_bipush (v := nI 6) hx hb d_M_init_45 (by decide) ?_
  refine nx_newI hx hb (hts _ k_50) hK hP hD hS hA (N := 6) (by decide) (Nat.le_of_ble_eq_true rfl) (Nat.le_of_ble_eq_true rfl) d_M_init_47 (fun b7 H hP hD hS => ?_)
  have hP : va_P (dC, dI) vwCl [(a0, .inr (6, [.int (nI 0), .ref b1, .ref b2, .int (nI 0), .ref b4, .ref b5, .ref b6, .null, .null, .int (nI 0), .long (lN 0), .long (lN 0), .null, .null, .null, .null, .null])), (b1, .inl (cI, 13, .inl (fun j => nI (z0 j)))), (b2, .inl (cI, 13, .inl (fun j => nI (z0 j)))), (b4, .inl (cI, 6, .inl (fun j => nI (z0 j)))), (b5, .inl (cI, 6, .inl (fun j => nI (z0 j)))), (b6, .inl (cI, 6, .inl (fun j => nI (z0 j)))), (b7, .inl (cI, 6, .inl (fun j => nI (z0 j))))] H := hP
  have hD : va_D A [(a0, .inr (6, [.int (nI 0), .ref b1, .ref b2, .int (nI 0), .ref b4, .ref b5, .ref b6, .null, .null, .int (nI 0), .long (lN 0), .long (lN 0), .null, .null, .null, .null, .null])), (b1, .inl (cI, 13, .inl (fun j => nI (z0 j)))), (b2, .inl (cI, 13, .inl (fun j => nI (z0 j)))), (b4, .inl (cI, 6, .inl (fun j => nI (z0 j)))), (b5, .inl (cI, 6, .inl (fun j => nI (z0 j)))), (b6, .inl (cI, 6, .inl (fun j => nI (z0 j)))), (b7, .inl (cI, 6, .inl (fun j => nI (z0 j))))] := hD
  refine W.widen (k := 6) (n := 50) (Nat.le_of_ble_eq_true rfl) (Nat.le_of_ble_eq_true rfl) ?_
  refine va_putF (D := (dC, dI)) (ci := 6) (v := .ref b7) (ty := (.array .int)) (C := R_M) (T := F_M) (N := 17) hx hb hts i_M ft_M ft_M_ok n_M hown hK hP hD hS 0 rfl rfl 7 (by decide) (hts _ k_484) (fun _ h9 => h9) rfl hin rfl (by decide +kernel) rfl rfl (Nat.le_of_ble_eq_true rfl) d_M_init_49 (fun H locs hP hD hS => ?_)
  have hP : va_P (dC, dI) vwCl [(a0, .inr (6, [.int (nI 0), .ref b1, .ref b2, .int (nI 0), .ref b4, .ref b5, .ref b6, .ref b7, .null, .int (nI 0), .long (lN 0), .long (lN 0), .null, .null, .null, .null, .null])), (b1, .inl (cI, 13, .inl (fun j => nI (z0 j)))), (b2, .inl (cI, 13, .inl (fun j => nI (z0 j)))), (b4, .inl (cI, 6, .inl (fun j => nI (z0 j)))), (b5, .inl (cI, 6, .inl (fun j => nI (z0 j)))), (b6, .inl (cI, 6, .inl (fun j => nI (z0 j)))), (b7, .inl (cI, 6, .inl (fun j => nI (z0 j))))] H := hP
  have hD : va_D A [(a0, .inr (6, [.int (nI 0), .ref b1, .ref b2, .int (nI 0), .ref b4, .ref b5, .ref b6, .ref b7, .null, .int (nI 0), .long (lN 0), .long (lN 0), .null, .null, .null, .null, .null])), (b1, .inl (cI, 13, .inl (fun j => nI (z0 j)))), (b2, .inl (cI, 13, .inl (fun j => nI (z0 j)))), (b4, .inl (cI, 6, .inl (fun j => nI (z0 j)))), (b5, .inl (cI, 6, .inl (fun j => nI (z0 j)))), (b6, .inl (cI, 6, .inl (fun j => nI (z0 j)))), (b7, .inl (cI, 6, .inl (fun j => nI (z0 j))))] := hD
  refine lv_aload_n hx hb d_M_init_52 rfl (lv_at hl 0 rfl) ?_
  refine lv_bipush (v := nI 6) hx hb d_M_init_53 (by decide) ?_
  refine nx_newI hx hb (hts _ k_50) hK hP hD hS hA (N := 6) (by decide) (Nat.le_of_ble_eq_true rfl) (Nat.le_of_ble_eq_true rfl) d_M_init_55 (fun b8 H hP hD hS => ?_)
  have hP : va_P (dC, dI) vwCl [(a0, .inr (6, [.int (nI 0), .ref b1, .ref b2, .int (nI 0), .ref b4, .ref b5, .ref b6, .ref b7, .null, .int (nI 0), .long (lN 0), .long (lN 0), .null, .null, .null, .null, .null])), (b1, .inl (cI, 13, .inl (fun j => nI (z0 j)))), (b2, .inl (cI, 13, .inl (fun j => nI (z0 j)))), (b4, .inl (cI, 6, .inl (fun j => nI (z0 j)))), (b5, .inl (cI, 6, .inl (fun j => nI (z0 j)))), (b6, .inl (cI, 6, .inl (fun j => nI (z0 j)))), (b7, .inl (cI, 6, .inl (fun j => nI (z0 j)))), (b8, .inl (cI, 6, .inl (fun j => nI (z0 j))))] H := hP
  have hD : va_D A [(a0, .inr (6, [.int (nI 0), .ref b1, .ref b2, .int (nI 0), .ref b4, .ref b5, .ref b6, .ref b7, .null, .int (nI 0), .long (lN 0), .long (lN 0), .null, .null, .null, .null, .null])), (b1, .inl (cI, 13, .inl (fun j => nI (z0 j)))), (b2, .inl (cI, 13, .inl (fun j => nI (z0 j)))), (b4, .inl (cI, 6, .inl (fun j => nI (z0 j)))), (b5, .inl (cI, 6, .inl (fun j => nI (z0 j)))), (b6, .inl (cI, 6, .inl (fun j => nI (z0 j)))), (b7, .inl (cI, 6, .inl (fun j => nI (z0 j)))), (b8, .inl (cI, 6, .inl (fun j => nI (z0 j))))] := hD
  refine W.widen (k := 7) (n := 56) (Nat.le_of_ble_eq_true rfl) (Nat.le_of_ble_eq_true rfl) ?_
  refine va_putF (D := (dC, dI)) (ci := 6) (v := .ref b8) (ty := (.array .int)) (C := R_M) (T := F_M) (N := 17) hx hb hts i_M ft_M ft_M_ok n_M hown hK hP hD hS 0 rfl rfl 8 (by decide) (hts _ k_485) (fun _ h9 => h9) rfl hin rfl (by decide +kernel) rfl rfl (Nat.le_of_ble_eq_true rfl) d_M_init_57 (fun H locs hP hD hS => ?_)
  have hP : va_P (dC, dI) vwCl [(a0, .inr (6, [.int (nI 0), .ref b1, .ref b2, .int (nI 0), .ref b4, .ref b5, .ref b6, .ref b7, .ref b8, .int (nI 0), .long (lN 0), .long (lN 0), .null, .null, .null, .null, .null])), (b1, .inl (cI, 13, .inl (fun j => nI (z0 j)))), (b2, .inl (cI, 13, .inl (fun j => nI (z0 j)))), (b4, .inl (cI, 6, .inl (fun j => nI (z0 j)))), (b5, .inl (cI, 6, .inl (fun j => nI (z0 j)))), (b6, .inl (cI, 6, .inl (fun j => nI (z0 j)))), (b7, .inl (cI, 6, .inl (fun j => nI (z0 j)))), (b8, .inl (cI, 6, .inl (fun j => nI (z0 j))))] H := hP
  have hD : va_D A [(a0, .inr (6, [.int (nI 0), .ref b1, .ref b2, .int (nI 0), .ref b4, .ref b5, .ref b6, .ref b7, .ref b8, .int (nI 0), .long (lN 0), .long (lN 0), .null, .null, .null, .null, .null])), (b1, .inl (cI, 13, .inl (fun j => nI (z0 j)))), (b2, .inl (cI, 13, .inl (fun j => nI (z0 j)))), (b4, .inl (cI, 6, .inl (fun j => nI (z0 j)))), (b5, .inl (cI, 6, .inl (fun j => nI (z0 j)))), (b6, .inl (cI, 6, .inl (fun j => nI (z0 j)))), (b7, .inl (cI, 6, .inl (fun j => nI (z0 j)))), (b8, .inl (cI, 6, .inl (fun j => nI (z0 j))))] := hD
  refine lv_aload_n hx hb d_M_init_60 rfl (lv_at hl 0 rfl) ?_
  refine lv_sipush (v := nI 169) hx hb d_M_init_61 (by decide) ?_
  refine nx_newL hx hb (hts _ k_104) hK hP hD hS hA (N := 169) (by decide) (Nat.le_of_ble_eq_true rfl) (Nat.le_of_ble_eq_true rfl) d_M_init_64 (fun b12 H hP hD hS => ?_)
  have hP : va_P (dC, dI) vwCl [(a0, .inr (6, [.int (nI 0), .ref b1, .ref b2, .int (nI 0), .ref b4, .ref b5, .ref b6, .ref b7, .ref b8, .int (nI 0), .long (lN 0), .long (lN 0), .null, .null, .null, .null, .null])), (b1, .inl (cI, 13, .inl (fun j => nI (z0 j)))), (b2, .inl (cI, 13, .inl (fun j => nI (z0 j)))), (b4, .inl (cI, 6, .inl (fun j => nI (z0 j)))), (b5, .inl (cI, 6, .inl (fun j => nI (z0 j)))), (b6, .inl (cI, 6, .inl (fun j => nI (z0 j)))), (b7, .inl (cI, 6, .inl (fun j => nI (z0 j)))), (b8, .inl (cI, 6, .inl (fun j => nI (z0 j)))), (b12, .inl (cL, 169, .inr (.inl (fun j => lN (z0 j)))))] H := hP
  have hD : va_D A [(a0, .inr (6, [.int (nI 0), .ref b1, .ref b2, .int (nI 0), .ref b4, .ref b5, .ref b6, .ref b7, .ref b8, .int (nI 0), .long (lN 0), .long (lN 0), .null, .null, .null, .null, .null])), (b1, .inl (cI, 13, .inl (fun j => nI (z0 j)))), (b2, .inl (cI, 13, .inl (fun j => nI (z0 j)))), (b4, .inl (cI, 6, .inl (fun j => nI (z0 j)))), (b5, .inl (cI, 6, .inl (fun j => nI (z0 j)))), (b6, .inl (cI, 6, .inl (fun j => nI (z0 j)))), (b7, .inl (cI, 6, .inl (fun j => nI (z0 j)))), (b8, .inl (cI, 6, .inl (fun j => nI (z0 j)))), (b12, .inl (cL, 169, .inr (.inl (fun j => lN (z0 j)))))] := hD
  refine W.widen (k := 8) (n := 225) (Nat.le_of_ble_eq_true rfl) (Nat.le_of_ble_eq_true rfl) ?_
  refine va_putF (D := (dC, dI)) (ci := 6) (v := .ref b12) (ty := (.array .long)) (C := R_M) (T := F_M) (N := 17) hx hb hts i_M ft_M ft_M_ok n_M hown hK hP hD hS 0 rfl rfl 12 (by decide) (hts _ k_489) (fun _ h9 => h9) rfl hin rfl (by decide +kernel) rfl rfl (Nat.le_of_ble_eq_true rfl) d_M_init_66 (fun H locs hP hD hS => ?_)
  have hP : va_P (dC, dI) vwCl [(a0, .inr (6, [.int (nI 0), .ref b1, .ref b2, .int (nI 0), .ref b4, .ref b5, .ref b6, .ref b7, .ref b8, .int (nI 0), .long (lN 0), .long (lN 0), .ref b12, .null, .null, .null, .null])), (b1, .inl (cI, 13, .inl (fun j => nI (z0 j)))), (b2, .inl (cI, 13, .inl (fun j => nI (z0 j)))), (b4, .inl (cI, 6, .inl (fun j => nI (z0 j)))), (b5, .inl (cI, 6, .inl (fun j => nI (z0 j)))), (b6, .inl (cI, 6, .inl (fun j => nI (z0 j)))), (b7, .inl (cI, 6, .inl (fun j => nI (z0 j)))), (b8, .inl (cI, 6, .inl (fun j => nI (z0 j)))), (b12, .inl (cL, 169, .inr (.inl (fun j => lN (z0 j)))))] H := hP
  have hD : va_D A [(a0, .inr (6, [.int (nI 0), .ref b1, .ref b2, .int (nI 0), .ref b4, .ref b5, .ref b6, .ref b7, .ref b8, .int (nI 0), .long (lN 0), .long (lN 0), .ref b12, .null, .null, .null, .null])), (b1, .inl (cI, 13, .inl (fun j => nI (z0 j)))), (b2, .inl (cI, 13, .inl (fun j => nI (z0 j)))), (b4, .inl (cI, 6, .inl (fun j => nI (z0 j)))), (b5, .inl (cI, 6, .inl (fun j => nI (z0 j)))), (b6, .inl (cI, 6, .inl (fun j => nI (z0 j)))), (b7, .inl (cI, 6, .inl (fun j => nI (z0 j)))), (b8, .inl (cI, 6, .inl (fun j => nI (z0 j)))), (b12, .inl (cL, 169, .inr (.inl (fun j => lN (z0 j)))))] := hD
  refine lv_aload_n hx hb d_M_init_69 rfl (lv_at hl 0 rfl) ?_
  refine lv_sipush (v := nI 169) hx hb d_M_init_70 (by decide) ?_
  refine nx_newL hx hb (hts _ k_104) hK hP hD hS hA (N := 169) (by decide) (Nat.le_of_ble_eq_true rfl) (Nat.le_of_ble_eq_true rfl) d_M_init_73 (fun b13 H hP hD hS => ?_)
  have hP : va_P (dC, dI) vwCl [(a0, .inr (6, [.int (nI 0), .ref b1, .ref b2, .int (nI 0), .ref b4, .ref b5, .ref b6, .ref b7, .ref b8, .int (nI 0), .long (lN 0), .long (lN 0), .ref b12, .null, .null, .null, .null])), (b1, .inl (cI, 13, .inl (fun j => nI (z0 j)))), (b2, .inl (cI, 13, .inl (fun j => nI (z0 j)))), (b4, .inl (cI, 6, .inl (fun j => nI (z0 j)))), (b5, .inl (cI, 6, .inl (fun j => nI (z0 j)))), (b6, .inl (cI, 6, .inl (fun j => nI (z0 j)))), (b7, .inl (cI, 6, .inl (fun j => nI (z0 j)))), (b8, .inl (cI, 6, .inl (fun j => nI (z0 j)))), (b12, .inl (cL, 169, .inr (.inl (fun j => lN (z0 j))))), (b13, .inl (cL, 169, .inr (.inl (fun j => lN (z0 j)))))] H := hP
  have hD : va_D A [(a0, .inr (6, [.int (nI 0), .ref b1, .ref b2, .int (nI 0), .ref b4, .ref b5, .ref b6, .ref b7, .ref b8, .int (nI 0), .long (lN 0), .long (lN 0), .ref b12, .null, .null, .null, .null])), (b1, .inl (cI, 13, .inl (fun j => nI (z0 j)))), (b2, .inl (cI, 13, .inl (fun j => nI (z0 j)))), (b4, .inl (cI, 6, .inl (fun j => nI (z0 j)))), (b5, .inl (cI, 6, .inl (fun j => nI (z0 j)))), (b6, .inl (cI, 6, .inl (fun j => nI (z0 j)))), (b7, .inl (cI, 6, .inl (fun j => nI (z0 j)))), (b8, .inl (cI, 6, .inl (fun j => nI (z0 j)))), (b12, .inl (cL, 169, .inr (.inl (fun j => lN (z0 j))))), (b13, .inl (cL, 169, .inr (.inl (fun j => lN (z0 j)))))] := hD
  refine W.widen (k := 9) (n := 394) (Nat.le_of_ble_eq_true rfl) (Nat.le_of_ble_eq_true rfl) ?_
  refine va_putF (D := (dC, dI)) (ci := 6) (v := .ref b13) (ty := (.array .long)) (C := R_M) (T := F_M) (N := 17) hx hb hts i_M ft_M ft_M_ok n_M hown hK hP hD hS 0 rfl rfl 13 (by decide) (hts _ k_490) (fun _ h9 => h9) rfl hin rfl (by decide +kernel) rfl rfl (Nat.le_of_ble_eq_true rfl) d_M_init_75 (fun H locs hP hD hS => ?_)
  have hP : va_P (dC, dI) vwCl [(a0, .inr (6, [.int (nI 0), .ref b1, .ref b2, .int (nI 0), .ref b4, .ref b5, .ref b6, .ref b7, .ref b8, .int (nI 0), .long (lN 0), .long (lN 0), .ref b12, .ref b13, .null, .null, .null])), (b1, .inl (cI, 13, .inl (fun j => nI (z0 j)))), (b2, .inl (cI, 13, .inl (fun j => nI (z0 j)))), (b4, .inl (cI, 6, .inl (fun j => nI (z0 j)))), (b5, .inl (cI, 6, .inl (fun j => nI (z0 j)))), (b6, .inl (cI, 6, .inl (fun j => nI (z0 j)))), (b7, .inl (cI, 6, .inl (fun j => nI (z0 j)))), (b8, .inl (cI, 6, .inl (fun j => nI (z0 j)))), (b12, .inl (cL, 169, .inr (.inl (fun j => lN (z0 j))))), (b13, .inl (cL, 169, .inr (.inl (fun j => lN (z0 j)))))] H := hP
  have hD : va_D A [(a0, .inr (6, [.int (nI 0), .ref b1, .ref b2, .int (nI 0), .ref b4, .ref b5, .ref b6, .ref b7, .ref b8, .int (nI 0), .long (lN 0), .long (lN 0), .ref b12, .ref b13, .null, .null, .null])), (b1, .inl (cI, 13, .inl (fun j => nI (z0 j)))), (b2, .inl (cI, 13, .inl (fun j => nI (z0 j)))), (b4, .inl (cI, 6, .inl (fun j => nI (z0 j)))), (b5, .inl (cI, 6, .inl (fun j => nI (z0 j)))), (b6, .inl (cI, 6, .inl (fun j => nI (z0 j)))), (b7, .inl (cI, 6, .inl (fun j => nI (z0 j)))), (b8, .inl (cI, 6, .inl (fun j => nI (z0 j)))), (b12, .inl (cL, 169, .inr (.inl (fun j => lN (z0 j))))), (b13, .inl (cL, 169, .inr (.inl (fun j => lN (z0 j)))))] := hD
  refine lv_aload_n hx hb d_M_init_78 rfl (lv_at hl 0 rfl) ?_
  refine lv_iconst (v := nI 4) hx hb d_M_init_79 (by decide) ?_
  refine nx_newI hx hb (hts _ k_50) hK hP hD hS hA (N := 4) (by decide) (Nat.le_of_ble_eq_true rfl) (Nat.le_of_ble_eq_true rfl) d_M_init_80 (fun b14 H hP hD hS => ?_)
  have hP : va_P (dC, dI) vwCl [(a0, .inr (6, [.int (nI 0), .ref b1, .ref b2, .int (nI 0), .ref b4, .ref b5, .ref b6, .ref b7, .ref b8, .int (nI 0), .long (lN 0), .long (lN 0), .ref b12, .ref b13, .null, .null, .null])), (b1, .inl (cI, 13, .inl (fun j => nI (z0 j)))), (b2, .inl (cI, 13, .inl (fun j => nI (z0 j)))), (b4, .inl (cI, 6, .inl (fun j => nI (z0 j)))), (b5, .inl (cI, 6, .inl (fun j => nI (z0 j)))), (b6, .inl (cI, 6, .inl (fun j => nI (z0 j)))), (b7, .inl (cI, 6, .inl (fun j => nI (z0 j)))), (b8, .inl (cI, 6, .inl (fun j => nI (z0 j)))), (b12, .inl (cL, 169, .inr (.inl (fun j => lN (z0 j))))), (b13, .inl (cL, 169, .inr (.inl (fun j => lN (z0 j))))), (b14, .inl (cI, 4, .inl (fun j => nI (z0 j))))] H := hP
  have hD : va_D A [(a0, .inr (6, [.int (nI 0), .ref b1, .ref b2, .int (nI 0), .ref b4, .ref b5, .ref b6, .ref b7, .ref b8, .int (nI 0), .long (lN 0), .long (lN 0), .ref b12, .ref b13, .null, .null, .null])), (b1, .inl (cI, 13, .inl (fun j => nI (z0 j)))), (b2, .inl (cI, 13, .inl (fun j => nI (z0 j)))), (b4, .inl (cI, 6, .inl (fun j => nI (z0 j)))), (b5, .inl (cI, 6, .inl (fun j => nI (z0 j)))), (b6, .inl (cI, 6, .inl (fun j => nI (z0 j)))), (b7, .inl (cI, 6, .inl (fun j => nI (z0 j)))), (b8, .inl (cI, 6, .inl (fun j => nI (z0 j)))), (b12, .inl (cL, 169, .inr (.inl (fun j => lN (z0 j))))), (b13, .inl (cL, 169, .inr (.inl (fun j => lN (z0 j))))), (b14, .inl (cI, 4, .inl (fun j => nI (z0 j))))] := hD
  refine W.widen (k := 10) (n := 398) (Nat.le_of_ble_eq_true rfl) (Nat.le_of_ble_eq_true rfl) ?_
  refine va_putF (D := (dC, dI)) (ci := 6) (v := .ref b14) (ty := (.array .int)) (C := R_M) (T := F_M) (N := 17) hx hb hts i_M ft_M ft_M_ok n_M hown hK hP hD hS 0 rfl rfl 14 (by decide) (hts _ k_491) (fun _ h9 => h9) rfl hin rfl (by decide +kernel) rfl rfl (Nat.le_of_ble_eq_true rfl) d_M_init_82 (fun H locs hP hD hS => ?_)
  have hP : va_P (dC, dI) vwCl [(a0, .inr (6, [.int (nI 0), .ref b1, .ref b2, .int (nI 0), .ref b4, .ref b5, .ref b6, .ref b7, .ref b8, .int (nI 0), .long (lN 0), .long (lN 0), .ref b12, .ref b13, .ref b14, .null, .null])), (b1, .inl (cI, 13, .inl (fun j => nI (z0 j)))), (b2, .inl (cI, 13, .inl (fun j => nI (z0 j)))), (b4, .inl (cI, 6, .inl (fun j => nI (z0 j)))), (b5, .inl (cI, 6, .inl (fun j => nI (z0 j)))), (b6, .inl (cI, 6, .inl (fun j => nI (z0 j)))), (b7, .inl (cI, 6, .inl (fun j => nI (z0 j)))), (b8, .inl (cI, 6, .inl (fun j => nI (z0 j)))), (b12, .inl (cL, 169, .inr (.inl (fun j => lN (z0 j))))), (b13, .inl (cL, 169, .inr (.inl (fun j => lN (z0 j))))), (b14, .inl (cI, 4, .inl (fun j => nI (z0 j))))] H := hP
  have hD : va_D A [(a0, .inr (6, [.int (nI 0), .ref b1, .ref b2, .int (nI 0), .ref b4, .ref b5, .ref b6, .ref b7, .ref b8, .int (nI 0), .long (lN 0), .long (lN 0), .ref b12, .ref b13, .ref b14, .null, .null])), (b1, .inl (cI, 13, .inl (fun j => nI (z0 j)))), (b2, .inl (cI, 13, .inl (fun j => nI (z0 j)))), (b4, .inl (cI, 6, .inl (fun j => nI (z0 j)))), (b5, .inl (cI, 6, .inl (fun j => nI (z0 j)))), (b6, .inl (cI, 6, .inl (fun j => nI (z0 j)))), (b7, .inl (cI, 6, .inl (fun j => nI (z0 j)))), (b8, .inl (cI, 6, .inl (fun j => nI (z0 j)))), (b12, .inl (cL, 169, .inr (.inl (fun j => lN (z0 j))))), (b13, .inl (cL, 169, .inr (.inl (fun j => lN (z0 j))))), (b14, .inl (cI, 4, .inl (fun j => nI (z0 j))))] := hD
  refine lv_aload_n hx hb d_M_init_85 rfl (lv_at hl 0 rfl) ?_
  refine lv_iconst (v := nI 4) hx hb d_M_init_86 (by decide) ?_
  refine nx_newI hx hb (hts _ k_50) hK hP hD hS hA (N := 4) (by decide) (Nat.le_of_ble_eq_true rfl) (Nat.le_of_ble_eq_true rfl) d_M_init_87 (fun b15 H hP hD hS => ?_)
  have hP : va_P (dC, dI) vwCl [(a0, .inr (6, [.int (nI 0), .ref b1, .ref b2, .int (nI 0), .ref b4, .ref b5, .ref b6, .ref b7, .ref b8, .int (nI 0), .long (lN 0), .long (lN 0), .ref b12, .ref b13, .ref b14, .null, .null])), (b1, .inl (cI, 13, .inl (fun j => nI (z0 j)))), (b2, .inl (cI, 13, .inl (fun j => nI (z0 j)))), (b4, .inl (cI, 6, .inl (fun j => nI (z0 j)))), (b5, .inl (cI, 6, .inl (fun j => nI (z0 j)))), (b6, .inl (cI, 6, .inl (fun j => nI (z0 j)))), (b7, .inl (cI, 6, .inl (fun j => nI (z0 j)))), (b8, .inl (cI, 6, .inl (fun j => nI (z0 j)))), (b12, .inl (cL, 169, .inr (.inl (fun j => lN (z0 j))))), (b13, .inl (cL, 169, .inr (.inl (fun j => lN (z0 j))))), (b14, .inl (cI, 4, .inl (fun j => nI (z0 j)))), (b15, .inl (cI, 4, .inl (fun j => nI (z0 j))))] H := hP
  have hD : va_D A [(a0, .inr (6, [.int (nI 0), .ref b1, .ref b2, .int (nI 0), .ref b4, .ref b5, .ref b6, .ref b7, .ref b8, .int (nI 0), .long (lN 0), .long (lN 0), .ref b12, .ref b13, .ref b14, .null, .null])), (b1, .inl (cI, 13, .inl (fun j => nI (z0 j)))), (b2, .inl (cI, 13, .inl (fun j => nI (z0 j)))), (b4, .inl (cI, 6, .inl (fun j => nI (z0 j)))), (b5, .inl (cI, 6, .inl (fun j => nI (z0 j)))), (b6, .inl (cI, 6, .inl (fun j => nI (z0 j)))), (b7, .inl (cI, 6, .inl (fun j => nI (z0 j)))), (b8, .inl (cI, 6, .inl (fun j => nI (z0 j)))), (b12, .inl (cL, 169, .inr (.inl (fun j => lN (z0 j))))), (b13, .inl (cL, 169, .inr (.inl (fun j => lN (z0 j))))), (b14, .inl (cI, 4, .inl (fun j => nI (z0 j)))), (b15, .inl (cI, 4, .inl (fun j => nI (z0 j))))] := hD
  refine W.widen (k := 11) (n := 402) (Nat.le_of_ble_eq_true rfl) (Nat.le_of_ble_eq_true rfl) ?_
  refine va_putF (D := (dC, dI)) (ci := 6) (v := .ref b15) (ty := (.array .int)) (C := R_M) (T := F_M) (N := 17) hx hb hts i_M ft_M ft_M_ok n_M hown hK hP hD hS 0 rfl rfl 15 (by decide) (hts _ k_492) (fun _ h9 => h9) rfl hin rfl (by decide +kernel) rfl rfl (Nat.le_of_ble_eq_true rfl) d_M_init_89 (fun H locs hP hD hS => ?_)
  have hP : va_P (dC, dI) vwCl [(a0, .inr (6, [.int (nI 0), .ref b1, .ref b2, .int (nI 0), .ref b4, .ref b5, .ref b6, .ref b7, .ref b8, .int (nI 0), .long (lN 0), .long (lN 0), .ref b12, .ref b13, .ref b14, .ref b15, .null])), (b1, .inl (cI, 13, .inl (fun j => nI (z0 j)))), (b2, .inl (cI, 13, .inl (fun j => nI (z0 j)))), (b4, .inl (cI, 6, .inl (fun j => nI (z0 j)))), (b5, .inl (cI, 6, .inl (fun j => nI (z0 j)))), (b6, .inl (cI, 6, .inl (fun j => nI (z0 j)))), (b7, .inl (cI, 6, .inl (fun j => nI (z0 j)))), (b8, .inl (cI, 6, .inl (fun j => nI (z0 j)))), (b12, .inl (cL, 169, .inr (.inl (fun j => lN (z0 j))))), (b13, .inl (cL, 169, .inr (.inl (fun j => lN (z0 j))))), (b14, .inl (cI, 4, .inl (fun j => nI (z0 j)))), (b15, .inl (cI, 4, .inl (fun j => nI (z0 j))))] H := hP
  have hD : va_D A [(a0, .inr (6, [.int (nI 0), .ref b1, .ref b2, .int (nI 0), .ref b4, .ref b5, .ref b6, .ref b7, .ref b8, .int (nI 0), .long (lN 0), .long (lN 0), .ref b12, .ref b13, .ref b14, .ref b15, .null])), (b1, .inl (cI, 13, .inl (fun j => nI (z0 j)))), (b2, .inl (cI, 13, .inl (fun j => nI (z0 j)))), (b4, .inl (cI, 6, .inl (fun j => nI (z0 j)))), (b5, .inl (cI, 6, .inl (fun j => nI (z0 j)))), (b6, .inl (cI, 6, .inl (fun j => nI (z0 j)))), (b7, .inl (cI, 6, .inl (fun j => nI (z0 j)))), (b8, .inl (cI, 6, .inl (fun j => nI (z0 j)))), (b12, .inl (cL, 169, .inr (.inl (fun j => lN (z0 j))))), (b13, .inl (cL, 169, .inr (.inl (fun j => lN (z0 j))))), (b14, .inl (cI, 4, .inl (fun j => nI (z0 j)))), (b15, .inl (cI, 4, .inl (fun j => nI (z0 j))))] := hD
  refine lv_aload_n hx hb d_M_init_92 rfl (lv_at hl 0 rfl) ?_
  refine lv_bipush (v := nI 13) hx hb d_M_init_93 (by decide) ?_
  refine nx_newI hx hb (hts _ k_50) hK hP hD hS hA (N := 13) (by decide) (Nat.le_of_ble_eq_true rfl) (Nat.le_of_ble_eq_true rfl) d_M_init_95 (fun b16 H hP hD hS => ?_)
  have hP : va_P (dC, dI) vwCl [(a0, .inr (6, [.int (nI 0), .ref b1, .ref b2, .int (nI 0), .ref b4, .ref b5, .ref b6, .ref b7, .ref b8, .int (nI 0), .long (lN 0), .long (lN 0), .ref b12, .ref b13, .ref b14, .ref b15, .null])), (b1, .inl (cI, 13, .inl (fun j => nI (z0 j)))), (b2, .inl (cI, 13, .inl (fun j => nI (z0 j)))), (b4, .inl (cI, 6, .inl (fun j => nI (z0 j)))), (b5, .inl (cI, 6, .inl (fun j => nI (z0 j)))), (b6, .inl (cI, 6, .inl (fun j => nI (z0 j)))), (b7, .inl (cI, 6, .inl (fun j => nI (z0 j)))), (b8, .inl (cI, 6, .inl (fun j => nI (z0 j)))), (b12, .inl (cL, 169, .inr (.inl (fun j => lN (z0 j))))), (b13, .inl (cL, 169, .inr (.inl (fun j => lN (z0 j))))), (b14, .inl (cI, 4, .inl (fun j => nI (z0 j)))), (b15, .inl (cI, 4, .inl (fun j => nI (z0 j)))), (b16, .inl (cI, 13, .inl (fun j => nI (z0 j))))] H := hP
  have hD : va_D A [(a0, .inr (6, [.int (nI 0), .ref b1, .ref b2, .int (nI 0), .ref b4, .ref b5, .ref b6, .ref b7, .ref b8, .int (nI 0), .long (lN 0), .long (lN 0), .ref b12, .ref b13, .ref b14, .ref b15, .null])), (b1, .inl (cI, 13, .inl (fun j => nI (z0 j)))), (b2, .inl (cI, 13, .inl (fun j => nI (z0 j)))), (b4, .inl (cI, 6, .inl (fun j => nI (z0 j)))), (b5, .inl (cI, 6, .inl (fun j => nI (z0 j)))), (b6, .inl (cI, 6, .inl (fun j => nI (z0 j)))), (b7, .inl (cI, 6, .inl (fun j => nI (z0 j)))), (b8, .inl (cI, 6, .inl (fun j => nI (z0 j)))), (b12, .inl (cL, 169, .inr (.inl (fun j => lN (z0 j))))), (b13, .inl (cL, 169, .inr (.inl (fun j => lN (z0 j))))), (b14, .inl (cI, 4, .inl (fun j => nI (z0 j)))), (b15, .inl (cI, 4, .inl (fun j => nI (z0 j)))), (b16, .inl (cI, 13, .inl (fun j => nI (z0 j))))] := hD
  refine W.widen (k := 12) (n := 415) (Nat.le_of_ble_eq_true rfl) (Nat.le_of_ble_eq_true rfl) ?_
  refine va_putF (D := (dC, dI)) (ci := 6) (v := .ref b16) (ty := (.array .int)) (C := R_M) (T := F_M) (N := 17) hx hb hts i_M ft_M ft_M_ok n_M hown hK hP hD hS 0 rfl rfl 16 (by decide) (hts _ k_493) (fun _ h9 => h9) rfl hin rfl (by decide +kernel) rfl rfl (Nat.le_of_ble_eq_true rfl) d_M_init_97 (fun H locs hP hD hS => ?_)
  have hP : va_P (dC, dI) vwCl [(a0, .inr (6, [.int (nI 0), .ref b1, .ref b2, .int (nI 0), .ref b4, .ref b5, .ref b6, .ref b7, .ref b8, .int (nI 0), .long (lN 0), .long (lN 0), .ref b12, .ref b13, .ref b14, .ref b15, .ref b16])), (b1, .inl (cI, 13, .inl (fun j => nI (z0 j)))), (b2, .inl (cI, 13, .inl (fun j => nI (z0 j)))), (b4, .inl (cI, 6, .inl (fun j => nI (z0 j)))), (b5, .inl (cI, 6, .inl (fun j => nI (z0 j)))), (b6, .inl (cI, 6, .inl (fun j => nI (z0 j)))), (b7, .inl (cI, 6, .inl (fun j => nI (z0 j)))), (b8, .inl (cI, 6, .inl (fun j => nI (z0 j)))), (b12, .inl (cL, 169, .inr (.inl (fun j => lN (z0 j))))), (b13, .inl (cL, 169, .inr (.inl (fun j => lN (z0 j))))), (b14, .inl (cI, 4, .inl (fun j => nI (z0 j)))), (b15, .inl (cI, 4, .inl (fun j => nI (z0 j)))), (b16, .inl (cI, 13, .inl (fun j => nI (z0 j))))] H := hP
  have hD : va_D A [(a0, .inr (6, [.int (nI 0), .ref b1, .ref b2, .int (nI 0), .ref b4, .ref b5, .ref b6, .ref b7, .ref b8, .int (nI 0), .long (lN 0), .long (lN 0), .ref b12, .ref b13, .ref b14, .ref b15, .ref b16])), (b1, .inl (cI, 13, .inl (fun j => nI (z0 j)))), (b2, .inl (cI, 13, .inl (fun j => nI (z0 j)))), (b4, .inl (cI, 6, .inl (fun j => nI (z0 j)))), (b5, .inl (cI, 6, .inl (fun j => nI (z0 j)))), (b6, .inl (cI, 6, .inl (fun j => nI (z0 j)))), (b7, .inl (cI, 6, .inl (fun j => nI (z0 j)))), (b8, .inl (cI, 6, .inl (fun j => nI (z0 j)))), (b12, .inl (cL, 169, .inr (.inl (fun j => lN (z0 j))))), (b13, .inl (cL, 169, .inr (.inl (fun j => lN (z0 j))))), (b14, .inl (cI, 4, .inl (fun j => nI (z0 j)))), (b15, .inl (cI, 4, .inl (fun j => nI (z0 j)))), (b16, .inl (cI, 13, .inl (fun j => nI (z0 j))))] := hD
  exact W.vret hx hb hr (fun t ht hW => ⟨⟨(fun i => ([a0, b1, b2, 0, b4, b5, b6, b7, b8, 0, 0, 0, b12, b13, b14, b15, b16] : List Nat).getD i 0), rfl, rfl, by rw [ht]; exact hP, hD⟩, hS.F ht⟩) hS.2.2 d_M_init_100
set_option maxHeartbeats 4000000 in
set_option maxRecDepth 100000 in
theorem c_T_type (l : Launch) {dC : Nat → ClassId} {dI : Nat → Nat → Nat} {cI cL cT : ClassId} {sa : Nat → Nat} (sz : Nat) (g ca : Nat → Nat) (nt : Nat) (a0 a1 a2 a3 a4 : Nat) (ha0 : 1 ≤ a0 ∧ a0 ≤ 5) (ha1 : 1 ≤ a1 ∧ a1 ≤ 100) (ha2 : 0 ≤ a2 ∧ a2 ≤ 30) (ha3 : 0 ≤ a3 ∧ a3 ≤ 10) (ha4 : 1 ≤ a4 ∧ a4 ≤ 100000) (hgood : nt < 6) : Met l y_T_type (Cond.code y_T_type b_T_type 7 (some .int) :: gw) ({ frames := 2, cells := 1, slots := 5, locals := 100 } : Room) (wr dC dI cI cL cT sa [.ref (g 0), .int (nI a0), .int (nI a1), .int (nI a2), .int (nI a3), .int (nI a4)] [(g 0, .inr (5, [.ref (g 1), .ref (g 4), .int (nI nt), .ref (g 5), .ref (g 6), .ref (g 11)])), (g 4, .inl (cT, 6, .inr (.inr (.inr (.inr (tq ca nt))))))] sz) (va_Qi (fun r (u : Nat) => r = nI nt) (fun (u : Nat) => wB dC dI [(g 0, .inr (5, [.ref (g 1), .ref (g 4), .int (nI nt), .ref (g 5), .ref (g 6), .ref (g 11)])), (g 4, .inl (cT, 6, .inr (.inr (.inr (.inr (tq ca nt))))))] [(g 0, .inr (5, [.ref (g 1), .ref (g 4), .int (nI (nt + 1)), .ref (g 5), .ref (g 6), .ref (g 11)])), (g 4, .inl (cT, 6, .inr (.inr (.inr (.inr (tq (up ca nt u) (nt + 1))))))), (u, .inr (1, [.int (nI a0), .int (nI a1), .int (nI a2), .int (nI a3), .int (nI a4)]))] sz ()) (va_A [(g 0, .inr (5, [.ref (g 1), .ref (g 4), .int (nI nt), .ref (g 5), .ref (g 6), .ref (g 11)])), (g 4, .inl (cT, 6, .inr (.inr (.inr (.inr (tq ca nt))))))] sz)) 1 5 (va_A [(g 0, .inr (5, [.ref (g 1), .ref (g 4), .int (nI nt), .ref (g 5), .ref (g 6), .ref (g 11)])), (g 4, .inl (cT, 6, .inr (.inr (.inr (.inr (tq ca nt))))))] sz) := by
  refine Met.ofW (cc := b_T_type) (maxL := 7) (ret := (some .int)) (by decide) rfl ?_
  intro p e s m args below meth c s₁ B hml hv
  obtain ⟨rfl, hsz, hC, hP, hD0⟩ := hv
  have hx := B.exec
  have hb := B.bytes
  have hr := B.returns
  have hts : ∀ w ∈ gw, w.before ([.ref (g 0), .int (nI a0), .int (nI a1), .int (nI a2), .int (nI a3), .int (nI a4)] : List Value).toArray s = true := fun w hw => atoms_spec (ws := Cond.code y_T_type b_T_type 7 (some .int) :: gw) B.pre w (List.mem_cons_of_mem _ hw)
  have hown : s.vm.findClass R_T = some m.cls := findClass_of_methodNamed B.named
  have hlocks := B.notSynchronized
  have hK := hC.1
  have hfr : 2 ≤ (headSpec (Cond.code y_T_type b_T_type 7 (some .int) :: gw) ({ frames := 2, cells := 1, slots := 5, locals := 100 } : Room)).room.frames := Nat.le_refl _
  have hlo : 100 ≤ (headSpec (Cond.code y_T_type b_T_type 7 (some .int) :: gw) ({ frames := 2, cells := 1, slots := 5, locals := 100 } : Room)).room.locals := Nat.le_refl _
  have hce : 0 ≤ (headSpec (Cond.code y_T_type b_T_type 7 (some .int) :: gw) ({ frames := 2, cells := 1, slots := 5, locals := 100 } : Room)).room.cells := Nat.zero_le _
  have hsl : 0 ≤ (headSpec (Cond.code y_T_type b_T_type 7 (some .int) :: gw) ({ frames := 2, cells := 1, slots := 5, locals := 100 } : Room)).room.slots := Nat.zero_le _
  subst hsz
  have hD := hD0.self (sz := s.heap.size)
  unfold wB
  generalize hAe : va_A [(g 0, .inr (5, [.ref (g 1), .ref (g 4), .int (nI nt), .ref (g 5), .ref (g 6), .ref (g 11)])), (g 4, .inl (cT, 6, .inr (.inr (.inr (.inr (tq ca nt))))))] s.heap.size = A at hD ⊢
  have hA : ∀ q : Nat, s.heap.size ≤ q → A q := fun q h => by rw [← hAe]; exact Or.inr h
  have hS : va_S A s.heap s.heap [] := va_S.rf
  have hl := lv_entry ([.ref (g 0), .int (nI a0), .int (nI a1), .int (nI a2), .int (nI a3), .int (nI a4)]) (n := 7) (Nat.le_of_ble_eq_true rfl)
  rw [lg_entry_eq]
  generalize (lg_sl ([.ref (g 0), .int (nI a0), .int (nI a1), .int (nI a2), .int (nI a3), .int (nI a4)]) ++ List.replicate (7 - (lg_sl ([.ref (g 0), .int (nI a0), .int (nI a1), .int (nI a2), .int (nI a3), .int (nI a4)])).length) Slot.unset).toArray = ls at hl ⊢
  have hl : lv_has ls 7 [(0, .ref (g 0)), (1, .int (nI a0)), (2, .int (nI a1)), (3, .int (nI a2)), (4, .int (nI a3)), (5, .int (nI a4))] := hl
  refine lv_iload_n hx hb d_T_type_0 rfl (lv_at hl 1 rfl) ?_
  refine lv_iconst (v := nI 1) hx hb d_T_type_1 (by decide) ?_
  refine lv_iconst (v := nI 5) hx hb d_T_type_2 (by decide) ?_
  refine ro_callv (va_runS (As := [.int (nI a0), .int (nI 1), .int (nI 5)]) (rest := []) ⟨hx, hb, hml, hown, hts⟩ (c_T_requireWithin l (nI a0) (nI 1) (nI 5) 1 5 (nI_toInt (by decide)) (nI_toInt (by decide)) (by rw [nI_toInt (by omega)]; omega)) (cwS 3 hts (gw_S k_150 k_148 k_149 k_1) rfl rfl rfl (by decide +kernel) ⟨Nat.le_trans (Nat.le_of_ble_eq_true rfl) hfr, Nat.le_trans (Nat.le_of_ble_eq_true rfl) hlo⟩) ⟨pr_blind, pr_at hC (fun k q h => by simp at h)⟩ rfl rfl hl.1 rfl (lv_room (Nat.le_of_ble_eq_true rfl)) d_T_type_3 ⟨hce, hsl⟩) ?_
  refine lv_iload_n hx hb d_T_type_6 rfl (lv_at hl 2 rfl) ?_
  refine lv_iconst (v := nI 1) hx hb d_T_type_7 (by decide) ?_
  refine lv_bipush (v := nI 100) hx hb d_T_type_8 (by decide) ?_
  refine ro_callv (va_runS (As := [.int (nI a1), .int (nI 1), .int (nI 100)]) (rest := []) ⟨hx, hb, hml, hown, hts⟩ (c_T_requireWithin l (nI a1) (nI 1) (nI 100) 1 100 (nI_toInt (by decide)) (nI_toInt (by decide)) (by rw [nI_toInt (by omega)]; omega)) (cwS 3 hts (gw_S k_150 k_148 k_149 k_1) rfl rfl rfl (by decide +kernel) ⟨Nat.le_trans (Nat.le_of_ble_eq_true rfl) hfr, Nat.le_trans (Nat.le_of_ble_eq_true rfl) hlo⟩) ⟨pr_blind, pr_at hC (fun k q h => by simp at h)⟩ rfl rfl hl.1 rfl (lv_room (Nat.le_of_ble_eq_true rfl)) d_T_type_10 ⟨hce, hsl⟩) ?_
  refine lv_iload_n hx hb d_T_type_13 rfl (lv_at hl 3 rfl) ?_
  refine lv_iconst (v := nI 0) hx hb d_T_type_14 (by decide) ?_
  refine lv_bipush (v := nI 30) hx hb d_T_type_15 (by decide) ?_
  refine ro_callv (va_runS (As := [.int (nI a2), .int (nI 0), .int (nI 30)]) (rest := []) ⟨hx, hb, hml, hown, hts⟩ (c_T_requireWithin l (nI a2) (nI 0) (nI 30) 0 30 (nI_toInt (by decide)) (nI_toInt (by decide)) (by rw [nI_toInt (by omega)]; omega)) (cwS 3 hts (gw_S k_150 k_148 k_149 k_1) rfl rfl rfl (by decide +kernel) ⟨Nat.le_trans (Nat.le_of_ble_eq_true rfl) hfr, Nat.le_trans (Nat.le_of_ble_eq_true rfl) hlo⟩) ⟨pr_blind, pr_at hC (fun k q h => by simp at h)⟩ rfl rfl hl.1 rfl (lv_room (Nat.le_of_ble_eq_true rfl)) d_T_type_17 ⟨hce, hsl⟩) ?_
  refine lv_iload hx hb d_T_type_20 (lv_at hl 4 rfl) ?_
  refine lv_iconst (v := nI 0) hx hb d_T_type_22 (by decide) ?_
  refine lv_bipush (v := nI 10) hx hb d_T_type_23 (by decide) ?_
  refine ro_callv (va_runS (As := [.int (nI a3), .int (nI 0), .int (nI 10)]) (rest := []) ⟨hx, hb, hml, hown, hts⟩ (c_T_requireWithin l (nI a3) (nI 0) (nI 10) 0 10 (nI_toInt (by decide)) (nI_toInt (by decide)) (by rw [nI_toInt (by omega)]; omega)) (cwS 3 hts (gw_S k_150 k_148 k_149 k_1) rfl rfl rfl (by decide +kernel) ⟨Nat.le_trans (Nat.le_of_ble_eq_true rfl) hfr, Nat.le_trans (Nat.le_of_ble_eq_true rfl) hlo⟩) ⟨pr_blind, pr_at hC (fun k q h => by simp at h)⟩ rfl rfl hl.1 rfl (lv_room (Nat.le_of_ble_eq_true rfl)) d_T_type_25 ⟨hce, hsl⟩) ?_
  refine lv_iload hx hb d_T_type_28 (lv_at hl 5 rfl) ?_
  refine lv_iconst (v := nI 1) hx hb d_T_type_30 (by decide) ?_
  refine lv_ldc (v := nI 100000) hx hb hown (hts _ k_261) d_T_type_31 ?_
  refine ro_callv (va_runS (As := [.int (nI a4), .int (nI 1), .int (nI 100000)]) (rest := []) ⟨hx, hb, hml, hown, hts⟩ (c_T_requireWithin l (nI a4) (nI 1) (nI 100000) 1 100000 (nI_toInt (by decide)) (nI_toInt (by decide)) (by rw [nI_toInt (by omega)]; omega)) (cwS 3 hts (gw_S k_150 k_148 k_149 k_1) rfl rfl rfl (by decide +kernel) ⟨Nat.le_trans (Nat.le_of_ble_eq_true rfl) hfr, Nat.le_trans (Nat.le_of_ble_eq_true rfl) hlo⟩) ⟨pr_blind, pr_at hC (fun k q h => by simp at h)⟩ rfl rfl hl.1 rfl (lv_room (Nat.le_of_ble_eq_true rfl)) d_T_type_33 ⟨hce, hsl⟩) ?_
  refine lv_aload_n hx hb d_T_type_36 rfl (lv_at hl 0 rfl) ?_
  refine va_get (D := (dC, dI)) (ci := 5) (v := .int (nI nt)) (C := R_T) (T := F_T) (N := 6) hx hb hts i_T hown hK hP 0 rfl rfl 2 (by decide) (hts _ k_122) (fun _ h9 => h9) rfl d_T_type_37 ?_
  refine lv_istore (lv' := [(6, .int (nI nt)), (0, .ref (g 0)), (1, .int (nI a0)), (2, .int (nI a1)), (3, .int (nI a2)), (4, .int (nI a3)), (5, .int (nI a4))]) hx hb d_T_type_40 hl (by decide) rfl (fun ls hl => ?_)
  refine lv_iload hx hb d_T_type_42 (lv_at hl 0 rfl) ?_
  refine lv_bipush (v := nI 6) hx hb d_T_type_44 (by decide) ?_
  refine nx_icmp_lt (tgt := 59) hx hb d_T_type_46 (by decide) (by omega) (by omega) (fun h1 => ?_) (fun h1 => ?_)
  · refine lv_aload_n hx hb d_T_type_59 rfl (lv_at hl 1 rfl) ?_
    refine va_get (D := (dC, dI)) (ci := 5) (v := .ref (g 4)) (C := R_T) (T := F_T) (N := 6) hx hb hts i_T hown hK hP 0 rfl rfl 1 (by decide) (hts _ k_121) (fun _ h9 => h9) rfl d_T_type_60 ?_
    refine lv_iload hx hb d_T_type_63 (lv_at hl 0 rfl) ?_
    refine va_new (ci := 1) (fs := [.int (nI 0), .int (nI 0), .int (nI 0), .int (nI 0), .int (nI 0)]) (C := R_C) (T := F_C) (N := 5) hx hb hts i_C ft_C ft_C_ok hown (hts _ k_51) (hts _ k_263) (hts _ k_12) hK hP hD hS hA rfl (fun j hj => by rcases (show j = 0 ∨ j = 1 ∨ j = 2 ∨ j = 3 ∨ j = 4 by omega) with rfl | rfl | rfl | rfl | rfl <;> rfl) (Nat.le_of_ble_eq_true rfl) (Nat.le_of_ble_eq_true rfl) d_T_type_65 (fun b1 H hP hD hS => ?_)
    have hP : va_P (dC, dI) vwCl [(g 0, .inr (5, [.ref (g 1), .ref (g 4), .int (nI nt), .ref (g 5), .ref (g 6), .ref (g 11)])), (g 4, .inl (cT, 6, .inr (.inr (.inr (.inr (tq ca nt)))))), (b1, .inr (1, [.int (nI 0), .int (nI 0), .int (nI 0), .int (nI 0), .int (nI 0)]))] H := hP
    have hD : va_D A [(g 0, .inr (5, [.ref (g 1), .ref (g 4), .int (nI nt), .ref (g 5), .ref (g 6), .ref (g 11)])), (g 4, .inl (cT, 6, .inr (.inr (.inr (.inr (tq ca nt)))))), (b1, .inr (1, [.int (nI 0), .int (nI 0), .int (nI 0), .int (nI 0), .int (nI 0)]))] := hD
    refine W.widen (k := 1) (n := 5) (Nat.le_of_ble_eq_true rfl) (Nat.le_of_ble_eq_true rfl) ?_
    refine lv_dup hx hb d_T_type_68 rfl ?_
    refine lv_iload_n hx hb d_T_type_69 rfl (lv_at hl 2 rfl) ?_
    refine lv_iload_n hx hb d_T_type_70 rfl (lv_at hl 3 rfl) ?_
    refine lv_iload_n hx hb d_T_type_71 rfl (lv_at hl 4 rfl) ?_
    refine lv_iload hx hb d_T_type_72 (lv_at hl 5 rfl) ?_
    refine lv_iload hx hb d_T_type_74 (lv_at hl 6 rfl) ?_
    have hPc := hP.sub (ws' := [(b1, .inr (1, [.int (nI 0), .int (nI 0), .int (nI 0), .int (nI 0), .int (nI 0)]))]) [2] rfl
    have hDc := hD.sub (ws' := [(b1, .inr (1, [.int (nI 0), .int (nI 0), .int (nI 0), .int (nI 0), .int (nI 0)]))]) [2] (by decide) rfl
    have hFc := va_free (wc := [(b1, .inr (1, [.int (nI 0), .int (nI 0), .int (nI 0), .int (nI 0), .int (nI 0)]))]) hD hS hA [2] rfl
    refine va_callv (va_runI (As := [.int (nI a0), .int (nI a1), .int (nI a2), .int (nI a3), .int (nI a4)]) (rest := [.ref b1, .int (nI nt), .ref (g 4)]) ⟨hx, hb, hml, hown, hts⟩ (c_C_init l _ b1 a0 a1 a2 a3 a4) (cwI 5 hts (gw_code k_266) rfl rfl rfl (hts _ k_12) (hts _ k_264) (hts _ k_265) rfl (by decide +kernel) ⟨Nat.le_trans (Nat.le_of_ble_eq_true rfl) hfr, Nat.le_trans (Nat.le_of_ble_eq_true rfl) hlo⟩) ⟨wr_blind, wr_at hC hPc hDc⟩ rfl rfl hl.1 rfl (lv_room (Nat.le_of_ble_eq_true rfl)) d_T_type_76 ⟨Nat.le_of_ble_eq_true rfl, Nat.le_of_ble_eq_true rfl⟩) hS (fun q _ h => hFc q h) hFc (fun u t H1 locs ht hvm hw hB hz1 hk1 hS => ?_)
    obtain ⟨hP1, hD1⟩ := hB
    rw [ht] at hP1
    obtain ⟨hP, hD⟩ := va_join (wr := [(g 0, .inr (5, [.ref (g 1), .ref (g 4), .int (nI nt), .ref (g 5), .ref (g 6), .ref (g 11)])), (g 4, .inl (cT, 6, .inr (.inr (.inr (.inr (tq ca nt))))))]) (w1 := [(b1, .inr (1, [.int (nI a0), .int (nI a1), .int (nI a2), .int (nI a3), .int (nI a4)]))]) hP hD [2] [0, 1] rfl rfl (by decide) (by decide) hk1 hFc hP1 hD1
    generalize H1 = H at hP hS ⊢
    have hP : va_P (dC, dI) vwCl [(g 0, .inr (5, [.ref (g 1), .ref (g 4), .int (nI nt), .ref (g 5), .ref (g 6), .ref (g 11)])), (g 4, .inl (cT, 6, .inr (.inr (.inr (.inr (tq ca nt)))))), (b1, .inr (1, [.int (nI a0), .int (nI a1), .int (nI a2), .int (nI a3), .int (nI a4)]))] H := hP
    have hD : va_D A [(g 0, .inr (5, [.ref (g 1), .ref (g 4), .int (nI nt), .ref (g 5), .ref (g 6), .ref (g 11)])), (g 4, .inl (cT, 6, .inr (.inr (.inr (.inr (tq ca nt)))))), (b1, .inr (1, [.int (nI a0), .int (nI a1), .int (nI a2), .int (nI a3), .int (nI a4)]))] := hD
    refine W.widen (k := 1) (n := 5) (Nat.le_of_ble_eq_true rfl) (Nat.le_of_ble_eq_true rfl) ?_
    refine va_astq hx hb hK hP hD hS 1 2 2 1 rfl rfl rfl rfl (vp_in_nI (by omega) (by decide)) d_T_type_79 (fun H locs hP hD hS => ?_)
    rw [tq_up hgood] at hP hD
    have hP : va_P (dC, dI) vwCl [(g 0, .inr (5, [.ref (g 1), .ref (g 4), .int (nI nt), .ref (g 5), .ref (g 6), .ref (g 11)])), (g 4, .inl (cT, 6, .inr (.inr (.inr (.inr (tq (up ca nt b1) (nt + 1))))))), (b1, .inr (1, [.int (nI a0), .int (nI a1), .int (nI a2), .int (nI a3), .int (nI a4)]))] H := hP
    have hD : va_D A [(g 0, .inr (5, [.ref (g 1), .ref (g 4), .int (nI nt), .ref (g 5), .ref (g 6), .ref (g 11)])), (g 4, .inl (cT, 6, .inr (.inr (.inr (.inr (tq (up ca nt b1) (nt + 1))))))), (b1, .inr (1, [.int (nI a0), .int (nI a1), .int (nI a2), .int (nI a3), .int (nI a4)]))] := hD
    refine lv_aload_n hx hb d_T_type_80 rfl (lv_at hl 1 rfl) ?_
    refine lv_iload hx hb d_T_type_81 (lv_at hl 0 rfl) ?_
    refine lv_iconst (v := nI 1) hx hb d_T_type_83 (by decide) ?_
    refine nx_iadd hx hb d_T_type_84 ?_
    refine va_put (D := (dC, dI)) (ci := 5) (v := .int (nI (nt + 1))) (ty := (.int)) (C := R_T) (T := F_T) (N := 6) hx hb hts i_T ft_T ft_T_ok n_T hown hK hP hD hS 0 rfl rfl 2 (by decide) (hts _ k_122) (fun _ h9 => h9) rfl (by decide +kernel) rfl rfl (Nat.le_of_ble_eq_true rfl) d_T_type_85 (fun H locs hP hD hS => ?_)
    have hP : va_P (dC, dI) vwCl [(g 0, .inr (5, [.ref (g 1), .ref (g 4), .int (nI (nt + 1)), .ref (g 5), .ref (g 6), .ref (g 11)])), (g 4, .inl (cT, 6, .inr (.inr (.inr (.inr (tq (up ca nt b1) (nt + 1))))))), (b1, .inr (1, [.int (nI a0), .int (nI a1), .int (nI a2), .int (nI a3), .int (nI a4)]))] H := hP
    have hD : va_D A [(g 0, .inr (5, [.ref (g 1), .ref (g 4), .int (nI (nt + 1)), .ref (g 5), .ref (g 6), .ref (g 11)])), (g 4, .inl (cT, 6, .inr (.inr (.inr (.inr (tq (up ca nt b1) (nt + 1))))))), (b1, .inr (1, [.int (nI a0), .int (nI a1), .int (nI a2), .int (nI a3), .int (nI a4)]))] := hD
    refine lv_iload hx hb d_T_type_88 (lv_at hl 0 rfl) ?_
    exact W.iret hx hb hr (fun t ht hW => ⟨⟨_, b1, rfl, rfl, by rw [ht]; exact hP, hD⟩, hS.F ht⟩) hS.2.2 d_T_type_90
  · exact absurd h1 (by omega)
