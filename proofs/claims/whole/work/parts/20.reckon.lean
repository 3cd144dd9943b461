section
variable {p : Program} {l : Launch} {e : Env} {R : Room} {s : State} {m : MethodId} {args : Array Value} {below : List Frame} {meth : Method} {c : Code} {H : Heap} {locs : List Loc} {cells slots : Nat} {Q : State → Prop}
set_option maxHeartbeats 4000000 in
set_option maxRecDepth 100000 in
theorem l_M_lowest (hF : CallFix p m c b_M_lowest 11 s args gw R_M) {q : Nat → Nat} {a0 b0 X : Nat} (k31 : ∀ ls : Array Slot, lv_has ls 11 [(0, .ref (q 0)), (1, .long (lN a0)), (3, .long (lN b0)), (5, .long (lN X))] → W p l e R s m args below meth c H locs cells slots Q (F0 m 31 ls [])) : ∀ (n a b : Nat), b < n → a < 2 ^ 63 → b < 2 ^ 63 → Nat.gcd a b = X → ∀ ls : Array Slot, lv_has ls 11 [(0, .ref (q 0)), (1, .long (lN a0)), (3, .long (lN b0)), (5, .long (lN a)), (7, .long (lN b))] → W p l e R s m args below meth c H locs cells slots Q (F0 m 6 ls []) := by
  obtain ⟨hx, hb, hml, hown, hts⟩ := id hF
  intro n
  induction n with
  | zero => intro a b hn; omega
  | succ n ih =>
    intro a b hn ha6 hb6 hX ls hl
    refine lv_lload hx hb d_M_lowest_6 (lv_at hl 4 rfl) ?_
    refine lv_lconst (v := lN 0) hx hb d_M_lowest_8 (by decide) ?_
    refine nx_lcn_eq (tgt := 31) hx hb d_M_lowest_9 d_M_lowest_10 (by decide) hb6 (by decide) (fun h1 => ?_) (fun h1 => ?_)
    · subst h1
      rw [Nat.gcd_zero_right] at hX
      subst hX
      exact k31 ls (lv_sub hl [0, 1, 2, 3] rfl)
    · refine lv_lload hx hb d_M_lowest_13 (lv_at hl 3 rfl) ?_
      refine lv_lload hx hb d_M_lowest_15 (lv_at hl 4 rfl) ?_
      refine nx_lrem hx hb d_M_lowest_17 ha6 (Nat.pos_of_ne_zero h1) hb6 ?_
      refine lv_lstore (lv' := [(9, .long (lN (a % b))), (0, .ref (q 0)), (1, .long (lN a0)), (3, .long (lN b0)), (5, .long (lN a)), (7, .long (lN b))]) hx hb d_M_lowest_18 hl (by decide) rfl (fun ls hl => ?_)
      refine lv_lload hx hb d_M_lowest_20 (lv_at hl 5 rfl) ?_
      refine lv_lstore (lv' := [(5, .long (lN b)), (9, .long (lN (a % b))), (0, .ref (q 0)), (1, .long (lN a0)), (3, .long (lN b0)), (7, .long (lN b))]) hx hb d_M_lowest_22 hl (by decide) rfl (fun ls hl => ?_)
      refine lv_lload hx hb d_M_lowest_24 (lv_at hl 1 rfl) ?_
      refine lv_lstore (lv' := [(7, .long (lN (a % b))), (5, .long (lN b)), (9, .long (lN (a % b))), (0, .ref (q 0)), (1, .long (lN a0)), (3, .long (lN b0))]) hx hb d_M_lowest_26 hl (by decide) rfl (fun ls hl => ?_)
      refine lv_goto (tgt := 6) hx hb d_M_lowest_28 (by decide) ?_
      have r1 := Nat.mod_lt a (Nat.pos_of_ne_zero h1)
      exact ih b (a % b) (by omega) hb6 (by omega) (by rw [Nat.gcd_comm b (a % b), ← Nat.gcd_rec, Nat.gcd_comm]; exact hX) ls (lv_sub hl [3, 4, 5, 1, 0] rfl)
end
set_option maxHeartbeats 4000000 in
set_option maxRecDepth 100000 in
theorem c_M_lowest (l : Launch) {dC : Nat → ClassId} {dI : Nat → Nat → Nat} {cI cL cT : ClassId} {sa : Nat → Nat} (sz : Nat) (q : Nat → Nat) (th : Int32) (F nt : Nat) (ab be : Int64) (a0 b0 : Nat) (ha6 : a0 < 2 ^ 63) (hb6 : b0 < 2 ^ 63) (hb1 : 0 < b0) : Met l y_M_lowest (Cond.code y_M_lowest b_M_lowest 11 none :: gw) ({ frames := 0, cells := 0, slots := 0, locals := 0 } : Room) (wr dC dI cI cL cT sa [.ref (q 0), .long (lN a0), .long (lN b0)] [(q 0, .inr (6, (mF q th F nt ab be)))] sz) (va_Qv (fun _ : Unit => True) (wB dC dI [(q 0, .inr (6, (mF q th F nt ab be)))] [(q 0, .inr (6, (mF q th F nt (lN (a0 / Nat.gcd a0 b0)) (lN (b0 / Nat.gcd a0 b0)))))] sz) (va_A [(q 0, .inr (6, (mF q th F nt ab be)))] sz)) 0 0 (va_A [(q 0, .inr (6, (mF q th F nt ab be)))] sz) := by
  refine Met.ofW (cc := b_M_lowest) (maxL := 11) (ret := none) (by decide) rfl ?_
  intro p e s m args below meth c s₁ B hml hv
  obtain ⟨rfl, hsz, hC, hP, hD0⟩ := hv
  have hx := B.exec
  have hb := B.bytes
  have hr := B.returns
  have hts : ∀ w ∈ gw, w.before ([.ref (q 0), .long (lN a0), .long (lN b0)] : List Value).toArray s = true := fun w hw => atoms_spec (ws := Cond.code y_M_lowest b_M_lowest 11 none :: gw) B.pre w (List.mem_cons_of_mem _ hw)
  have hown : s.vm.findClass R_M = some m.cls := findClass_of_methodNamed B.named
  have hlocks := B.notSynchronized
  have hK := hC.1
  have hfr : 0 ≤ (headSpec (Cond.code y_M_lowest b_M_lowest 11 none :: gw) ({ frames := 0, cells := 0, slots := 0, locals := 0 } : Room)).room.frames := Nat.le_refl _
  have hlo : 0 ≤ (headSpec (Cond.code y_M_lowest b_M_lowest 11 none :: gw) ({ frames := 0, cells := 0, slots := 0, locals := 0 } : Room)).room.locals := Nat.le_refl _
  have hce : 0 ≤ (headSpec (Cond.code y_M_lowest b_M_lowest 11 none :: gw) ({ frames := 0, cells := 0, slots := 0, locals := 0 } : Room)).room.cells := Nat.zero_le _
  have hsl : 0 ≤ (headSpec (Cond.code y_M_lowest b_M_lowest 11 none :: gw) ({ frames := 0, cells := 0, slots := 0, locals := 0 } : Room)).room.slots := Nat.zero_le _
  subst hsz
  have hD := hD0.self (sz := s.heap.size)
  unfold wB
  generalize hAe : va_A [(q 0, .inr (6, (mF q th F nt ab be)))] s.heap.size = A at hD ⊢
  have hA : ∀ q : Nat, s.heap.size ≤ q → A q := fun q h => by rw [← hAe]; exact Or.inr h
  have hS : va_S A s.heap s.heap [] := va_S.rf
  have hl := lv_entry ([.ref (q 0), .long (lN a0), .long (lN b0)]) (n := 11) (Nat.le_of_ble_eq_true rfl)
  rw [lg_entry_eq]
  generalize (lg_sl ([.ref (q 0), .long (lN a0), .long (lN b0)]) ++ List.replicate (11 - (lg_sl ([.ref (q 0), .long (lN a0), .long (lN b0)])).length) Slot.unset).toArray = ls at hl ⊢
  have hl : lv_has ls 11 [(0, .ref (q 0)), (1, .long (lN a0)), (3, .long (lN b0))] := hl
  refine lv_lload_n hx hb d_M_lowest_0 rfl (lv_at hl 1 rfl) ?_
  refine lv_lstore (lv' := [(5, .long (lN a0)), (0, .ref (q 0)), (1, .long (lN a0)), (3, .long (lN b0))]) hx hb d_M_lowest_1 hl (by decide) rfl (fun ls hl => ?_)
  refine lv_lload_n hx hb d_M_lowest_3 rfl (lv_at hl 3 rfl) ?_
  refine lv_lstore (lv' := [(7, .long (lN b0)), (5, .long (lN a0)), (0, .ref (q 0)), (1, .long (lN a0)), (3, .long (lN b0))]) hx hb d_M_lowest_4 hl (by decide) rfl (fun ls hl => ?_)
  have hg1 : 0 < Nat.gcd a0 b0 := Nat.gcd_pos_of_pos_right a0 hb1
  have hg2 : Nat.gcd a0 b0 ≤ b0 := Nat.gcd_le_right a0 hb1
  refine l_M_lowest ⟨hx, hb, hml, hown, hts⟩ (fun ls hl => ?_) (b0 + 1) a0 b0 (by omega) ha6 hb6 rfl ls (lv_sub hl [2, 3, 4, 1, 0] rfl)
  refine lv_aload_n hx hb d_M_lowest_31 rfl (lv_at hl 0 rfl) ?_
  refine lv_lload_n hx hb d_M_lowest_32 rfl (lv_at hl 1 rfl) ?_
  refine lv_lload hx hb d_M_lowest_33 (lv_at hl 3 rfl) ?_
  refine nx_ldiv hx hb d_M_lowest_35 ha6 hg1 (by omega) ?_
  refine va_put (D := (dC, dI)) (ci := 6) (v := .long (lN (a0 / (Nat.gcd a0 b0)))) (ty := (.long)) (C := R_M) (T := F_M) (N := 17) hx hb hts i_M ft_M ft_M_ok n_M hown hK hP hD hS 0 rfl rfl 10 (by decide) (hts _ k_487) (fun _ h9 => h9) rfl (by decide +kernel) rfl rfl (Nat.le_of_ble_eq_true rfl) d_M_lowest_36 (fun H locs hP hD hS => ?_)
  have hP : va_P (dC, dI) vwCl [(q 0, .inr (6, (mF q th F nt (lN (a0 / (Nat.gcd a0 b0))) be)))] H := hP
  have hD : va_D A [(q 0, .inr (6, (mF q th F nt (lN (a0 / (Nat.gcd a0 b0))) be)))] := hD
  refine lv_aload_n hx hb d_M_lowest_39 rfl (lv_at hl 0 rfl) ?_
  refine lv_lload_n hx hb d_M_lowest_40 rfl (lv_at hl 2 rfl) ?_
  refine lv_lload hx hb d_M_lowest_41 (lv_at hl 3 rfl) ?_
  refine nx_ldiv hx hb d_M_lowest_43 hb6 hg1 (by omega) ?_
  refine va_put (D := (dC, dI)) (ci := 6) (v := .long (lN (b0 / (Nat.gcd a0 b0)))) (ty := (.long)) (C := R_M) (T := F_M) (N := 17) hx hb hts i_M ft_M ft_M_ok n_M hown hK hP hD hS 0 rfl rfl 11 (by decide) (hts _ k_488) (fun _ h9 => h9) rfl (by decide +kernel) rfl rfl (Nat.le_of_ble_eq_true rfl) d_M_lowest_44 (fun H locs hP hD hS => ?_)
  have hP : va_P (dC, dI) vwCl [(q 0, .inr (6, (mF q th F nt (lN (a0 / (Nat.gcd a0 b0))) (lN (b0 / (Nat.gcd a0 b0))))))] H := hP
  have hD : va_D A [(q 0, .inr (6, (mF q th F nt (lN (a0 / (Nat.gcd a0 b0))) (lN (b0 / (Nat.gcd a0 b0))))))] := hD
  exact W.vret hx hb hr (fun t ht hW => ⟨⟨(), rfl, trivial, by rw [ht]; exact hP, hD⟩, hS.F ht⟩) hS.2.2 d_M_lowest_47
set_option maxHeartbeats 4000000 in
set_option maxRecDepth 100000 in
theorem c_M_reckonTrip (l : Launch) {dC : Nat → ClassId} {dI : Nat → Nat → Nat} {cI cL cT : ClassId} {sa : Nat → Nat} (sz : Nat) (q : Nat → Nat) (th : Int32) (F nt : Nat) (ab be : Int64) (pp hh rm sd dr pe : Nat → Nat) (t0 fr to n : Nat) (ht0 : t0 < 6) (hn : to + 1 = fr + n) (hto : to ≤ 12) (hn12 : n ≤ 12) (hU2 : sm pp fr n ≤ 200) (hhh : ∀ k, k < n → hh (fr + k) ≤ 1200) (hrm : 1 ≤ rm t0 ∧ rm t0 ≤ 5) (hsd : 1 ≤ sd t0 ∧ sd t0 ≤ 100) (hdr : dr t0 ≤ 30) (hpe : pe t0 ≤ 10) : Met l y_M_reckonTrip (Cond.code y_M_reckonTrip b_M_reckonTrip 13 none :: gw) ({ frames := 2, cells := 0, slots := 0, locals := 55 } : Room) (wr dC dI cI cL cT sa [.ref (q 0), .int (nI t0), .int (nI fr), .int (nI to)] [(q 0, .inr (6, (mF q th F nt ab be))), (q 1, .inl (cI, 13, .inl (fun j => nI (pp j)))), (q 2, .inl (cI, 13, .inl (fun j => nI (hh j)))), (q 4, .inl (cI, 6, .inl (fun j => nI (rm j)))), (q 5, .inl (cI, 6, .inl (fun j => nI (sd j)))), (q 6, .inl (cI, 6, .inl (fun j => nI (dr j)))), (q 7, .inl (cI, 6, .inl (fun j => nI (pe j))))] sz) (va_Qv (fun _ : Unit => True) (wB dC dI [(q 0, .inr (6, (mF q th F nt ab be))), (q 1, .inl (cI, 13, .inl (fun j => nI (pp j)))), (q 2, .inl (cI, 13, .inl (fun j => nI (hh j)))), (q 4, .inl (cI, 6, .inl (fun j => nI (rm j)))), (q 5, .inl (cI, 6, .inl (fun j => nI (sd j)))), (q 6, .inl (cI, 6, .inl (fun j => nI (dr j)))), (q 7, .inl (cI, 6, .inl (fun j => nI (pe j))))] [(q 0, .inr (6, (mF q th F nt (lN ((tA pp hh fr n (rm t0) (sd t0) (dr t0) (pe t0)) / Nat.gcd (tA pp hh fr n (rm t0) (sd t0) (dr t0) (pe t0)) (tB pp fr n (rm t0) (sd t0)))) (lN ((tB pp fr n (rm t0) (sd t0)) / Nat.gcd (tA pp hh fr n (rm t0) (sd t0) (dr t0) (pe t0)) (tB pp fr n (rm t0) (sd t0))))))), (q 1, .inl (cI, 13, .inl (fun j => nI (pp j)))), (q 2, .inl (cI, 13, .inl (fun j => nI (hh j)))), (q 4, .inl (cI, 6, .inl (fun j => nI (rm j)))), (q 5, .inl (cI, 6, .inl (fun j => nI (sd j)))), (q 6, .inl (cI, 6, .inl (fun j => nI (dr j)))), (q 7, .inl (cI, 6, .inl (fun j => nI (pe j))))] sz) (va_A [(q 0, .inr (6, (mF q th F nt ab be))), (q 1, .inl (cI, 13, .inl (fun j => nI (pp j)))), (q 2, .inl (cI, 13, .inl (fun j => nI (hh j)))), (q 4, .inl (cI, 6, .inl (fun j => nI (rm j)))), (q 5, .inl (cI, 6, .inl (fun j => nI (sd j)))), (q 6, .inl (cI, 6, .inl (fun j => nI (dr j)))), (q 7, .inl (cI, 6, .inl (fun j => nI (pe j))))] sz)) 0 0 (va_A [(q 0, .inr (6, (mF q th F nt ab be))), (q 1, .inl (cI, 13, .inl (fun j => nI (pp j)))), (q 2, .inl (cI, 13, .inl (fun j => nI (hh j)))), (q 4, .inl (cI, 6, .inl (fun j => nI (rm j)))), (q 5, .inl (cI, 6, .inl (fun j => nI (sd j)))), (q 6, .inl (cI, 6, .inl (fun j => nI (dr j)))), (q 7, .inl (cI, 6, .inl (fun j => nI (pe j))))] sz) := by
  refine Met.ofW (cc := b_M_reckonTrip) (maxL := 13) (ret := none) (by decide) rfl ?_
  intro p e s m args below meth c s₁ B hml hv
  obtain ⟨rfl, hsz, hC, hP, hD0⟩ := hv
  have hx := B.exec
  have hb := B.bytes
  have hr := B.returns
  have hts : ∀ w ∈ gw, w.before ([.ref (q 0), .int (nI t0), .int (nI fr), .int (nI to)] : List Value).toArray s = true := fun w hw => atoms_spec (ws := Cond.code y_M_reckonTrip b_M_reckonTrip 13 none :: gw) B.pre w (List.mem_cons_of_mem _ hw)
  have hown : s.vm.findClass R_M = some m.cls := findClass_of_methodNamed B.named
  have hlocks := B.notSynchronized
  have hK := hC.1
  have hfr : 2 ≤ (headSpec (Cond.code y_M_reckonTrip b_M_reckonTrip 13 none :: gw) ({ frames := 2, cells := 0, slots := 0, locals := 55 } : Room)).room.frames := Nat.le_refl _
  have hlo : 55 ≤ (headSpec (Cond.code y_M_reckonTrip b_M_reckonTrip 13 none :: gw) ({ frames := 2, cells := 0, slots := 0, locals := 55 } : Room)).room.locals := Nat.le_refl _
  have hce : 0 ≤ (headSpec (Cond.code y_M_reckonTrip b_M_reckonTrip 13 none :: gw) ({ frames := 2, cells := 0, slots := 0, locals := 55 } : Room)).room.cells := Nat.zero_le _
  have hsl : 0 ≤ (headSpec (Cond.code y_M_reckonTrip b_M_reckonTrip 13 none :: gw) ({ frames := 2, cells := 0, slots := 0, locals := 55 } : Room)).room.slots := Nat.zero_le _
  subst hsz
  have hD := hD0.self (sz := s.heap.size)
  unfold wB
  generalize hAe : va_A [(q 0, .inr (6, (mF q th F nt ab be))), (q 1, .inl (cI, 13, .inl (fun j => nI (pp j)))), (q 2, .inl (cI, 13, .inl (fun j => nI (hh j)))), (q 4, .inl (cI, 6, .inl (fun j => nI (rm j)))), (q 5, .inl (cI, 6, .inl (fun j => nI (sd j)))), (q 6, .inl (cI, 6, .inl (fun j => nI (dr j)))), (q 7, .inl (cI, 6, .inl (fun j => nI (pe j))))] s.heap.size = A at hD ⊢
  have hA : ∀ q : Nat, s.heap.size ≤ q → A q := fun q h => by rw [← hAe]; exact Or.inr h
  have hS : va_S A s.heap s.heap [] := va_S.rf
  have hl := lv_entry ([.ref (q 0), .int (nI t0), .int (nI fr), .int (nI to)]) (n := 13) (Nat.le_of_ble_eq_true rfl)
  rw [lg_entry_eq]
  generalize (lg_sl ([.ref (q 0), .int (nI t0), .int (nI fr), .int (nI to)]) ++ List.replicate (13 - (lg_sl ([.ref (q 0), .int (nI t0), .int (nI fr), .int (nI to)])).length) Slot.unset).toArray = ls at hl ⊢
  have hl : lv_has ls 13 [(0, .ref (q 0)), (1, .int (nI t0)), (2, .int (nI fr)), (3, .int (nI to))] := hl
  have hP5 : rm t0 ≤ 5 := hrm.2
  have hS1 : sd t0 ≤ 100 := hsd.2
  have hpp : ∀ k, k < n → pp (fr + k) ≤ 200 := fun k hk => Nat.le_trans (sm_le hk) hU2
  have hlt := tA_lt (pp := pp) (hh := hh) hn12 hU2 hhh hP5 hS1 hdr hpe
  have hlb := tB_lt (pp := pp) hU2 hP5 hS1
  have hbp := tB_pos (pp := pp) (fr := fr) (n := n) (P := rm t0) (show 0 < sd t0 from hsd.1)
  refine lv_aload_n hx hb d_M_reckonTrip_0 rfl (lv_at hl 0 rfl) ?_
  refine va_get (D := (dC, dI)) (ci := 6) (v := .ref (q 4)) (C := R_M) (T := F_M) (N := 17) hx hb hts i_M hown hK hP 0 rfl rfl 4 (by decide) (hts _ k_481) (fun _ h9 => h9) rfl d_M_reckonTrip_1 ?_
  refine lv_iload_n hx hb d_M_reckonTrip_4 rfl (lv_at hl 1 rfl) ?_
  refine nx_iald hx hb hK hP 3 0 rfl rfl (k := t0) (v := nI (rm t0)) (by omega) (by decide) rfl d_M_reckonTrip_5 ?_
  refine lv_istore (lv' := [(4, .int (nI (rm t0))), (0, .ref (q 0)), (1, .int (nI t0)), (2, .int (nI fr)), (3, .int (nI to))]) hx hb d_M_reckonTrip_6 hl (by decide) rfl (fun ls hl => ?_)
  refine lv_aload_n hx hb d_M_reckonTrip_8 rfl (lv_at hl 1 rfl) ?_
  refine lv_iload_n hx hb d_M_reckonTrip_9 rfl (lv_at hl 3 rfl) ?_
  refine lv_iload_n hx hb d_M_reckonTrip_10 rfl (lv_at hl 4 rfl) ?_
  refine ro_calli (va_runV (As := [.int (nI fr), .int (nI to)]) (rest := []) ⟨hx, hb, hml, hown, hts⟩ (c_M_zonePersons l q th F nt ab be pp fr to n hn hto) (cwV 2 hts (gw_V k_568 k_565 k_567 ks_M_zonePersons k_6) rfl rfl rfl (by decide +kernel) ⟨Nat.le_trans (Nat.le_of_ble_eq_true rfl) hfr, Nat.le_trans (Nat.le_of_ble_eq_true rfl) hlo⟩) ⟨pr_blind, va_recv hK hP (ci := 6) (q0 := 0) rfl rfl, pr_at hC (hP.sub (ws' := [(q 0, .inr (6, (mF q th F nt ab be))), (q 1, .inl (cI, 13, .inl (fun j => nI (pp j))))]) [0, 1] rfl)⟩ rfl rfl hl.1 rfl (lv_room (Nat.le_of_ble_eq_true rfl)) d_M_reckonTrip_11 ⟨hce, hsl⟩) (fun r9 h9 => ?_)
  subst h9
  refine nx_i2l hx hb d_M_reckonTrip_14 (by omega) ?_
  refine lv_iload hx hb d_M_reckonTrip_15 (lv_at hl 0 rfl) ?_
  refine ro_calll (va_runS (As := [.long (lN (sm pp fr n)), .int (nI (rm t0))]) (rest := []) ⟨hx, hb, hml, hown, hts⟩ (c_M_power l (sm pp fr n) (rm t0) hP5) (cwS 2 hts (gw_S k_571 k_569 k_570 k_6) rfl rfl rfl (by decide +kernel) ⟨Nat.le_trans (Nat.le_of_ble_eq_true rfl) hfr, Nat.le_trans (Nat.le_of_ble_eq_true rfl) hlo⟩) ⟨pr_blind, pr_at hC (fun k q h => by simp at h)⟩ rfl rfl hl.1 rfl (lv_room (Nat.le_of_ble_eq_true rfl)) d_M_reckonTrip_17 ⟨hce, hsl⟩) (fun r9 h9 => ?_)
  subst h9
  have hpw := pw_le hU2 hP5
  refine lv_lstore (lv' := [(5, .long (lN (sm pp fr n ^ rm t0))), (4, .int (nI (rm t0))), (0, .ref (q 0)), (1, .int (nI t0)), (2, .int (nI fr)), (3, .int (nI to))]) hx hb d_M_reckonTrip_20 hl (by decide) rfl (fun ls hl => ?_)
  refine lv_lload hx hb d_M_reckonTrip_22 (lv_at hl 0 rfl) ?_
  refine lv_lconst (v := lN 0) hx hb d_M_reckonTrip_24 (by decide) ?_
  refine nx_lcn_ne (tgt := 36) hx hb d_M_reckonTrip_25 d_M_reckonTrip_26 (by decide) (by omega) (by decide) (fun h1 => ?_) (fun h1 => ?_)
  · have hU0 : sm pp fr n ≠ 0 := fun z => h1 (by rw [z]; exact Nat.zero_pow hrm.1)
    refine lv_aload_n hx hb d_M_reckonTrip_36 rfl (lv_at hl 2 rfl) ?_
    refine va_get (D := (dC, dI)) (ci := 6) (v := .ref (q 5)) (C := R_M) (T := F_M) (N := 17) hx hb hts i_M hown hK hP 0 rfl rfl 5 (by decide) (hts _ k_482) (fun _ h9 => h9) rfl d_M_reckonTrip_37 ?_
    refine lv_iload_n hx hb d_M_reckonTrip_40 rfl (lv_at hl 3 rfl) ?_
    refine nx_iald hx hb hK hP 4 0 rfl rfl (k := t0) (v := nI (sd t0)) (by omega) (by decide) rfl d_M_reckonTrip_41 ?_
    refine nx_i2l hx hb d_M_reckonTrip_42 (by omega) ?_
    refine lv_lstore (lv' := [(7, .long (lN (sd t0))), (5, .long (lN (sm pp fr n ^ rm t0))), (4, .int (nI (rm t0))), (0, .ref (q 0)), (1, .int (nI t0)), (2, .int (nI fr)), (3, .int (nI to))]) hx hb d_M_reckonTrip_43 hl (by decide) rfl (fun ls hl => ?_)
    refine lv_aload_n hx hb d_M_reckonTrip_45 rfl (lv_at hl 3 rfl) ?_
    refine lv_iload hx hb d_M_reckonTrip_46 (lv_at hl 2 rfl) ?_
    refine lv_iload_n hx hb d_M_reckonTrip_48 rfl (lv_at hl 5 rfl) ?_
    refine lv_iload_n hx hb d_M_reckonTrip_49 rfl (lv_at hl 6 rfl) ?_
    refine ro_calll (va_runV (As := [.int (nI (rm t0)), .int (nI fr), .int (nI to)]) (rest := []) ⟨hx, hb, hml, hown, hts⟩ (c_M_stopsOf l q th F nt ab be pp fr to n (rm t0) hn hto hU2 hP5) (cwV 3 hts (gw_V k_575 k_572 k_574 ks_M_stopsOf k_6) rfl rfl rfl (by decide +kernel) ⟨Nat.le_trans (Nat.le_of_ble_eq_true rfl) hfr, Nat.le_trans (Nat.le_of_ble_eq_true rfl) hlo⟩) ⟨pr_blind, va_recv hK hP (ci := 6) (q0 := 0) rfl rfl, pr_at hC (hP.sub (ws' := [(q 0, .inr (6, (mF q th F nt ab be))), (q 1, .inl (cI, 13, .inl (fun j => nI (pp j))))]) [0, 1] rfl)⟩ rfl rfl hl.1 rfl (lv_room (Nat.le_of_ble_eq_true rfl)) d_M_reckonTrip_50 ⟨hce, hsl⟩) (fun r9 h9 => ?_)
    subst h9
    refine lv_lload hx hb d_M_reckonTrip_53 (lv_at hl 1 rfl) ?_
    refine nx_ladd hx hb d_M_reckonTrip_55 ?_
    refine lv_aload_n hx hb d_M_reckonTrip_56 rfl (lv_at hl 3 rfl) ?_
    refine va_get (D := (dC, dI)) (ci := 6) (v := .ref (q 6)) (C := R_M) (T := F_M) (N := 17) hx hb hts i_M hown hK hP 0 rfl rfl 6 (by decide) (hts _ k_483) (fun _ h9 => h9) rfl d_M_reckonTrip_57 ?_
    refine lv_iload_n hx hb d_M_reckonTrip_60 rfl (lv_at hl 4 rfl) ?_
    refine nx_iald hx hb hK hP 5 0 rfl rfl (k := t0) (v := nI (dr t0)) (by omega) (by decide) rfl d_M_reckonTrip_61 ?_
    refine nx_i2l hx hb d_M_reckonTrip_62 (by omega) ?_
    refine nx_lmul hx hb d_M_reckonTrip_63 ?_
    refine lv_lload hx hb d_M_reckonTrip_64 (lv_at hl 0 rfl) ?_
    refine nx_lmul hx hb d_M_reckonTrip_66 ?_
    refine lv_lstore (lv' := [(9, .long (lN ((((sp pp (sm pp fr n) (rm t0) fr n) + (sm pp fr n ^ rm t0)) * (dr t0)) * (sd t0)))), (7, .long (lN (sd t0))), (5, .long (lN (sm pp fr n ^ rm t0))), (4, .int (nI (rm t0))), (0, .ref (q 0)), (1, .int (nI t0)), (2, .int (nI fr)), (3, .int (nI to))]) hx hb d_M_reckonTrip_67 hl (by decide) rfl (fun ls hl => ?_)
    refine lv_ldc2 (v := lN 2) hx hb hown (hts _ k_600) d_M_reckonTrip_69 ?_
    refine lv_iload hx hb d_M_reckonTrip_72 (lv_at hl 3 rfl) ?_
    refine nx_i2l hx hb d_M_reckonTrip_74 (by omega) ?_
    refine nx_lmul hx hb d_M_reckonTrip_75 ?_
    refine lv_aload_n hx hb d_M_reckonTrip_76 rfl (lv_at hl 4 rfl) ?_
    refine va_get (D := (dC, dI)) (ci := 6) (v := .ref (q 7)) (C := R_M) (T := F_M) (N := 17) hx hb hts i_M hown hK hP 0 rfl rfl 7 (by decide) (hts _ k_484) (fun _ h9 => h9) rfl d_M_reckonTrip_77 ?_
    refine lv_iload_n hx hb d_M_reckonTrip_80 rfl (lv_at hl 5 rfl) ?_
    refine nx_iald hx hb hK hP 6 0 rfl rfl (k := t0) (v := nI (pe t0)) (by omega) (by decide) rfl d_M_reckonTrip_81 ?_
    refine nx_i2l hx hb d_M_reckonTrip_82 (by omega) ?_
    refine nx_lmul hx hb d_M_reckonTrip_83 ?_
    refine lv_lload hx hb d_M_reckonTrip_84 (lv_at hl 1 rfl) ?_
    refine nx_lmul hx hb d_M_reckonTrip_86 ?_
    refine lv_lload hx hb d_M_reckonTrip_87 (lv_at hl 2 rfl) ?_
    refine nx_lmul hx hb d_M_reckonTrip_89 ?_
    refine lv_lstore (lv' := [(11, .long (lN ((((2 * (rm t0)) * (pe t0)) * (sd t0)) * (sm pp fr n ^ rm t0)))), (9, .long (lN ((((sp pp (sm pp fr n) (rm t0) fr n) + (sm pp fr n ^ rm t0)) * (dr t0)) * (sd t0)))), (7, .long (lN (sd t0))), (5, .long (lN (sm pp fr n ^ rm t0))), (4, .int (nI (rm t0))), (0, .ref (q 0)), (1, .int (nI t0)), (2, .int (nI fr)), (3, .int (nI to))]) hx hb d_M_reckonTrip_90 hl (by decide) rfl (fun ls hl => ?_)
    refine lv_aload_n hx hb d_M_reckonTrip_92 rfl (lv_at hl 5 rfl) ?_
    refine lv_ldc2 (v := lN 2) hx hb hown (hts _ k_600) d_M_reckonTrip_93 ?_
    refine lv_aload_n hx hb d_M_reckonTrip_96 rfl (lv_at hl 5 rfl) ?_
    refine lv_iload hx hb d_M_reckonTrip_97 (lv_at hl 4 rfl) ?_
    refine lv_iload_n hx hb d_M_reckonTrip_99 rfl (lv_at hl 7 rfl) ?_
    refine lv_iload_n hx hb d_M_reckonTrip_100 rfl (lv_at hl 8 rfl) ?_
    refine ro_calll (va_runV (As := [.int (nI (rm t0)), .int (nI fr), .int (nI to)]) (rest := [.long (lN 2), .ref (q 0)]) ⟨hx, hb, hml, hown, hts⟩ (c_M_highestOf l q th F nt ab be pp hh fr to n (rm t0) hn hto hpp hhh hP5) (cwV 3 hts (gw_V k_591 k_588 k_590 ks_M_highestOf k_6) rfl rfl rfl (by decide +kernel) ⟨Nat.le_trans (Nat.le_of_ble_eq_true rfl) hfr, Nat.le_trans (Nat.le_of_ble_eq_true rfl) hlo⟩) ⟨pr_blind, va_recv hK hP (ci := 6) (q0 := 0) rfl rfl, pr_at hC (hP.sub (ws' := [(q 0, .inr (6, (mF q th F nt ab be))), (q 1, .inl (cI, 13, .inl (fun j => nI (pp j)))), (q 2, .inl (cI, 13, .inl (fun j => nI (hh j))))]) [0, 1, 2] rfl)⟩ rfl rfl hl.1 rfl (lv_room (Nat.le_of_ble_eq_true rfl)) d_M_reckonTrip_101 ⟨hce, hsl⟩) (fun r9 h9 => ?_)
    subst h9
    refine nx_lmul hx hb d_M_reckonTrip_104 ?_
    refine lv_lload hx hb d_M_reckonTrip_105 (lv_at hl 1 rfl) ?_
    refine nx_ladd hx hb d_M_reckonTrip_107 ?_
    refine lv_lload hx hb d_M_reckonTrip_108 (lv_at hl 0 rfl) ?_
    refine nx_ladd hx hb d_M_reckonTrip_110 ?_
    refine lv_lload hx hb d_M_reckonTrip_111 (lv_at hl 2 rfl) ?_
    refine lv_lload hx hb d_M_reckonTrip_113 (lv_at hl 3 rfl) ?_
    refine nx_lmul hx hb d_M_reckonTrip_115 ?_
    rw [tA_eq hU0, tB_eq hU0]
    have hPc := hP.sub (ws' := [(q 0, .inr (6, (mF q th F nt ab be)))]) [0] rfl
    have hDc := hD.sub (ws' := [(q 0, .inr (6, (mF q th F nt ab be)))]) [0] (by decide) rfl
    have hFc := va_free (wc := [(q 0, .inr (6, (mF q th F nt ab be)))]) hD hS hA [0] rfl
    refine va_callv (va_runV (As := [.long (lN (tA pp hh fr n (rm t0) (sd t0) (dr t0) (pe t0))), .long (lN (tB pp fr n (rm t0) (sd t0)))]) (rest := []) ⟨hx, hb, hml, hown, hts⟩ (c_M_lowest l _ q th F nt ab be (tA pp hh fr n (rm t0) (sd t0) (dr t0) (pe t0)) (tB pp fr n (rm t0) (sd t0)) hlt (by omega) hbp) (cwV 2 hts (gw_V k_579 k_576 k_578 ks_M_lowest k_6) rfl rfl rfl (by decide +kernel) ⟨Nat.le_trans (Nat.le_of_ble_eq_true rfl) hfr, Nat.le_trans (Nat.le_of_ble_eq_true rfl) hlo⟩) ⟨wr_blind, va_recv hK hP (ci := 6) (q0 := 0) rfl rfl, wr_at hC hPc hDc⟩ rfl rfl hl.1 rfl (lv_room (Nat.le_of_ble_eq_true rfl)) d_M_reckonTrip_116 ⟨hce, hsl⟩) hS (fun q _ h => hFc q h) hFc (fun u t H1 locs ht hvm hw hB hz1 hk1 hS => ?_)
    obtain ⟨hP1, hD1⟩ := hB
    rw [ht] at hP1
    obtain ⟨hP, hD⟩ := va_join (wr := [(q 1, .inl (cI, 13, .inl (fun j => nI (pp j)))), (q 2, .inl (cI, 13, .inl (fun j => nI (hh j)))), (q 4, .inl (cI, 6, .inl (fun j => nI (rm j)))), (q 5, .inl (cI, 6, .inl (fun j => nI (sd j)))), (q 6, .inl (cI, 6, .inl (fun j => nI (dr j)))), (q 7, .inl (cI, 6, .inl (fun j => nI (pe j))))]) (w1 := [(q 0, .inr (6, (mF q th F nt (lN ((tA pp hh fr n (rm t0) (sd t0) (dr t0) (pe t0)) / Nat.gcd (tA pp hh fr n (rm t0) (sd t0) (dr t0) (pe t0)) (tB pp fr n (rm t0) (sd t0)))) (lN ((tB pp fr n (rm t0) (sd t0)) / Nat.gcd (tA pp hh fr n (rm t0) (sd t0) (dr t0) (pe t0)) (tB pp fr n (rm t0) (sd t0)))))))]) hP hD [0] [1, 2, 3, 4, 5, 6] rfl rfl (by decide) (by decide) hk1 hFc hP1 hD1
    generalize H1 = H at hP hS ⊢
    have hP := hP.sub (ws' := [(q 0, .inr (6, (mF q th F nt (lN ((tA pp hh fr n (rm t0) (sd t0) (dr t0) (pe t0)) / Nat.gcd (tA pp hh fr n (rm t0) (sd t0) (dr t0) (pe t0)) (tB pp fr n (rm t0) (sd t0)))) (lN ((tB pp fr n (rm t0) (sd t0)) / Nat.gcd (tA pp hh fr n (rm t0) (sd t0) (dr t0) (pe t0)) (tB pp fr n (rm t0) (sd t0))))))), (q 1, .inl (cI, 13, .inl (fun j => nI (pp j)))), (q 2, .inl (cI, 13, .inl (fun j => nI (hh j)))), (q 4, .inl (cI, 6, .inl (fun j => nI (rm j)))), (q 5, .inl (cI, 6, .inl (fun j => nI (sd j)))), (q 6, .inl (cI, 6, .inl (fun j => nI (dr j)))), (q 7, .inl (cI, 6, .inl (fun j => nI (pe j))))]) [6, 0, 1, 2, 3, 4, 5] rfl
    have hD := hD.sub (ws' := [(q 0, .inr (6, (mF q th F nt (lN ((tA pp hh fr n (rm t0) (sd t0) (dr t0) (pe t0)) / Nat.gcd (tA pp hh fr n (rm t0) (sd t0) (dr t0) (pe t0)) (tB pp fr n (rm t0) (sd t0)))) (lN ((tB pp fr n (rm t0) (sd t0)) / Nat.gcd (tA pp hh fr n (rm t0) (sd t0) (dr t0) (pe t0)) (tB pp fr n (rm t0) (sd t0))))))), (q 1, .inl (cI, 13, .inl (fun j => nI (pp j)))), (q 2, .inl (cI, 13, .inl (fun j => nI (hh j)))), (q 4, .inl (cI, 6, .inl (fun j => nI (rm j)))), (q 5, .inl (cI, 6, .inl (fun j => nI (sd j)))), (q 6, .inl (cI, 6, .inl (fun j => nI (dr j)))), (q 7, .inl (cI, 6, .inl (fun j => nI (pe j))))]) [6, 0, 1, 2, 3, 4, 5] (by decide) rfl
    exact W.vret hx hb hr (fun t ht hW => ⟨⟨(), rfl, trivial, by rw [ht]; exact hP, hD⟩, hS.F ht⟩) hS.2.2 d_M_reckonTrip_119
  · have hU0 : sm pp fr n = 0 := Classical.byContradiction fun z => absurd h1 (Nat.ne_of_gt (Nat.pow_pos (Nat.pos_of_ne_zero z)))
    refine lv_aload_n hx hb d_M_reckonTrip_29 rfl (lv_at hl 2 rfl) ?_
    refine lv_lconst (v := lN 0) hx hb d_M_reckonTrip_30 (by decide) ?_
    refine lv_lconst (v := lN 1) hx hb d_M_reckonTrip_31 (by decide) ?_
    have hPc := hP.sub (ws' := [(q 0, .inr (6, (mF q th F nt ab be)))]) [0] rfl
    have hDc := hD.sub (ws' := [(q 0, .inr (6, (mF q th F nt ab be)))]) [0] (by decide) rfl
    have hFc := va_free (wc := [(q 0, .inr (6, (mF q th F nt ab be)))]) hD hS hA [0] rfl
    refine va_callv (va_runV (As := [.long (lN 0), .long (lN 1)]) (rest := []) ⟨hx, hb, hml, hown, hts⟩ (c_M_lowest l _ q th F nt ab be 0 1 (by decide) (by decide) (by decide)) (cwV 2 hts (gw_V k_579 k_576 k_578 ks_M_lowest k_6) rfl rfl rfl (by decide +kernel) ⟨Nat.le_trans (Nat.le_of_ble_eq_true rfl) hfr, Nat.le_trans (Nat.le_of_ble_eq_true rfl) hlo⟩) ⟨wr_blind, va_recv hK hP (ci := 6) (q0 := 0) rfl rfl, wr_at hC hPc hDc⟩ rfl rfl hl.1 rfl (lv_room (Nat.le_of_ble_eq_true rfl)) d_M_reckonTrip_32 ⟨hce, hsl⟩) hS (fun q _ h => hFc q h) hFc (fun u t H1 locs ht hvm hw hB hz1 hk1 hS => ?_)
    obtain ⟨hP1, hD1⟩ := hB
    rw [ht] at hP1
    obtain ⟨hP, hD⟩ := va_join (wr := [(q 1, .inl (cI, 13, .inl (fun j => nI (pp j)))), (q 2, .inl (cI, 13, .inl (fun j => nI (hh j)))), (q 4, .inl (cI, 6, .inl (fun j => nI (rm j)))), (q 5, .inl (cI, 6, .inl (fun j => nI (sd j)))), (q 6, .inl (cI, 6, .inl (fun j => nI (dr j)))), (q 7, .inl (cI, 6, .inl (fun j => nI (pe j))))]) (w1 := [(q 0, .inr (6, (mF q th F nt (lN (0 / Nat.gcd 0 1)) (lN (1 / Nat.gcd 0 1)))))]) hP hD [0] [1, 2, 3, 4, 5, 6] rfl rfl (by decide) (by decide) hk1 hFc hP1 hD1
    generalize H1 = H at hP hS ⊢
    have hP := hP.sub (ws' := [(q 0, .inr (6, (mF q th F nt (lN (0 / Nat.gcd 0 1)) (lN (1 / Nat.gcd 0 1))))), (q 1, .inl (cI, 13, .inl (fun j => nI (pp j)))), (q 2, .inl (cI, 13, .inl (fun j => nI (hh j)))), (q 4, .inl (cI, 6, .inl (fun j => nI (rm j)))), (q 5, .inl (cI, 6, .inl (fun j => nI (sd j)))), (q 6, .inl (cI, 6, .inl (fun j => nI (dr j)))), (q 7, .inl (cI, 6, .inl (fun j => nI (pe j))))]) [6, 0, 1, 2, 3, 4, 5] rfl
    have hD := hD.sub (ws' := [(q 0, .inr (6, (mF q th F nt (lN (0 / Nat.gcd 0 1)) (lN (1 / Nat.gcd 0 1))))), (q 1, .inl (cI, 13, .inl (fun j => nI (pp j)))), (q 2, .inl (cI, 13, .inl (fun j => nI (hh j)))), (q 4, .inl (cI, 6, .inl (fun j => nI (rm j)))), (q 5, .inl (cI, 6, .inl (fun j => nI (sd j)))), (q 6, .inl (cI, 6, .inl (fun j => nI (dr j)))), (q 7, .inl (cI, 6, .inl (fun j => nI (pe j))))]) [6, 0, 1, 2, 3, 4, 5] (by decide) rfl
    have z1 : (tA pp hh fr n (rm t0) (sd t0) (dr t0) (pe t0)) = 0 := by rw [tA, if_pos hU0]
    have z2 : (tB pp fr n (rm t0) (sd t0)) = sd t0 := by rw [tB, if_pos hU0, Nat.mul_one]
    rw [z1, z2, Nat.gcd_zero_left, Nat.zero_div, Nat.div_self hsd.1]
    exact W.vret hx hb hr (fun t ht hW => ⟨⟨(), rfl, trivial, by rw [ht]; exact hP, hD⟩, hS.F ht⟩) hS.2.2 d_M_reckonTrip_35
