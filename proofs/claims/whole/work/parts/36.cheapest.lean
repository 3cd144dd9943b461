theorem cl_keep' {ce : Nat → Nat} {f : Nat → Nat → Nat} {ps i c : Nat} {b : Option (Nat × Nat)} (hne : b ≠ none) (h : isB ce (SC f ps i) b) (hce : 1 ≤ ce i) (hf : ∀ c', 1 ≤ c' → c' < c → f i c' < ps) (h1 : bC ce b ≤ c * ce i) (h2 : c * ce i = bC ce b → bN b ≤ c) : isB ce (SC f ps (i + 1)) b := by
  cases b with
  | none => exact absurd rfl hne
  | some x => exact cl_keep h hce hf h1 h2
theorem rf_keep' {ce : Nat → Nat} {f : Nat → Nat → Nat} {ps nt N i : Nat} {b : Option (Nat × Nat)} (hne : b ≠ none) (h : isB ce (SR f ps nt N i) b) (h1 : bC ce b ≤ N * ce i) : isB ce (SR f ps nt N (i + 1)) b := by
  cases b with
  | none => exact absurd rfl hne
  | some x => exact rf_keep h h1
theorem SC_in {f : Nat → Nat → Nat} {ps i : Nat} : ∀ n t, SC f ps i n t → n ≤ 6 ∧ t < i := fun n t q => ⟨q.2.1, q.2.2.1⟩
theorem SR_in {f : Nat → Nat → Nat} {ps nt N i : Nat} (hN : N ≤ 6) : ∀ n t, SR f ps nt N i n t → n ≤ 6 ∧ t < nt := fun n t q => ⟨by have := q.1; omega, q.2.2.1⟩
theorem nI_m1 {c : Nat} (h : c ≤ 6) : nI c ≠ -1 := by
  intro q
  have h1 : (nI c).toInt = (-1 : Int32).toInt := congrArg Int32.toInt q
  rw [nI_toInt (by omega)] at h1
  exact absurd h1 (by show ¬ (_ = (-1 : Int)); omega)
section
variable {p : Program} {l : Launch} {e : Env} {R : Room} {s : State} {m : MethodId} {args : Array Value} {below : List Frame} {meth : Method} {c : Code} {H : Heap} {locs : List Loc} {cells slots : Nat} {Q : State → Prop}
variable {dC : Nat → ClassId} {dI : Nat → Nat → Nat} {cI cL cT : ClassId} {sa : Nat → Nat}
set_option maxHeartbeats 4000000 in
set_option maxRecDepth 100000 in
theorem l_T_few (hF : CallFix p m c b_T_fewestCars 4 s args gw R_T) (hC : CT dC dI cI cL cT sa s) {g ca : Nat → Nat} {F nt E : Nat} {pp hh rm sd dr pe ce : Nat → Nat} {t0 ps : Nat} (hF12 : F ≤ 12) (hF1 : 1 ≤ F) (hU2 : sm pp 1 F ≤ 200) (hhh : ∀ k, k < F → hh (1 + k) ≤ 1200) (hps : ps < 2 ^ 31) (hrm : 1 ≤ rm t0 ∧ rm t0 ≤ 5) (hsd : 1 ≤ sd t0 ∧ sd t0 ≤ 100) (hdr : dr t0 ≤ 30) (hpe : pe t0 ≤ 10) (hfr : 2 ≤ R.frames) (hlo : 60 ≤ R.locals) (hce : cells ≤ R.cells) (hsl : slots ≤ R.slots) (hP : va_P (dC, dI) vwCl [(g 0, .inr (5, [.ref (g 1), .ref (g 4), .int (nI nt), .ref (g 5), .ref (g 6), .ref (g 11)])), (g 1, .inr (0, [.ref (g 2), .ref (g 3), .int (nI F), .int (nI E)])), (g 2, .inl (cI, 13, .inl (fun j => nI (pp j)))), (g 3, .inl (cI, 13, .inl (fun j => nI (hh j)))), (g 5, .inr (2, [.int (nI (if sm pp 1 F = 0 then 1 else 0)), .long (lN (wyf (sm pp 1 F) (rm t0))), .long (lN (sp pp (sm pp 1 F) (rm t0) 1 F)), .long (lN (hp pp hh (rm t0) 1 F))]))] H) (hRc : va_P (dC, dI) vwCl [(ca t0, .inr (1, [.int (nI (rm t0)), .int (nI (sd t0)), .int (nI (dr t0)), .int (nI (pe t0)), .int (nI (ce t0))]))] H) (k47 : ∀ (c0 : Nat) (ls : Array Slot), 1 ≤ c0 → c0 ≤ 6 → ps ≤ fC pp hh rm sd dr pe F t0 c0 → (∀ c9, 1 ≤ c9 → c9 < c0 → fC pp hh rm sd dr pe F t0 c9 < ps) → W p l e R s m args below meth c H locs cells slots Q (F0 m 47 ls [.int (nI c0)])) (k54 : ∀ ls : Array Slot, (∀ c9, 1 ≤ c9 → c9 ≤ 6 → fC pp hh rm sd dr pe F t0 c9 < ps) → W p l e R s m args below meth c H locs cells slots Q (F0 m 54 ls [])) : ∀ j i : Nat, 7 - i < j → 1 ≤ i → i ≤ 7 → (∀ c9, 1 ≤ c9 → c9 < i → fC pp hh rm sd dr pe F t0 c9 < ps) → ∀ ls : Array Slot, lv_has ls 4 [(0, .ref (g 0)), (1, .ref (ca t0)), (2, .int (nI ps)), (3, .int (nI i))] → W p l e R s m args below meth c H locs cells slots Q (F0 m 25 ls []) := by
  obtain ⟨hx, hb, hml, hown, hts⟩ := id hF
  have hK := hC.1
  have hlt : tA pp hh 1 F (rm t0) (sd t0) (dr t0) (pe t0) < 2 ^ 63 := tA_lt hF12 hU2 hhh hrm.2 hsd.2 hdr hpe
  have hlb : tB pp 1 F (rm t0) (sd t0) ≤ 32000000000000 := tB_lt hU2 hrm.2 hsd.2
  intro j
  induction j with
  | zero => intro i hj; omega
  | succ j ih =>
    intro i hj hi1 hi hall ls hl
    refine lv_iload_n hx hb d_T_fewestCars_25 rfl (lv_at hl 3 rfl) ?_
    refine lv_bipush (v := nI 6) hx hb d_T_fewestCars_26 (by decide) ?_
    refine nx_icmp_gt (tgt := 54) hx hb d_T_fewestCars_28 (by decide) (by omega) (by omega) (fun h1 => ?_) (fun h1 => ?_)
    · exact k54 ls (fun c9 a b => hall c9 a (by omega))
    · have hcl := car_lt (cars := i) (r := rm t0) (B := tB pp 1 F (rm t0) (sd t0)) (by omega) hrm.2 hlb
      refine lv_aload_n hx hb d_T_fewestCars_31 rfl (lv_at hl 0 rfl) ?_
      refine va_get (D := (dC, dI)) (ci := 5) (v := .ref (g 5)) (C := R_T) (T := F_T) (N := 6) hx hb hts i_T hown hK hP 0 rfl rfl 3 (by decide) (hts _ k_123) (fun _ h9 => h9) rfl d_T_fewestCars_32 ?_
      refine lv_iload_n hx hb d_T_fewestCars_35 rfl (lv_at hl 3 rfl) ?_
      refine lv_aload_n hx hb d_T_fewestCars_36 rfl (lv_at hl 1 rfl) ?_
      refine ro_calll (va_runV (As := [.int (nI i), .ref (ca t0)]) (rest := []) ⟨hx, hb, hml, hown, hts⟩ (c_O_carriedBy l g (ca t0) (if sm pp 1 F = 0 then 1 else 0) (wyf (sm pp 1 F) (rm t0)) (sp pp (sm pp 1 F) (rm t0) 1 F) (hp pp hh (rm t0) 1 F) (rm t0) (sd t0) (dr t0) (pe t0) (ce t0) i e0_le hrm.2 hsd.2 hdr hpe (by omega) (by rw [oA_tA]; exact hlt) (by rw [wy_tB]; exact hcl)) (cwV 2 hts (gw_V k_377 k_374 k_375 k_376 k_3) rfl rfl rfl (by decide +kernel) ⟨Nat.le_trans (Nat.le_of_ble_eq_true rfl) hfr, Nat.le_trans (Nat.le_of_ble_eq_true rfl) hlo⟩) ⟨pr_blind, va_recv hK hP (ci := 2) (q0 := 4) rfl rfl, pr_at hC (va_P.app (hP.sub (ws' := [(g 5, .inr (2, [.int (nI (if sm pp 1 F = 0 then 1 else 0)), .long (lN (wyf (sm pp 1 F) (rm t0))), .long (lN (sp pp (sm pp 1 F) (rm t0) 1 F)), .long (lN (hp pp hh (rm t0) 1 F))]))]) [4] rfl) hRc)⟩ rfl rfl hl.1 rfl (lv_room (Nat.le_of_ble_eq_true rfl)) d_T_fewestCars_37 ⟨hce, hsl⟩) (fun r9 h9 => ?_)
      rw [oA_tA, wy_tB] at h9
      subst h9
      refine lv_iload_n hx hb d_T_fewestCars_40 rfl (lv_at hl 2 rfl) ?_
      refine nx_i2l hx hb d_T_fewestCars_41 (by omega) ?_
      refine nx_lcn_lt (tgt := 48) hx hb d_T_fewestCars_42 d_T_fewestCars_43 (by decide) (oC_lt hcl) (by omega) (fun h2 => ?_) (fun h2 => ?_)
      · refine nx_inc (lv' := [(3, .int (nI (i + 1))), (0, .ref (g 0)), (1, .ref (ca t0)), (2, .int (nI ps))]) hx hb d_T_fewestCars_48 hl (k := 3) rfl (by decide) rfl (fun ls hl => ?_)
        refine lv_goto (tgt := 25) hx hb d_T_fewestCars_51 (by decide) ?_
        exact ih (i + 1) (by omega) (by omega) (by omega) (fun c9 a b => if z : c9 = i then by rw [z]; exact h2 else hall c9 a (by omega)) ls (lv_sub hl [1, 2, 3, 0] rfl)
      · refine lv_iload_n hx hb d_T_fewestCars_46 rfl (lv_at hl 3 rfl) ?_
        exact k47 i ls hi1 (by omega) (by unfold fC; omega) hall
end
set_option maxHeartbeats 4000000 in
set_option maxRecDepth 100000 in
theorem c_T_fewestCars (l : Launch) {dC : Nat → ClassId} {dI : Nat → Nat → Nat} {cI cL cT : ClassId} {sa : Nat → Nat} (sz : Nat) (g ca : Nat → Nat) (F nt E e0 wy so ho : Nat) (pp hh rm sd dr pe ce : Nat → Nat) (t0 ps : Nat) (hF12 : F ≤ 12) (hF1 : 1 ≤ F) (hU2 : sm pp 1 F ≤ 200) (hhh : ∀ k, k < F → hh (1 + k) ≤ 1200) (hps : ps < 2 ^ 31) (hrm : 1 ≤ rm t0 ∧ rm t0 ≤ 5) (hsd : 1 ≤ sd t0 ∧ sd t0 ≤ 100) (hdr : dr t0 ≤ 30) (hpe : pe t0 ≤ 10) : Met l y_T_fewestCars (Cond.code y_T_fewestCars b_T_fewestCars 4 (some .int) :: gw) ({ frames := 2, cells := 0, slots := 0, locals := 60 } : Room) (wx dC dI cI cL cT sa [.ref (g 0), .ref (ca t0), .int (nI ps)] [(g 0, .inr (5, [.ref (g 1), .ref (g 4), .int (nI nt), .ref (g 5), .ref (g 6), .ref (g 11)])), (g 1, .inr (0, [.ref (g 2), .ref (g 3), .int (nI F), .int (nI E)])), (g 2, .inl (cI, 13, .inl (fun j => nI (pp j)))), (g 3, .inl (cI, 13, .inl (fun j => nI (hh j)))), (g 5, .inr (2, [.int (nI e0), .long (lN wy), .long (lN so), .long (lN ho)]))] ([(ca t0, .inr (1, [.int (nI (rm t0)), .int (nI (sd t0)), .int (nI (dr t0)), .int (nI (pe t0)), .int (nI (ce t0))]))]) sz) (va_Qi (fun r (u : Unit) => isFew (fC pp hh rm sd dr pe F t0) ps r) (fun (u : Unit) => wB dC dI [(g 0, .inr (5, [.ref (g 1), .ref (g 4), .int (nI nt), .ref (g 5), .ref (g 6), .ref (g 11)])), (g 1, .inr (0, [.ref (g 2), .ref (g 3), .int (nI F), .int (nI E)])), (g 2, .inl (cI, 13, .inl (fun j => nI (pp j)))), (g 3, .inl (cI, 13, .inl (fun j => nI (hh j)))), (g 5, .inr (2, [.int (nI e0), .long (lN wy), .long (lN so), .long (lN ho)]))] [(g 0, .inr (5, [.ref (g 1), .ref (g 4), .int (nI nt), .ref (g 5), .ref (g 6), .ref (g 11)])), (g 1, .inr (0, [.ref (g 2), .ref (g 3), .int (nI F), .int (nI E)])), (g 2, .inl (cI, 13, .inl (fun j => nI (pp j)))), (g 3, .inl (cI, 13, .inl (fun j => nI (hh j)))), (g 5, .inr (2, [.int (nI (if sm pp 1 F = 0 then 1 else 0)), .long (lN (wyf (sm pp 1 F) (rm t0))), .long (lN (sp pp (sm pp 1 F) (rm t0) 1 F)), .long (lN (hp pp hh (rm t0) 1 F))]))] sz ()) (va_A [(g 0, .inr (5, [.ref (g 1), .ref (g 4), .int (nI nt), .ref (g 5), .ref (g 6), .ref (g 11)])), (g 1, .inr (0, [.ref (g 2), .ref (g 3), .int (nI F), .int (nI E)])), (g 2, .inl (cI, 13, .inl (fun j => nI (pp j)))), (g 3, .inl (cI, 13, .inl (fun j => nI (hh j)))), (g 5, .inr (2, [.int (nI e0), .long (lN wy), .long (lN so), .long (lN ho)]))] sz)) 0 0 (va_A [(g 0, .inr (5, [.ref (g 1), .ref (g 4), .int (nI nt), .ref (g 5), .ref (g 6), .ref (g 11)])), (g 1, .inr (0, [.ref (g 2), .ref (g 3), .int (nI F), .int (nI E)])), (g 2, .inl (cI, 13, .inl (fun j => nI (pp j)))), (g 3, .inl (cI, 13, .inl (fun j => nI (hh j)))), (g 5, .inr (2, [.int (nI e0), .long (lN wy), .long (lN so), .long (lN ho)]))] sz) := by
  refine Met.ofW (cc := b_T_fewestCars) (maxL := 4) (ret := (some .int)) (by decide) rfl ?_
  intro p e s m args below meth c s₁ B hml hv
  obtain ⟨rfl, hsz, hC, hP, hD0, hR, hno⟩ := hv
  have hx := B.exec
  have hb := B.bytes
  have hr := B.returns
  have hts : ∀ w ∈ gw, w.before ([.ref (g 0), .ref (ca t0), .int (nI ps)] : List Value).toArray s = true := fun w hw => atoms_spec (ws := Cond.code y_T_fewestCars b_T_fewestCars 4 (some .int) :: gw) B.pre w (List.mem_cons_of_mem _ hw)
  have hown : s.vm.findClass R_T = some m.cls := findClass_of_methodNamed B.named
  have hlocks := B.notSynchronized
  have hK := hC.1
  have hfr : 2 ≤ (headSpec (Cond.code y_T_fewestCars b_T_fewestCars 4 (some .int) :: gw) ({ frames := 2, cells := 0, slots := 0, locals := 60 } : Room)).room.frames := Nat.le_refl _
  have hlo : 60 ≤ (headSpec (Cond.code y_T_fewestCars b_T_fewestCars 4 (some .int) :: gw) ({ frames := 2, cells := 0, slots := 0, locals := 60 } : Room)).room.locals := Nat.le_refl _
  have hce : 0 ≤ (headSpec (Cond.code y_T_fewestCars b_T_fewestCars 4 (some .int) :: gw) ({ frames := 2, cells := 0, slots := 0, locals := 60 } : Room)).room.cells := Nat.zero_le _
  have hsl : 0 ≤ (headSpec (Cond.code y_T_fewestCars b_T_fewestCars 4 (some .int) :: gw) ({ frames := 2, cells := 0, slots := 0, locals := 60 } : Room)).room.slots := Nat.zero_le _
  subst hsz
  have hD := hD0.self (sz := s.heap.size)
  unfold wB
  generalize hAe : va_A [(g 0, .inr (5, [.ref (g 1), .ref (g 4), .int (nI nt), .ref (g 5), .ref (g 6), .ref (g 11)])), (g 1, .inr (0, [.ref (g 2), .ref (g 3), .int (nI F), .int (nI E)])), (g 2, .inl (cI, 13, .inl (fun j => nI (pp j)))), (g 3, .inl (cI, 13, .inl (fun j => nI (hh j)))), (g 5, .inr (2, [.int (nI e0), .long (lN wy), .long (lN so), .long (lN ho)]))] s.heap.size = A at hD hno ⊢
  have hA : ∀ q : Nat, s.heap.size ≤ q → A q := fun q h => by rw [← hAe]; exact Or.inr h
  have hS : va_S A s.heap s.heap [] := va_S.rf
  have hl := lv_entry ([.ref (g 0), .ref (ca t0), .int (nI ps)]) (n := 4) (Nat.le_of_ble_eq_true rfl)
  rw [lg_entry_eq]
  generalize (lg_sl ([.ref (g 0), .ref (ca t0), .int (nI ps)]) ++ List.replicate (4 - (lg_sl ([.ref (g 0), .ref (ca t0), .int (nI ps)])).length) Slot.unset).toArray = ls at hl ⊢
  have hl : lv_has ls 4 [(0, .ref (g 0)), (1, .ref (ca t0)), (2, .int (nI ps))] := hl
  refine lv_aload_n hx hb d_T_fewestCars_0 rfl (lv_at hl 0 rfl) ?_
  refine va_get (D := (dC, dI)) (ci := 5) (v := .ref (g 5)) (C := R_T) (T := F_T) (N := 6) hx hb hts i_T hown hK hP 0 rfl rfl 3 (by decide) (hts _ k_123) (fun _ h9 => h9) rfl d_T_fewestCars_1 ?_
  refine lv_aload_n hx hb d_T_fewestCars_4 rfl (lv_at hl 0 rfl) ?_
  refine va_get (D := (dC, dI)) (ci := 5) (v := .ref (g 1)) (C := R_T) (T := F_T) (N := 6) hx hb hts i_T hown hK hP 0 rfl rfl 0 (by decide) (hts _ k_120) (fun _ h9 => h9) rfl d_T_fewestCars_5 ?_
  refine lv_aload_n hx hb d_T_fewestCars_8 rfl (lv_at hl 1 rfl) ?_
  refine va_get (D := (dC, dI)) (ci := 1) (v := .int (nI (rm t0))) (C := R_C) (T := F_C) (N := 5) hx hb hts i_C hown hK hR 0 rfl rfl 0 (by decide) (hts _ k_271) (fun _ h9 => h9) rfl d_T_fewestCars_9 ?_
  refine lv_iconst (v := nI 1) hx hb d_T_fewestCars_12 (by decide) ?_
  refine lv_aload_n hx hb d_T_fewestCars_13 rfl (lv_at hl 0 rfl) ?_
  refine va_get (D := (dC, dI)) (ci := 5) (v := .ref (g 1)) (C := R_T) (T := F_T) (N := 6) hx hb hts i_T hown hK hP 0 rfl rfl 0 (by decide) (hts _ k_120) (fun _ h9 => h9) rfl d_T_fewestCars_14 ?_
  refine va_get (D := (dC, dI)) (ci := 0) (v := .int (nI F)) (C := R_B) (T := F_B) (N := 4) hx hb hts i_B hown hK hP 1 rfl rfl 2 (by decide) (hts _ k_37) (fun _ h9 => h9) rfl d_T_fewestCars_17 ?_
  have hPc := hP.sub (ws' := [(g 5, .inr (2, [.int (nI e0), .long (lN wy), .long (lN so), .long (lN ho)])), (g 1, .inr (0, [.ref (g 2), .ref (g 3), .int (nI F), .int (nI E)])), (g 2, .inl (cI, 13, .inl (fun j => nI (pp j)))), (g 3, .inl (cI, 13, .inl (fun j => nI (hh j))))]) [4, 1, 2, 3] rfl
  have hDc := hD.sub (ws' := [(g 5, .inr (2, [.int (nI e0), .long (lN wy), .long (lN so), .long (lN ho)])), (g 1, .inr (0, [.ref (g 2), .ref (g 3), .int (nI F), .int (nI E)])), (g 2, .inl (cI, 13, .inl (fun j => nI (pp j)))), (g 3, .inl (cI, 13, .inl (fun j => nI (hh j))))]) [4, 1, 2, 3] (by decide) rfl
  have hFc := va_free (wc := [(g 5, .inr (2, [.int (nI e0), .long (lN wy), .long (lN so), .long (lN ho)])), (g 1, .inr (0, [.ref (g 2), .ref (g 3), .int (nI F), .int (nI E)])), (g 2, .inl (cI, 13, .inl (fun j => nI (pp j)))), (g 3, .inl (cI, 13, .inl (fun j => nI (hh j))))]) hD hS hA [4, 1, 2, 3] rfl
  refine va_callv (va_runV (As := [.ref (g 1), .int (nI (rm t0)), .int (nI 1), .int (nI F)]) (rest := []) ⟨hx, hb, hml, hown, hts⟩ (c_O_count l _ g e0 wy so ho F E pp hh (rm t0) 1 F F (by omega) hF12 hU2 hhh hrm.1 hrm.2 hF1) (cwV 4 hts (gw_V k_315 k_312 k_313 k_314 k_3) rfl rfl rfl (by decide +kernel) ⟨Nat.le_trans (Nat.le_of_ble_eq_true rfl) hfr, Nat.le_trans (Nat.le_of_ble_eq_true rfl) hlo⟩) ⟨wr_blind, va_recv hK hP (ci := 2) (q0 := 4) rfl rfl, wr_at hC hPc hDc⟩ rfl rfl hl.1 rfl (lv_room (Nat.le_of_ble_eq_true rfl)) d_T_fewestCars_20 ⟨hce, hsl⟩) hS (fun q _ h => hFc q h) hFc (fun u t H1 locs ht hvm hw hB hz1 hk1 hS => ?_)
  obtain ⟨hP1, hD1⟩ := hB
  rw [ht] at hP1
  obtain ⟨hP, hD⟩ := va_join (wr := [(g 0, .inr (5, [.ref (g 1), .ref (g 4), .int (nI nt), .ref (g 5), .ref (g 6), .ref (g 11)]))]) (w1 := [(g 5, .inr (2, [.int (nI (if sm pp 1 F = 0 then 1 else 0)), .long (lN (wyf (sm pp 1 F) (rm t0))), .long (lN (sp pp (sm pp 1 F) (rm t0) 1 F)), .long (lN (hp pp hh (rm t0) 1 F))])), (g 1, .inr (0, [.ref (g 2), .ref (g 3), .int (nI F), .int (nI E)])), (g 2, .inl (cI, 13, .inl (fun j => nI (pp j)))), (g 3, .inl (cI, 13, .inl (fun j => nI (hh j))))]) hP hD [4, 1, 2, 3] [0] rfl rfl (by decide) (by decide) hk1 hFc hP1 hD1
  generalize H1 = H at hP hS ⊢
  have hP := hP.sub (ws' := [(g 0, .inr (5, [.ref (g 1), .ref (g 4), .int (nI nt), .ref (g 5), .ref (g 6), .ref (g 11)])), (g 1, .inr (0, [.ref (g 2), .ref (g 3), .int (nI F), .int (nI E)])), (g 2, .inl (cI, 13, .inl (fun j => nI (pp j)))), (g 3, .inl (cI, 13, .inl (fun j => nI (hh j)))), (g 5, .inr (2, [.int (nI (if sm pp 1 F = 0 then 1 else 0)), .long (lN (wyf (sm pp 1 F) (rm t0))), .long (lN (sp pp (sm pp 1 F) (rm t0) 1 F)), .long (lN (hp pp hh (rm t0) 1 F))]))]) [0, 2, 3, 4, 1] rfl
  have hD := hD.sub (ws' := [(g 0, .inr (5, [.ref (g 1), .ref (g 4), .int (nI nt), .ref (g 5), .ref (g 6), .ref (g 11)])), (g 1, .inr (0, [.ref (g 2), .ref (g 3), .int (nI F), .int (nI E)])), (g 2, .inl (cI, 13, .inl (fun j => nI (pp j)))), (g 3, .inl (cI, 13, .inl (fun j => nI (hh j)))), (g 5, .inr (2, [.int (nI (if sm pp 1 F = 0 then 1 else 0)), .long (lN (wyf (sm pp 1 F) (rm t0))), .long (lN (sp pp (sm pp 1 F) (rm t0) 1 F)), .long (lN (hp pp hh (rm t0) 1 F))]))]) [0, 2, 3, 4, 1] (by decide) rfl
  refine lv_iconst (v := nI 1) hx hb d_T_fewestCars_23 (by decide) ?_
  refine lv_istore_n (lv' := [(3, .int (nI 1)), (0, .ref (g 0)), (1, .ref (ca t0)), (2, .int (nI ps))]) hx hb d_T_fewestCars_24 rfl hl (by decide) rfl (fun ls hl => ?_)
  have hRc := ro_kept hS hR hno
  refine l_T_few ⟨hx, hb, hml, hown, hts⟩ hC hF12 hF1 hU2 hhh hps hrm hsd hdr hpe hfr hlo hce hsl hP hRc (fun c0 ls a1 a2 a3 a4 => ?_) (fun ls a1 => ?_) 7 1 (by omega) (by omega) (by omega) (fun c9 a b => by omega) ls (lv_sub hl [1, 2, 3, 0] rfl)
  · exact W.iret hx hb hr (fun t ht hW => ⟨⟨_, (), rfl, Or.inr ⟨c0, rfl, a1, a2, a3, a4⟩, by rw [ht]; exact hP, hD⟩, hS.F ht⟩) hS.2.2 d_T_fewestCars_47
  · refine lv_iconst (v := -1) hx hb d_T_fewestCars_54 (by decide) ?_
    exact W.iret hx hb hr (fun t ht hW => ⟨⟨_, (), rfl, Or.inl ⟨rfl, a1⟩, by rw [ht]; exact hP, hD⟩, hS.F ht⟩) hS.2.2 d_T_fewestCars_55
section
variable {p : Program} {l : Launch} {e : Env} {R : Room} {s : State} {m : MethodId} {args : Array Value} {below : List Frame} {meth : Method} {c : Code} {cells slots : Nat} {Q : State → Prop} {A : Nat → Prop}
variable {dC : Nat → ClassId} {dI : Nat → Nat → Nat} {cI cL cT : ClassId} {sa : Nat → Nat}
set_option maxHeartbeats 4000000 in
set_option maxRecDepth 100000 in
theorem l_T_cheap (hF : CallFix p m c b_T_cheapest 9 s args gw R_T) (hC : CT dC dI cI cL cT sa s) {g ca : Nat → Nat} {F nt E : Nat} {pp hh rm sd dr pe ce : Nat → Nat} {ps : Nat} (hF12 : F ≤ 12) (hF1 : 1 ≤ F) (hU2 : sm pp 1 F ≤ 200) (hhh : ∀ k, k < F → hh (1 + k) ≤ 1200) (hps : ps < 2 ^ 31) (hn6 : nt ≤ 6) (hcar : ∀ t, t < nt → (1 ≤ rm t ∧ rm t ≤ 5) ∧ (1 ≤ sd t ∧ sd t ≤ 100) ∧ dr t ≤ 30 ∧ pe t ≤ 10 ∧ (1 ≤ ce t ∧ ce t ≤ 100000)) (hfr : 3 ≤ R.frames) (hlo : 90 ≤ R.locals) (hce : cells ≤ R.cells) (hsl : slots ≤ R.slots) (hA : ∀ q : Nat, s.heap.size ≤ q → A q) (hR : va_P (dC, dI) vwCl (carsL ca rm sd dr pe ce nt) s.heap) (hno : ∀ (k : Nat) (q : Nat × va_E), (carsL ca rm sd dr pe ce nt)[k]? = some q → ¬ A q.1) (kend : ∀ (b : Option (Nat × Nat)) (e0 wy so ho : Nat), isB ce (SC (fC pp hh rm sd dr pe F) ps nt) b →  ∀ (H : Heap) (locs : List Loc) (ls : Array Slot), va_P (dC, dI) vwCl [(g 0, .inr (5, [.ref (g 1), .ref (g 4), .int (nI nt), .ref (g 5), .ref (g 6), .ref (g 11)])), (g 1, .inr (0, [.ref (g 2), .ref (g 3), .int (nI F), .int (nI E)])), (g 4, .inl (cT, 6, .inr (.inr (.inr (.inr (tq ca nt)))))), (g 2, .inl (cI, 13, .inl (fun j => nI (pp j)))), (g 3, .inl (cI, 13, .inl (fun j => nI (hh j)))), (g 5, .inr (2, [.int (nI e0), .long (lN wy), .long (lN so), .long (lN ho)]))] H → va_D A [(g 0, .inr (5, [.ref (g 1), .ref (g 4), .int (nI nt), .ref (g 5), .ref (g 6), .ref (g 11)])), (g 1, .inr (0, [.ref (g 2), .ref (g 3), .int (nI F), .int (nI E)])), (g 4, .inl (cT, 6, .inr (.inr (.inr (.inr (tq ca nt)))))), (g 2, .inl (cI, 13, .inl (fun j => nI (pp j)))), (g 3, .inl (cI, 13, .inl (fun j => nI (hh j)))), (g 5, .inr (2, [.int (nI e0), .long (lN wy), .long (lN so), .long (lN ho)]))] → va_S A s.heap H locs → lv_has ls 9 [(0, .ref (g 0)), (1, .int (nI ps)), (2, .int (bV b)), (3, .int (nI (bC ce b))), (4, .int (nI (bN b))), (5, .int (nI nt))] → W p l e R s m args below meth c H locs cells slots Q (F0 m 119 ls [])) : ∀ j i : Nat, nt - i < j → i ≤ nt → ∀ (b : Option (Nat × Nat)) (e0 wy so ho : Nat), isB ce (SC (fC pp hh rm sd dr pe F) ps i) b →  ∀ (H : Heap) (locs : List Loc) (ls : Array Slot), va_P (dC, dI) vwCl [(g 0, .inr (5, [.ref (g 1), .ref (g 4), .int (nI nt), .ref (g 5), .ref (g 6), .ref (g 11)])), (g 1, .inr (0, [.ref (g 2), .ref (g 3), .int (nI F), .int (nI E)])), (g 4, .inl (cT, 6, .inr (.inr (.inr (.inr (tq ca nt)))))), (g 2, .inl (cI, 13, .inl (fun j => nI (pp j)))), (g 3, .inl (cI, 13, .inl (fun j => nI (hh j)))), (g 5, .inr (2, [.int (nI e0), .long (lN wy), .long (lN so), .long (lN ho)]))] H → va_D A [(g 0, .inr (5, [.ref (g 1), .ref (g 4), .int (nI nt), .ref (g 5), .ref (g 6), .ref (g 11)])), (g 1, .inr (0, [.ref (g 2), .ref (g 3), .int (nI F), .int (nI E)])), (g 4, .inl (cT, 6, .inr (.inr (.inr (.inr (tq ca nt)))))), (g 2, .inl (cI, 13, .inl (fun j => nI (pp j)))), (g 3, .inl (cI, 13, .inl (fun j => nI (hh j)))), (g 5, .inr (2, [.int (nI e0), .long (lN wy), .long (lN so), .long (lN ho)]))] → va_S A s.heap H locs → lv_has ls 9 [(0, .ref (g 0)), (1, .int (nI ps)), (2, .int (bV b)), (3, .int (nI (bC ce b))), (4, .int (nI (bN b))), (5, .int (nI i))] → W p l e R s m args below meth c H locs cells slots Q (F0 m 28 ls []) := by
  obtain ⟨hx, hb, hml, hown, hts⟩ := id hF
  have hK := hC.1
  intro j
  induction j with
  | zero => intro i hj; omega
  | succ j ih =>
    intro i hj hi b e0 wy so ho hB H locs ls hP hD hS hl
    refine lv_iload hx hb d_T_cheapest_28 (lv_at hl 5 rfl) ?_
    refine lv_aload_n hx hb d_T_cheapest_30 rfl (lv_at hl 0 rfl) ?_
    refine va_get (D := (dC, dI)) (ci := 5) (v := .int (nI nt)) (C := R_T) (T := F_T) (N := 6) hx hb hts i_T hown hK hP 0 rfl rfl 2 (by decide) (hts _ k_122) (fun _ h9 => h9) rfl d_T_cheapest_31 ?_
    refine nx_icmp_ge (tgt := 119) hx hb d_T_cheapest_34 (by decide) (by omega) (by omega) (fun h1 => ?_) (fun h1 => ?_)
    · have hie : i = nt := by omega
      subst hie
      exact kend b e0 wy so ho hB H locs ls hP hD hS hl
    · obtain ⟨hrm, hsd, hdr, hpe, hce1, hce2⟩ := hcar i h1
      refine lv_aload_n hx hb d_T_cheapest_37 rfl (lv_at hl 0 rfl) ?_
      refine lv_iload hx hb d_T_cheapest_38 (lv_at hl 5 rfl) ?_
      refine ro_callr (va_runV (As := [.int (nI i)]) (rest := []) ⟨hx, hb, hml, hown, hts⟩ (c_T_requireType l g ca nt i hn6 h1) (cwV 1 hts (gw_V k_305 k_302 k_304 ks_T_requireType k_1) rfl rfl rfl (by decide +kernel) ⟨Nat.le_trans (Nat.le_of_ble_eq_true rfl) hfr, Nat.le_trans (Nat.le_of_ble_eq_true rfl) hlo⟩) ⟨pr_blind, va_recv hK hP (ci := 5) (q0 := 0) rfl rfl, pr_at hC (hP.sub (ws' := [(g 0, .inr (5, [.ref (g 1), .ref (g 4), .int (nI nt), .ref (g 5), .ref (g 6), .ref (g 11)])), (g 4, .inl (cT, 6, .inr (.inr (.inr (.inr (tq ca nt))))))]) [0, 2] rfl)⟩ rfl rfl hl.1 rfl (lv_room (Nat.le_of_ble_eq_true rfl)) d_T_cheapest_40 ⟨hce, hsl⟩) ?_
      refine lv_astore (lv' := [(6, .ref (ca i)), (0, .ref (g 0)), (1, .int (nI ps)), (2, .int (bV b)), (3, .int (nI (bC ce b))), (4, .int (nI (bN b))), (5, .int (nI i))]) hx hb d_T_cheapest_43 hl (by decide) rfl (fun ls hl => ?_)
      refine lv_aload_n hx hb d_T_cheapest_45 rfl (lv_at hl 1 rfl) ?_
      refine lv_aload hx hb d_T_cheapest_46 (lv_at hl 0 rfl) ?_
      refine lv_iload_n hx hb d_T_cheapest_48 rfl (lv_at hl 2 rfl) ?_
      have hPc := hP.sub (ws' := [(g 0, .inr (5, [.ref (g 1), .ref (g 4), .int (nI nt), .ref (g 5), .ref (g 6), .ref (g 11)])), (g 1, .inr (0, [.ref (g 2), .ref (g 3), .int (nI F), .int (nI E)])), (g 2, .inl (cI, 13, .inl (fun j => nI (pp j)))), (g 3, .inl (cI, 13, .inl (fun j => nI (hh j)))), (g 5, .inr (2, [.int (nI e0), .long (lN wy), .long (lN so), .long (lN ho)]))]) [0, 1, 3, 4, 5] rfl
      have hDc := hD.sub (ws' := [(g 0, .inr (5, [.ref (g 1), .ref (g 4), .int (nI nt), .ref (g 5), .ref (g 6), .ref (g 11)])), (g 1, .inr (0, [.ref (g 2), .ref (g 3), .int (nI F), .int (nI E)])), (g 2, .inl (cI, 13, .inl (fun j => nI (pp j)))), (g 3, .inl (cI, 13, .inl (fun j => nI (hh j)))), (g 5, .inr (2, [.int (nI e0), .long (lN wy), .long (lN so), .long (lN ho)]))]) [0, 1, 3, 4, 5] (by decide) rfl
      have hFc := va_free (wc := [(g 0, .inr (5, [.ref (g 1), .ref (g 4), .int (nI nt), .ref (g 5), .ref (g 6), .ref (g 11)])), (g 1, .inr (0, [.ref (g 2), .ref (g 3), .int (nI F), .int (nI E)])), (g 2, .inl (cI, 13, .inl (fun j => nI (pp j)))), (g 3, .inl (cI, 13, .inl (fun j => nI (hh j)))), (g 5, .inr (2, [.int (nI e0), .long (lN wy), .long (lN so), .long (lN ho)]))]) hD hS hA [0, 1, 3, 4, 5] rfl
      have hRc := va_P1 (ro_kept hS hR hno) (carsL_at h1)
      refine va_calli (va_runV (As := [.ref (ca i), .int (nI ps)]) (rest := []) ⟨hx, hb, hml, hown, hts⟩ (c_T_fewestCars l _ g ca F nt E e0 wy so ho pp hh rm sd dr pe ce i ps hF12 hF1 hU2 hhh hps hrm hsd hdr hpe) (cwV 2 hts (gw_V k_392 k_389 k_391 ks_T_fewestCars k_1) rfl rfl rfl (by decide +kernel) ⟨Nat.le_trans (Nat.le_of_ble_eq_true rfl) hfr, Nat.le_trans (Nat.le_of_ble_eq_true rfl) hlo⟩) ⟨wx_blind, va_recv hK hP (ci := 5) (q0 := 0) rfl rfl, wx_at hC hPc hDc hRc (no1 (fun z => hno _ _ (carsL_at h1) (hFc _ z)))⟩ rfl rfl hl.1 rfl (lv_room (Nat.le_of_ble_eq_true rfl)) d_T_cheapest_49 ⟨hce, hsl⟩) hS (fun q _ h => hFc q h) hFc (fun r9 u t H1 locs ht hvm hw hB1 hz1 hk1 hS => ?_)
      have hB0 := hB
      have hB := hB1
      obtain ⟨hP1, hD1⟩ := hB
      rw [ht] at hP1
      obtain ⟨hP, hD⟩ := va_join (wr := [(g 4, .inl (cT, 6, .inr (.inr (.inr (.inr (tq ca nt))))))]) (w1 := [(g 0, .inr (5, [.ref (g 1), .ref (g 4), .int (nI nt), .ref (g 5), .ref (g 6), .ref (g 11)])), (g 1, .inr (0, [.ref (g 2), .ref (g 3), .int (nI F), .int (nI E)])), (g 2, .inl (cI, 13, .inl (fun j => nI (pp j)))), (g 3, .inl (cI, 13, .inl (fun j => nI (hh j)))), (g 5, .inr (2, [.int (nI (if sm pp 1 F = 0 then 1 else 0)), .long (lN (wyf (sm pp 1 F) (rm i))), .long (lN (sp pp (sm pp 1 F) (rm i) 1 F)), .long (lN (hp pp hh (rm i) 1 F))]))]) hP hD [0, 1, 3, 4, 5] [2] rfl rfl (by decide) (by decide) hk1 hFc hP1 hD1
      generalize H1 = H at hP hS ⊢
      have hP := hP.sub (ws' := [(g 0, .inr (5, [.ref (g 1), .ref (g 4), .int (nI nt), .ref (g 5), .ref (g 6), .ref (g 11)])), (g 1, .inr (0, [.ref (g 2), .ref (g 3), .int (nI F), .int (nI E)])), (g 4, .inl (cT, 6, .inr (.inr (.inr (.inr (tq ca nt)))))), (g 2, .inl (cI, 13, .inl (fun j => nI (pp j)))), (g 3, .inl (cI, 13, .inl (fun j => nI (hh j)))), (g 5, .inr (2, [.int (nI (if sm pp 1 F = 0 then 1 else 0)), .long (lN (wyf (sm pp 1 F) (rm i))), .long (lN (sp pp (sm pp 1 F) (rm i) 1 F)), .long (lN (hp pp hh (rm i) 1 F))]))]) [1, 2, 0, 3, 4, 5] rfl
      have hD := hD.sub (ws' := [(g 0, .inr (5, [.ref (g 1), .ref (g 4), .int (nI nt), .ref (g 5), .ref (g 6), .ref (g 11)])), (g 1, .inr (0, [.ref (g 2), .ref (g 3), .int (nI F), .int (nI E)])), (g 4, .inl (cT, 6, .inr (.inr (.inr (.inr (tq ca nt)))))), (g 2, .inl (cI, 13, .inl (fun j => nI (pp j)))), (g 3, .inl (cI, 13, .inl (fun j => nI (hh j)))), (g 5, .inr (2, [.int (nI (if sm pp 1 F = 0 then 1 else 0)), .long (lN (wyf (sm pp 1 F) (rm i))), .long (lN (sp pp (sm pp 1 F) (rm i) 1 F)), .long (lN (hp pp hh (rm i) 1 F))]))]) [1, 2, 0, 3, 4, 5] (by decide) rfl
      rcases hw with ⟨rfl, hnone⟩ | ⟨c0, rfl, hc1, hc6, hcp, hcf⟩
      · refine lv_istore (lv' := [(7, .int ((-1))), (6, .ref (ca i)), (0, .ref (g 0)), (1, .int (nI ps)), (2, .int (bV b)), (3, .int (nI (bC ce b))), (4, .int (nI (bN b))), (5, .int (nI i))]) hx hb d_T_cheapest_52 hl (by decide) rfl (fun ls hl => ?_)
        refine lv_iload hx hb d_T_cheapest_54 (lv_at hl 0 rfl) ?_
        refine lv_iconst (v := -1) hx hb d_T_cheapest_56 (by decide) ?_
        refine lv_icmp_ne (tgt := 63) hx hb d_T_cheapest_57 (by decide) (fun h2 => ?_) (fun h2 => ?_)
        · exact absurd rfl h2
        · refine lv_goto (tgt := 113) hx hb d_T_cheapest_60 (by decide) ?_
          refine nx_inc (lv' := [(5, .int (nI (i + 1))), (7, .int ((-1))), (6, .ref (ca i)), (0, .ref (g 0)), (1, .int (nI ps)), (2, .int (bV b)), (3, .int (nI (bC ce b))), (4, .int (nI (bN b)))]) hx hb d_T_cheapest_113 hl (k := 7) rfl (by decide) rfl (fun ls hl => ?_)
          refine lv_goto (tgt := 28) hx hb d_T_cheapest_116 (by decide) ?_
          exact ih (i + 1) (by omega) (by omega) (b) _ _ _ _ (cl_none hB0 hnone) H locs ls hP hD hS (lv_sub hl [3, 4, 5, 6, 7, 0] rfl)
      · refine lv_istore (lv' := [(7, .int (nI c0)), (6, .ref (ca i)), (0, .ref (g 0)), (1, .int (nI ps)), (2, .int (bV b)), (3, .int (nI (bC ce b))), (4, .int (nI (bN b))), (5, .int (nI i))]) hx hb d_T_cheapest_52 hl (by decide) rfl (fun ls hl => ?_)
        refine lv_iload hx hb d_T_cheapest_54 (lv_at hl 0 rfl) ?_
        refine lv_iconst (v := -1) hx hb d_T_cheapest_56 (by decide) ?_
        refine lv_icmp_ne (tgt := 63) hx hb d_T_cheapest_57 (by decide) (fun h2 => ?_) (fun h2 => ?_)
        · have hRd := va_P1 (ro_kept hS hR hno) (carsL_at h1)
          refine lv_iload hx hb d_T_cheapest_63 (lv_at hl 0 rfl) ?_
          refine lv_aload hx hb d_T_cheapest_65 (lv_at hl 1 rfl) ?_
          refine va_get (D := (dC, dI)) (ci := 1) (v := .int (nI (ce i))) (C := R_C) (T := F_C) (N := 5) hx hb hts i_C hown hK hRd 0 rfl rfl 4 (by decide) (hts _ k_279) (fun _ h9 => h9) rfl d_T_cheapest_67 ?_
          refine nx_imul hx hb d_T_cheapest_70 ?_
          refine lv_istore (lv' := [(8, .int (nI (c0 * (ce i)))), (7, .int (nI c0)), (6, .ref (ca i)), (0, .ref (g 0)), (1, .int (nI ps)), (2, .int (bV b)), (3, .int (nI (bC ce b))), (4, .int (nI (bN b))), (5, .int (nI i))]) hx hb d_T_cheapest_71 hl (by decide) rfl (fun ls hl => ?_)
          refine lv_iload_n hx hb d_T_cheapest_73 rfl (lv_at hl 5 rfl) ?_
          refine lv_iconst (v := -1) hx hb d_T_cheapest_74 (by decide) ?_
          obtain ⟨hbc, hbn⟩ := bC_le hB0 SC_in (fun t ht => (hcar t (by omega)).2.2.2.2.2)
          have hmc : c0 * ce i ≤ 600000 := Nat.mul_le_mul hc6 hce2
          have hbv := bV_none hB0 SC_in (by omega)
          refine lv_icmp_eq (tgt := 97) hx hb d_T_cheapest_75 (by decide) (fun h3 => ?_) (fun h3 => ?_)
          · refine lv_bipush (v := nI 10) hx hb d_T_cheapest_97 (by decide) ?_
            refine lv_iload hx hb d_T_cheapest_99 (lv_at hl 8 rfl) ?_
            refine nx_imul hx hb d_T_cheapest_101 ?_
            refine lv_iload hx hb d_T_cheapest_102 (lv_at hl 1 rfl) ?_
            refine nx_iadd hx hb d_T_cheapest_104 ?_
            refine lv_istore_n (lv' := [(2, .int (nI ((10 * i) + c0))), (8, .int (nI (c0 * (ce i)))), (7, .int (nI c0)), (6, .ref (ca i)), (0, .ref (g 0)), (1, .int (nI ps)), (3, .int (nI (bC ce b))), (4, .int (nI (bN b))), (5, .int (nI i))]) hx hb d_T_cheapest_105 rfl hl (by decide) rfl (fun ls hl => ?_)
            refine lv_iload hx hb d_T_cheapest_106 (lv_at hl 1 rfl) ?_
            refine lv_istore_n (lv' := [(3, .int (nI (c0 * (ce i)))), (2, .int (nI ((10 * i) + c0))), (8, .int (nI (c0 * (ce i)))), (7, .int (nI c0)), (6, .ref (ca i)), (0, .ref (g 0)), (1, .int (nI ps)), (4, .int (nI (bN b))), (5, .int (nI i))]) hx hb d_T_cheapest_108 rfl hl (by decide) rfl (fun ls hl => ?_)
            refine lv_iload hx hb d_T_cheapest_109 (lv_at hl 3 rfl) ?_
            refine lv_istore (lv' := [(4, .int (nI c0)), (3, .int (nI (c0 * (ce i)))), (2, .int (nI ((10 * i) + c0))), (8, .int (nI (c0 * (ce i)))), (7, .int (nI c0)), (6, .ref (ca i)), (0, .ref (g 0)), (1, .int (nI ps)), (5, .int (nI i))]) hx hb d_T_cheapest_111 hl (by decide) rfl (fun ls hl => ?_)
            refine nx_inc (lv' := [(5, .int (nI (i + 1))), (4, .int (nI c0)), (3, .int (nI (c0 * (ce i)))), (2, .int (nI ((10 * i) + c0))), (8, .int (nI (c0 * (ce i)))), (7, .int (nI c0)), (6, .ref (ca i)), (0, .ref (g 0)), (1, .int (nI ps))]) hx hb d_T_cheapest_113 hl (k := 8) rfl (by decide) rfl (fun ls hl => ?_)
            refine lv_goto (tgt := 28) hx hb d_T_cheapest_116 (by decide) ?_
            exact ih (i + 1) (by omega) (by omega) (some (c0, i)) _ _ _ _ (cl_take hB0 hce1 hc1 hc6 hcp hcf (Or.inl (hbv.mp h3))) H locs ls hP hD hS (lv_sub hl [7, 8, 3, 2, 1, 0] rfl)
          · refine lv_iload hx hb d_T_cheapest_78 (lv_at hl 0 rfl) ?_
            refine lv_iload_n hx hb d_T_cheapest_80 rfl (lv_at hl 6 rfl) ?_
            refine nx_icmp_lt (tgt := 97) hx hb d_T_cheapest_81 (by decide) (by omega) (by omega) (fun h4 => ?_) (fun h4 => ?_)
            · refine lv_bipush (v := nI 10) hx hb d_T_cheapest_97 (by decide) ?_
              refine lv_iload hx hb d_T_cheapest_99 (lv_at hl 8 rfl) ?_
              refine nx_imul hx hb d_T_cheapest_101 ?_
              refine lv_iload hx hb d_T_cheapest_102 (lv_at hl 1 rfl) ?_
              refine nx_iadd hx hb d_T_cheapest_104 ?_
              refine lv_istore_n (lv' := [(2, .int (nI ((10 * i) + c0))), (8, .int (nI (c0 * (ce i)))), (7, .int (nI c0)), (6, .ref (ca i)), (0, .ref (g 0)), (1, .int (nI ps)), (3, .int (nI (bC ce b))), (4, .int (nI (bN b))), (5, .int (nI i))]) hx hb d_T_cheapest_105 rfl hl (by decide) rfl (fun ls hl => ?_)
              refine lv_iload hx hb d_T_cheapest_106 (lv_at hl 1 rfl) ?_
              refine lv_istore_n (lv' := [(3, .int (nI (c0 * (ce i)))), (2, .int (nI ((10 * i) + c0))), (8, .int (nI (c0 * (ce i)))), (7, .int (nI c0)), (6, .ref (ca i)), (0, .ref (g 0)), (1, .int (nI ps)), (4, .int (nI (bN b))), (5, .int (nI i))]) hx hb d_T_cheapest_108 rfl hl (by decide) rfl (fun ls hl => ?_)
              refine lv_iload hx hb d_T_cheapest_109 (lv_at hl 3 rfl) ?_
              refine lv_istore (lv' := [(4, .int (nI c0)), (3, .int (nI (c0 * (ce i)))), (2, .int (nI ((10 * i) + c0))), (8, .int (nI (c0 * (ce i)))), (7, .int (nI c0)), (6, .ref (ca i)), (0, .ref (g 0)), (1, .int (nI ps)), (5, .int (nI i))]) hx hb d_T_cheapest_111 hl (by decide) rfl (fun ls hl => ?_)
              refine nx_inc (lv' := [(5, .int (nI (i + 1))), (4, .int (nI c0)), (3, .int (nI (c0 * (ce i)))), (2, .int (nI ((10 * i) + c0))), (8, .int (nI (c0 * (ce i)))), (7, .int (nI c0)), (6, .ref (ca i)), (0, .ref (g 0)), (1, .int (nI ps))]) hx hb d_T_cheapest_113 hl (k := 8) rfl (by decide) rfl (fun ls hl => ?_)
              refine lv_goto (tgt := 28) hx hb d_T_cheapest_116 (by decide) ?_
              exact ih (i + 1) (by omega) (by omega) (some (c0, i)) _ _ _ _ (cl_take hB0 hce1 hc1 hc6 hcp hcf (Or.inr (Or.inl h4))) H locs ls hP hD hS (lv_sub hl [7, 8, 3, 2, 1, 0] rfl)
            · refine lv_iload hx hb d_T_cheapest_84 (lv_at hl 0 rfl) ?_
              refine lv_iload_n hx hb d_T_cheapest_86 rfl (lv_at hl 6 rfl) ?_
              refine nx_icmp_ne (tgt := 113) hx hb d_T_cheapest_87 (by decide) (by omega) (by omega) (fun h5 => ?_) (fun h5 => ?_)
              · refine nx_inc (lv' := [(5, .int (nI (i + 1))), (8, .int (nI (c0 * (ce i)))), (7, .int (nI c0)), (6, .ref (ca i)), (0, .ref (g 0)), (1, .int (nI ps)), (2, .int (bV b)), (3, .int (nI (bC ce b))), (4, .int (nI (bN b)))]) hx hb d_T_cheapest_113 hl (k := 8) rfl (by decide) rfl (fun ls hl => ?_)
                refine lv_goto (tgt := 28) hx hb d_T_cheapest_116 (by decide) ?_
                exact ih (i + 1) (by omega) (by omega) (b) _ _ _ _ (cl_keep' (fun q => h3 (hbv.mpr q)) hB0 hce1 hcf (by omega) (fun q => absurd q h5)) H locs ls hP hD hS (lv_sub hl [4, 5, 6, 7, 8, 0] rfl)
              · refine lv_iload hx hb d_T_cheapest_90 (lv_at hl 1 rfl) ?_
                refine lv_iload hx hb d_T_cheapest_92 (lv_at hl 7 rfl) ?_
                refine nx_icmp_ge (tgt := 113) hx hb d_T_cheapest_94 (by decide) (by omega) (by omega) (fun h6 => ?_) (fun h6 => ?_)
                · refine nx_inc (lv' := [(5, .int (nI (i + 1))), (8, .int (nI (c0 * (ce i)))), (7, .int (nI c0)), (6, .ref (ca i)), (0, .ref (g 0)), (1, .int (nI ps)), (2, .int (bV b)), (3, .int (nI (bC ce b))), (4, .int (nI (bN b)))]) hx hb d_T_cheapest_113 hl (k := 8) rfl (by decide) rfl (fun ls hl => ?_)
                  refine lv_goto (tgt := 28) hx hb d_T_cheapest_116 (by decide) ?_
                  exact ih (i + 1) (by omega) (by omega) (b) _ _ _ _ (cl_keep' (fun q => h3 (hbv.mpr q)) hB0 hce1 hcf (by omega) (fun _ => h6)) H locs ls hP hD hS (lv_sub hl [4, 5, 6, 7, 8, 0] rfl)
                · refine lv_bipush (v := nI 10) hx hb d_T_cheapest_97 (by decide) ?_
                  refine lv_iload hx hb d_T_cheapest_99 (lv_at hl 8 rfl) ?_
                  refine nx_imul hx hb d_T_cheapest_101 ?_
                  refine lv_iload hx hb d_T_cheapest_102 (lv_at hl 1 rfl) ?_
                  refine nx_iadd hx hb d_T_cheapest_104 ?_
                  refine lv_istore_n (lv' := [(2, .int (nI ((10 * i) + c0))), (8, .int (nI (c0 * (ce i)))), (7, .int (nI c0)), (6, .ref (ca i)), (0, .ref (g 0)), (1, .int (nI ps)), (3, .int (nI (bC ce b))), (4, .int (nI (bN b))), (5, .int (nI i))]) hx hb d_T_cheapest_105 rfl hl (by decide) rfl (fun ls hl => ?_)
                  refine lv_iload hx hb d_T_cheapest_106 (lv_at hl 1 rfl) ?_
                  refine lv_istore_n (lv' := [(3, .int (nI (c0 * (ce i)))), (2, .int (nI ((10 * i) + c0))), (8, .int (nI (c0 * (ce i)))), (7, .int (nI c0)), (6, .ref (ca i)), (0, .ref (g 0)), (1, .int (nI ps)), (4, .int (nI (bN b))), (5, .int (nI i))]) hx hb d_T_cheapest_108 rfl hl (by decide) rfl (fun ls hl => ?_)
                  refine lv_iload hx hb d_T_cheapest_109 (lv_at hl 3 rfl) ?_
                  refine lv_istore (lv' := [(4, .int (nI c0)), (3, .int (nI (c0 * (ce i)))), (2, .int (nI ((10 * i) + c0))), (8, .int (nI (c0 * (ce i)))), (7, .int (nI c0)), (6, .ref (ca i)), (0, .ref (g 0)), (1, .int (nI ps)), (5, .int (nI i))]) hx hb d_T_cheapest_111 hl (by decide) rfl (fun ls hl => ?_)
                  refine nx_inc (lv' := [(5, .int (nI (i + 1))), (4, .int (nI c0)), (3, .int (nI (c0 * (ce i)))), (2, .int (nI ((10 * i) + c0))), (8, .int (nI (c0 * (ce i)))), (7, .int (nI c0)), (6, .ref (ca i)), (0, .ref (g 0)), (1, .int (nI ps))]) hx hb d_T_cheapest_113 hl (k := 8) rfl (by decide) rfl (fun ls hl => ?_)
                  refine lv_goto (tgt := 28) hx hb d_T_cheapest_116 (by decide) ?_
                  exact ih (i + 1) (by omega) (by omega) (some (c0, i)) _ _ _ _ (cl_take hB0 hce1 hc1 hc6 hcp hcf (Or.inr (Or.inr ⟨by omega, by omega⟩))) H locs ls hP hD hS (lv_sub hl [7, 8, 3, 2, 1, 0] rfl)
        · exact absurd h2 (fun q => absurd q (nI_m1 hc6))
end
set_option maxHeartbeats 4000000 in
set_option maxRecDepth 100000 in
theorem c_T_cheapest (l : Launch) {dC : Nat → ClassId} {dI : Nat → Nat → Nat} {cI cL cT : ClassId} {sa : Nat → Nat} (sz : Nat) (g ca : Nat → Nat) (F nt E e0 wy so ho : Nat) (pp hh rm sd dr pe ce : Nat → Nat) (ps : Nat) (hF12 : F ≤ 12) (hF1 : 1 ≤ F) (hU2 : sm pp 1 F ≤ 200) (hhh : ∀ k, k < F → hh (1 + k) ≤ 1200) (hps : ps < 2 ^ 31) (hn6 : nt ≤ 6) (hcar : ∀ t, t < nt → (1 ≤ rm t ∧ rm t ≤ 5) ∧ (1 ≤ sd t ∧ sd t ≤ 100) ∧ dr t ≤ 30 ∧ pe t ≤ 10 ∧ (1 ≤ ce t ∧ ce t ≤ 100000)) : Met l y_T_cheapest (Cond.code y_T_cheapest b_T_cheapest 9 (some .int) :: gw) ({ frames := 3, cells := 0, slots := 0, locals := 90 } : Room) (wx dC dI cI cL cT sa [.ref (g 0), .int (nI ps)] [(g 0, .inr (5, [.ref (g 1), .ref (g 4), .int (nI nt), .ref (g 5), .ref (g 6), .ref (g 11)])), (g 1, .inr (0, [.ref (g 2), .ref (g 3), .int (nI F), .int (nI E)])), (g 4, .inl (cT, 6, .inr (.inr (.inr (.inr (tq ca nt)))))), (g 2, .inl (cI, 13, .inl (fun j => nI (pp j)))), (g 3, .inl (cI, 13, .inl (fun j => nI (hh j)))), (g 5, .inr (2, [.int (nI e0), .long (lN wy), .long (lN so), .long (lN ho)]))] (carsL ca rm sd dr pe ce nt) sz) (va_Qi (fun r (u : Nat × Nat × Nat × Nat) => ∃ b, isB ce (SC (fC pp hh rm sd dr pe F) ps nt) b ∧ r = bV b) (fun (u : Nat × Nat × Nat × Nat) => wB dC dI [(g 0, .inr (5, [.ref (g 1), .ref (g 4), .int (nI nt), .ref (g 5), .ref (g 6), .ref (g 11)])), (g 1, .inr (0, [.ref (g 2), .ref (g 3), .int (nI F), .int (nI E)])), (g 4, .inl (cT, 6, .inr (.inr (.inr (.inr (tq ca nt)))))), (g 2, .inl (cI, 13, .inl (fun j => nI (pp j)))), (g 3, .inl (cI, 13, .inl (fun j => nI (hh j)))), (g 5, .inr (2, [.int (nI e0), .long (lN wy), .long (lN so), .long (lN ho)]))] [(g 0, .inr (5, [.ref (g 1), .ref (g 4), .int (nI nt), .ref (g 5), .ref (g 6), .ref (g 11)])), (g 1, .inr (0, [.ref (g 2), .ref (g 3), .int (nI F), .int (nI E)])), (g 4, .inl (cT, 6, .inr (.inr (.inr (.inr (tq ca nt)))))), (g 2, .inl (cI, 13, .inl (fun j => nI (pp j)))), (g 3, .inl (cI, 13, .inl (fun j => nI (hh j)))), (g 5, .inr (2, [.int (nI u.1), .long (lN u.2.1), .long (lN u.2.2.1), .long (lN u.2.2.2)]))] sz ()) (va_A [(g 0, .inr (5, [.ref (g 1), .ref (g 4), .int (nI nt), .ref (g 5), .ref (g 6), .ref (g 11)])), (g 1, .inr (0, [.ref (g 2), .ref (g 3), .int (nI F), .int (nI E)])), (g 4, .inl (cT, 6, .inr (.inr (.inr (.inr (tq ca nt)))))), (g 2, .inl (cI, 13, .inl (fun j => nI (pp j)))), (g 3, .inl (cI, 13, .inl (fun j => nI (hh j)))), (g 5, .inr (2, [.int (nI e0), .long (lN wy), .long (lN so), .long (lN ho)]))] sz)) 0 0 (va_A [(g 0, .inr (5, [.ref (g 1), .ref (g 4), .int (nI nt), .ref (g 5), .ref (g 6), .ref (g 11)])), (g 1, .inr (0, [.ref (g 2), .ref (g 3), .int (nI F), .int (nI E)])), (g 4, .inl (cT, 6, .inr (.inr (.inr (.inr (tq ca nt)))))), (g 2, .inl (cI, 13, .inl (fun j => nI (pp j)))), (g 3, .inl (cI, 13, .inl (fun j => nI (hh j)))), (g 5, .inr (2, [.int (nI e0), .long (lN wy), .long (lN so), .long (lN ho)]))] sz) := by
  refine Met.ofW (cc := b_T_cheapest) (maxL := 9) (ret := (some .int)) (by decide) rfl ?_
  intro p e s m args below meth c s₁ B hml hv
  obtain ⟨rfl, hsz, hC, hP, hD0, hR, hno⟩ := hv
  have hx := B.exec
  have hb := B.bytes
  have hr := B.returns
  have hts : ∀ w ∈ gw, w.before ([.ref (g 0), .int (nI ps)] : List Value).toArray s = true := fun w hw => atoms_spec (ws := Cond.code y_T_cheapest b_T_cheapest 9 (some .int) :: gw) B.pre w (List.mem_cons_of_mem _ hw)
  have hown : s.vm.findClass R_T = some m.cls := findClass_of_methodNamed B.named
  have hlocks := B.notSynchronized
  have hK := hC.1
  have hfr : 3 ≤ (headSpec (Cond.code y_T_cheapest b_T_cheapest 9 (some .int) :: gw) ({ frames := 3, cells := 0, slots := 0, locals := 90 } : Room)).room.frames := Nat.le_refl _
  have hlo : 90 ≤ (headSpec (Cond.code y_T_cheapest b_T_cheapest 9 (some .int) :: gw) ({ frames := 3, cells := 0, slots := 0, locals := 90 } : Room)).room.locals := Nat.le_refl _
  have hce : 0 ≤ (headSpec (Cond.code y_T_cheapest b_T_cheapest 9 (some .int) :: gw) ({ frames := 3, cells := 0, slots := 0, locals := 90 } : Room)).room.cells := Nat.zero_le _
  have hsl : 0 ≤ (headSpec (Cond.code y_T_cheapest b_T_cheapest 9 (some .int) :: gw) ({ frames := 3, cells := 0, slots := 0, locals := 90 } : Room)).room.slots := Nat.zero_le _
  subst hsz
  have hD := hD0.self (sz := s.heap.size)
  unfold wB
  generalize hAe : va_A [(g 0, .inr (5, [.ref (g 1), .ref (g 4), .int (nI nt), .ref (g 5), .ref (g 6), .ref (g 11)])), (g 1, .inr (0, [.ref (g 2), .ref (g 3), .int (nI F), .int (nI E)])), (g 4, .inl (cT, 6, .inr (.inr (.inr (.inr (tq ca nt)))))), (g 2, .inl (cI, 13, .inl (fun j => nI (pp j)))), (g 3, .inl (cI, 13, .inl (fun j => nI (hh j)))), (g 5, .inr (2, [.int (nI e0), .long (lN wy), .long (lN so), .long (lN ho)]))] s.heap.size = A at hD hno ⊢
  have hA : ∀ q : Nat, s.heap.size ≤ q → A q := fun q h => by rw [← hAe]; exact Or.inr h
  have hS : va_S A s.heap s.heap [] := va_S.rf
  have hl := lv_entry ([.ref (g 0), .int (nI ps)]) (n := 9) (Nat.le_of_ble_eq_true rfl)
  rw [lg_entry_eq]
  generalize (lg_sl ([.ref (g 0), .int (nI ps)]) ++ List.replicate (9 - (lg_sl ([.ref (g 0), .int (nI ps)])).length) Slot.unset).toArray = ls at hl ⊢
  have hl : lv_has ls 9 [(0, .ref (g 0)), (1, .int (nI ps))] := hl
  refine lv_iload_n hx hb d_T_cheapest_0 rfl (lv_at hl 1 rfl) ?_
  refine lv_if_ge (tgt := 14) hx hb d_T_cheapest_1 (by decide) (fun h1 => ?_) (fun h1 => ?_)
  · refine lv_aload_n hx hb d_T_cheapest_14 rfl (lv_at hl 0 rfl) ?_
    refine ro_callv (va_runV (As := []) (rest := []) ⟨hx, hb, hml, hown, hts⟩ (c_T_requireSomeFloor l g F nt E hF12 (by omega)) (cwV 0 hts (gw_V k_372 k_369 k_371 ks_T_requireSomeFloor k_1) rfl rfl rfl (by decide +kernel) ⟨Nat.le_trans (Nat.le_of_ble_eq_true rfl) hfr, Nat.le_trans (Nat.le_of_ble_eq_true rfl) hlo⟩) ⟨pr_blind, va_recv hK hP (ci := 5) (q0 := 0) rfl rfl, pr_at hC (hP.sub (ws' := [(g 0, .inr (5, [.ref (g 1), .ref (g 4), .int (nI nt), .ref (g 5), .ref (g 6), .ref (g 11)])), (g 1, .inr (0, [.ref (g 2), .ref (g 3), .int (nI F), .int (nI E)]))]) [0, 1] rfl)⟩ rfl rfl hl.1 rfl (lv_room (Nat.le_of_ble_eq_true rfl)) d_T_cheapest_15 ⟨hce, hsl⟩) ?_
    refine lv_iconst (v := -1) hx hb d_T_cheapest_18 (by decide) ?_
    refine lv_istore_n (lv' := [(2, .int ((-1))), (0, .ref (g 0)), (1, .int (nI ps))]) hx hb d_T_cheapest_19 rfl hl (by decide) rfl (fun ls hl => ?_)
    refine lv_iconst (v := nI 0) hx hb d_T_cheapest_20 (by decide) ?_
    refine lv_istore_n (lv' := [(3, .int (nI 0)), (2, .int ((-1))), (0, .ref (g 0)), (1, .int (nI ps))]) hx hb d_T_cheapest_21 rfl hl (by decide) rfl (fun ls hl => ?_)
    refine lv_iconst (v := nI 0) hx hb d_T_cheapest_22 (by decide) ?_
    refine lv_istore (lv' := [(4, .int (nI 0)), (3, .int (nI 0)), (2, .int ((-1))), (0, .ref (g 0)), (1, .int (nI ps))]) hx hb d_T_cheapest_23 hl (by decide) rfl (fun ls hl => ?_)
    refine lv_iconst (v := nI 0) hx hb d_T_cheapest_25 (by decide) ?_
    refine lv_istore (lv' := [(5, .int (nI 0)), (4, .int (nI 0)), (3, .int (nI 0)), (2, .int ((-1))), (0, .ref (g 0)), (1, .int (nI ps))]) hx hb d_T_cheapest_26 hl (by decide) rfl (fun ls hl => ?_)
    refine l_T_cheap ⟨hx, hb, hml, hown, hts⟩ hC hF12 hF1 hU2 hhh hps hn6 hcar hfr hlo hce hsl hA hR hno (fun b e0 wy so ho hB H locs ls hP hD hS hl => ?_) (nt + 1) 0 (by omega) (by omega) none e0 wy so ho cl_0 s.heap [] ls hP hD hS (lv_sub hl [4, 5, 3, 2, 1, 0] rfl)
    refine lv_iload_n hx hb d_T_cheapest_119 rfl (lv_at hl 2 rfl) ?_
    exact W.iret hx hb hr (fun t ht hW => ⟨⟨_, (e0, wy, so, ho), rfl, ⟨b, hB, rfl⟩, by rw [ht]; exact hP, hD⟩, hS.F ht⟩) hS.2.2 d_T_cheapest_120
  · exact absurd (Int32.le_iff_toInt_le.mpr (by rw [show (0 : Int32) = nI 0 by decide, nI_toInt (by decide), nI_toInt hps]; omega)) h1
set_option maxHeartbeats 4000000 in
set_option maxRecDepth 100000 in
theorem c_M_cheapest_b1 (l : Launch) {dC : Nat → ClassId} {dI : Nat → Nat → Nat} {cI cL cT : ClassId} {sa : Nat → Nat} (sz : Nat) (q : Nat → Nat) (th : Int32) (F nt : Nat) (ab be : Int64) (pp hh rm sd dr pe ce : Nat → Nat) (p0 : Int32) (hbad : p0.toInt < 0) : Met l y_M_cheapest (Cond.code y_M_cheapest b_M_cheapest 7 (some .int) :: gw) ({ frames := 4, cells := 0, slots := 0, locals := 109 } : Room) (wr dC dI cI cL cT sa [.ref (q 0), .int p0] [(q 0, .inr (6, (mF q th F nt ab be))), (q 1, .inl (cI, 13, .inl (fun j => nI (pp j)))), (q 2, .inl (cI, 13, .inl (fun j => nI (hh j)))), (q 4, .inl (cI, 6, .inl (fun j => nI (rm j)))), (q 5, .inl (cI, 6, .inl (fun j => nI (sd j)))), (q 6, .inl (cI, 6, .inl (fun j => nI (dr j)))), (q 7, .inl (cI, 6, .inl (fun j => nI (pe j)))), (q 8, .inl (cI, 6, .inl (fun j => nI (ce j))))] sz) (va_Qi (fun r (_ : Unit) => r = nI 0) (wB dC dI [(q 0, .inr (6, (mF q th F nt ab be))), (q 1, .inl (cI, 13, .inl (fun j => nI (pp j)))), (q 2, .inl (cI, 13, .inl (fun j => nI (hh j)))), (q 4, .inl (cI, 6, .inl (fun j => nI (rm j)))), (q 5, .inl (cI, 6, .inl (fun j => nI (sd j)))), (q 6, .inl (cI, 6, .inl (fun j => nI (dr j)))), (q 7, .inl (cI, 6, .inl (fun j => nI (pe j)))), (q 8, .inl (cI, 6, .inl (fun j => nI (ce j))))] [(q 0, .inr (6, (mF q (nI 1) F nt ab be))), (q 1, .inl (cI, 13, .inl (fun j => nI (pp j)))), (q 2, .inl (cI, 13, .inl (fun j => nI (hh j)))), (q 4, .inl (cI, 6, .inl (fun j => nI (rm j)))), (q 5, .inl (cI, 6, .inl (fun j => nI (sd j)))), (q 6, .inl (cI, 6, .inl (fun j => nI (dr j)))), (q 7, .inl (cI, 6, .inl (fun j => nI (pe j)))), (q 8, .inl (cI, 6, .inl (fun j => nI (ce j))))] sz) (va_A [(q 0, .inr (6, (mF q th F nt ab be))), (q 1, .inl (cI, 13, .inl (fun j => nI (pp j)))), (q 2, .inl (cI, 13, .inl (fun j => nI (hh j)))), (q 4, .inl (cI, 6, .inl (fun j => nI (rm j)))), (q 5, .inl (cI, 6, .inl (fun j => nI (sd j)))), (q 6, .inl (cI, 6, .inl (fun j => nI (dr j)))), (q 7, .inl (cI, 6, .inl (fun j => nI (pe j)))), (q 8, .inl (cI, 6, .inl (fun j => nI (ce j))))] sz)) 0 0 (va_A [(q 0, .inr (6, (mF q th F nt ab be))), (q 1, .inl (cI, 13, .inl (fun j => nI (pp j)))), (q 2, .inl (cI, 13, .inl (fun j => nI (hh j)))), (q 4, .inl (cI, 6, .inl (fun j => nI (rm j)))), (q 5, .inl (cI, 6, .inl (fun j => nI (sd j)))), (q 6, .inl (cI, 6, .inl (fun j => nI (dr j)))), (q 7, .inl (cI, 6, .inl (fun j => nI (pe j)))), (q 8, .inl (cI, 6, .inl (fun j => nI (ce j))))] sz) := by
  refine Met.ofW (cc := b_M_cheapest) (maxL := 7) (ret := (some .int)) (by decide) rfl ?_
  intro p e s m args below meth c s₁ B hml hv
  obtain ⟨rfl, hsz, hC, hP, hD0⟩ := hv
  have hx := B.exec
  have hb := B.bytes
  have hr := B.returns
  have hts : ∀ w ∈ gw, w.before ([.ref (q 0), .int p0] : List Value).toArray s = true := fun w hw => atoms_spec (ws := Cond.code y_M_cheapest b_M_cheapest 7 (some .int) :: gw) B.pre w (List.mem_cons_of_mem _ hw)
  have hown : s.vm.findClass R_M = some m.cls := findClass_of_methodNamed B.named
  have hlocks := B.notSynchronized
  have hK := hC.1
  have hfr : 4 ≤ (headSpec (Cond.code y_M_cheapest b_M_cheapest 7 (some .int) :: gw) ({ frames := 4, cells := 0, slots := 0, locals := 109 } : Room)).room.frames := Nat.le_refl _
  have hlo : 109 ≤ (headSpec (Cond.code y_M_cheapest b_M_cheapest 7 (some .int) :: gw) ({ frames := 4, cells := 0, slots := 0, locals := 109 } : Room)).room.locals := Nat.le_refl _
  have hce : 0 ≤ (headSpec (Cond.code y_M_cheapest b_M_cheapest 7 (some .int) :: gw) ({ frames := 4, cells := 0, slots := 0, locals := 109 } : Room)).room.cells := Nat.zero_le _
  have hsl : 0 ≤ (headSpec (Cond.code y_M_cheapest b_M_cheapest 7 (some .int) :: gw) ({ frames := 4, cells := 0, slots := 0, locals := 109 } : Room)).room.slots := Nat.zero_le _
  subst hsz
  have hD := hD0.self (sz := s.heap.size)
  unfold wB
  generalize hAe : va_A [(q 0, .inr (6, (mF q th F nt ab be))), (q 1, .inl (cI, 13, .inl (fun j => nI (pp j)))), (q 2, .inl (cI, 13, .inl (fun j => nI (hh j)))), (q 4, .inl (cI, 6, .inl (fun j => nI (rm j)))), (q 5, .inl (cI, 6, .inl (fun j => nI (sd j)))), (q 6, .inl (cI, 6, .inl (fun j => nI (dr j)))), (q 7, .inl (cI, 6, .inl (fun j => nI (pe j)))), (q 8, .inl (cI, 6, .inl (fun j => nI (ce j))))] s.heap.size = A at hD ⊢
  have hA : ∀ q : Nat, s.heap.size ≤ q → A q := fun q h => by rw [← hAe]; exact Or.inr h
  have hS : va_S A s.heap s.heap [] := va_S.rf
  have hl := lv_entry ([.ref (q 0), .int p0]) (n := 7) (Nat.le_of_ble_eq_true rfl)
  rw [lg_entry_eq]
  generalize (lg_sl ([.ref (q 0), .int p0]) ++ List.replicate (7 - (lg_sl ([.ref (q 0), .int p0])).length) Slot.unset).toArray = ls at hl ⊢
  have hl : lv_has ls 7 [(0, .ref (q 0)), (1, .int p0)] := hl
  refine lv_aload_n hx hb d_M_cheapest_0 rfl (lv_at hl 0 rfl) ?_
  refine lv_iload_n hx hb d_M_cheapest_1 rfl (lv_at hl 1 rfl) ?_
  refine lv_if_ge (tgt := 9) hx hb d_M_cheapest_2 (by decide) (fun h1 => ?_) (fun h1 => ?_)
  · exact absurd (Int32.le_iff_toInt_le.mp h1) (by rw [show (0 : Int32) = nI 0 by decide, nI_toInt (by decide)]; omega)
  · refine lv_iconst (v := nI 1) hx hb d_M_cheapest_5 (by decide) ?_
    refine lv_goto (tgt := 21) hx hb d_M_cheapest_6 (by decide) ?_
    refine va_put (D := (dC, dI)) (ci := 6) (v := .int (nI 1)) (ty := (.int)) (C := R_M) (T := F_M) (N := 17) hx hb hts i_M ft_M ft_M_ok n_M hown hK hP hD hS 0 rfl rfl 0 (by decide) (hts _ k_477) (fun _ h9 => h9) rfl (by decide +kernel) rfl rfl (Nat.le_of_ble_eq_true rfl) d_M_cheapest_21 (fun H locs hP hD hS => ?_)
    have hP : va_P (dC, dI) vwCl [(q 0, .inr (6, (mF q (nI 1) F nt ab be))), (q 1, .inl (cI, 13, .inl (fun j => nI (pp j)))), (q 2, .inl (cI, 13, .inl (fun j => nI (hh j)))), (q 4, .inl (cI, 6, .inl (fun j => nI (rm j)))), (q 5, .inl (cI, 6, .inl (fun j => nI (sd j)))), (q 6, .inl (cI, 6, .inl (fun j => nI (dr j)))), (q 7, .inl (cI, 6, .inl (fun j => nI (pe j)))), (q 8, .inl (cI, 6, .inl (fun j => nI (ce j))))] H := hP
    have hD : va_D A [(q 0, .inr (6, (mF q (nI 1) F nt ab be))), (q 1, .inl (cI, 13, .inl (fun j => nI (pp j)))), (q 2, .inl (cI, 13, .inl (fun j => nI (hh j)))), (q 4, .inl (cI, 6, .inl (fun j => nI (rm j)))), (q 5, .inl (cI, 6, .inl (fun j => nI (sd j)))), (q 6, .inl (cI, 6, .inl (fun j => nI (dr j)))), (q 7, .inl (cI, 6, .inl (fun j => nI (pe j)))), (q 8, .inl (cI, 6, .inl (fun j => nI (ce j))))] := hD
    refine lv_iconst (v := -1) hx hb d_M_cheapest_24 (by decide) ?_
    refine lv_istore_n (lv' := [(2, .int ((-1))), (0, .ref (q 0)), (1, .int p0)]) hx hb d_M_cheapest_25 rfl hl (by decide) rfl (fun ls hl => ?_)
    refine lv_iconst (v := nI 0) hx hb d_M_cheapest_26 (by decide) ?_
    refine lv_istore_n (lv' := [(3, .int (nI 0)), (2, .int ((-1))), (0, .ref (q 0)), (1, .int p0)]) hx hb d_M_cheapest_27 rfl hl (by decide) rfl (fun ls hl => ?_)
    refine lv_iconst (v := nI 1) hx hb d_M_cheapest_28 (by decide) ?_
    refine lv_istore (lv' := [(4, .int (nI 1)), (3, .int (nI 0)), (2, .int ((-1))), (0, .ref (q 0)), (1, .int p0)]) hx hb d_M_cheapest_29 hl (by decide) rfl (fun ls hl => ?_)
    refine lv_iload hx hb d_M_cheapest_31 (lv_at hl 0 rfl) ?_
    refine lv_bipush (v := nI 6) hx hb d_M_cheapest_33 (by decide) ?_
    refine nx_icmp_gt (tgt := 134) hx hb d_M_cheapest_35 (by decide) (by omega) (by omega) (fun h5 => ?_) (fun h5 => ?_)
    · exact absurd h5 (by omega)
    · refine lv_aload_n hx hb d_M_cheapest_38 rfl (lv_at hl 3 rfl) ?_
      refine va_get (D := (dC, dI)) (ci := 6) (v := .int (nI 1)) (C := R_M) (T := F_M) (N := 17) hx hb hts i_M hown hK hP 0 rfl rfl 0 (by decide) (hts _ k_477) (fun _ h9 => h9) rfl d_M_cheapest_39 ?_
      refine nx_if_ne (tgt := 134) hx hb d_M_cheapest_42 (by decide) (by omega) (fun h6 => ?_) (fun h6 => ?_)
      · refine lv_aload_n hx hb d_M_cheapest_134 rfl (lv_at hl 3 rfl) ?_
        refine va_get (D := (dC, dI)) (ci := 6) (v := .int (nI 1)) (C := R_M) (T := F_M) (N := 17) hx hb hts i_M hown hK hP 0 rfl rfl 0 (by decide) (hts _ k_477) (fun _ h9 => h9) rfl d_M_cheapest_135 ?_
        refine nx_if_le (tgt := 145) hx hb d_M_cheapest_138 (by decide) (by omega) (fun h7 => ?_) (fun h7 => ?_)
        · exact absurd h7 (by omega)
        · refine lv_iconst (v := nI 0) hx hb d_M_cheapest_141 (by decide) ?_
          refine lv_goto (tgt := 146) hx hb d_M_cheapest_142 (by decide) ?_
          exact W.iret hx hb hr (fun t ht hW => ⟨⟨_, (), rfl, rfl, by rw [ht]; exact hP, hD⟩, hS.F ht⟩) hS.2.2 d_M_cheapest_146
      · exact absurd h6 (by omega)
set_option maxHeartbeats 4000000 in
set_option maxRecDepth 100000 in
theorem c_M_cheapest_b2 (l : Launch) {dC : Nat → ClassId} {dI : Nat → Nat → Nat} {cI cL cT : ClassId} {sa : Nat → Nat} (sz : Nat) (q : Nat → Nat) (th : Int32) (F nt : Nat) (ab be : Int64) (pp hh rm sd dr pe ce : Nat → Nat) (p0 : Int32) (hp0 : 0 ≤ p0.toInt) (hbad : F = 0) : Met l y_M_cheapest (Cond.code y_M_cheapest b_M_cheapest 7 (some .int) :: gw) ({ frames := 4, cells := 0, slots := 0, locals := 109 } : Room) (wr dC dI cI cL cT sa [.ref (q 0), .int p0] [(q 0, .inr (6, (mF q th F nt ab be))), (q 1, .inl (cI, 13, .inl (fun j => nI (pp j)))), (q 2, .inl (cI, 13, .inl (fun j => nI (hh j)))), (q 4, .inl (cI, 6, .inl (fun j => nI (rm j)))), (q 5, .inl (cI, 6, .inl (fun j => nI (sd j)))), (q 6, .inl (cI, 6, .inl (fun j => nI (dr j)))), (q 7, .inl (cI, 6, .inl (fun j => nI (pe j)))), (q 8, .inl (cI, 6, .inl (fun j => nI (ce j))))] sz) (va_Qi (fun r (_ : Unit) => r = nI 0) (wB dC dI [(q 0, .inr (6, (mF q th F nt ab be))), (q 1, .inl (cI, 13, .inl (fun j => nI (pp j)))), (q 2, .inl (cI, 13, .inl (fun j => nI (hh j)))), (q 4, .inl (cI, 6, .inl (fun j => nI (rm j)))), (q 5, .inl (cI, 6, .inl (fun j => nI (sd j)))), (q 6, .inl (cI, 6, .inl (fun j => nI (dr j)))), (q 7, .inl (cI, 6, .inl (fun j => nI (pe j)))), (q 8, .inl (cI, 6, .inl (fun j => nI (ce j))))] [(q 0, .inr (6, (mF q (nI 2) F nt ab be))), (q 1, .inl (cI, 13, .inl (fun j => nI (pp j)))), (q 2, .inl (cI, 13, .inl (fun j => nI (hh j)))), (q 4, .inl (cI, 6, .inl (fun j => nI (rm j)))), (q 5, .inl (cI, 6, .inl (fun j => nI (sd j)))), (q 6, .inl (cI, 6, .inl (fun j => nI (dr j)))), (q 7, .inl (cI, 6, .inl (fun j => nI (pe j)))), (q 8, .inl (cI, 6, .inl (fun j => nI (ce j))))] sz) (va_A [(q 0, .inr (6, (mF q th F nt ab be))), (q 1, .inl (cI, 13, .inl (fun j => nI (pp j)))), (q 2, .inl (cI, 13, .inl (fun j => nI (hh j)))), (q 4, .inl (cI, 6, .inl (fun j => nI (rm j)))), (q 5, .inl (cI, 6, .inl (fun j => nI (sd j)))), (q 6, .inl (cI, 6, .inl (fun j => nI (dr j)))), (q 7, .inl (cI, 6, .inl (fun j => nI (pe j)))), (q 8, .inl (cI, 6, .inl (fun j => nI (ce j))))] sz)) 0 0 (va_A [(q 0, .inr (6, (mF q th F nt ab be))), (q 1, .inl (cI, 13, .inl (fun j => nI (pp j)))), (q 2, .inl (cI, 13, .inl (fun j => nI (hh j)))), (q 4, .inl (cI, 6, .inl (fun j => nI (rm j)))), (q 5, .inl (cI, 6, .inl (fun j => nI (sd j)))), (q 6, .inl (cI, 6, .inl (fun j => nI (dr j)))), (q 7, .inl (cI, 6, .inl (fun j => nI (pe j)))), (q 8, .inl (cI, 6, .inl (fun j => nI (ce j))))] sz) := by
  refine Met.ofW (cc := b_M_cheapest) (maxL := 7) (ret := (some .int)) (by decide) rfl ?_
  intro p e s m args below meth c s₁ B hml hv
  obtain ⟨rfl, hsz, hC, hP, hD0⟩ := hv
  have hx := B.exec
  have hb := B.bytes
  have hr := B.returns
  have hts : ∀ w ∈ gw, w.before ([.ref (q 0), .int p0] : List Value).toArray s = true := fun w hw => atoms_spec (ws := Cond.code y_M_cheapest b_M_cheapest 7 (some .int) :: gw) B.pre w (List.mem_cons_of_mem _ hw)
  have hown : s.vm.findClass R_M = some m.cls := findClass_of_methodNamed B.named
  have hlocks := B.notSynchronized
  have hK := hC.1
  have hfr : 4 ≤ (headSpec (Cond.code y_M_cheapest b_M_cheapest 7 (some .int) :: gw) ({ frames := 4, cells := 0, slots := 0, locals := 109 } : Room)).room.frames := Nat.le_refl _
  have hlo : 109 ≤ (headSpec (Cond.code y_M_cheapest b_M_cheapest 7 (some .int) :: gw) ({ frames := 4, cells := 0, slots := 0, locals := 109 } : Room)).room.locals := Nat.le_refl _
  have hce : 0 ≤ (headSpec (Cond.code y_M_cheapest b_M_cheapest 7 (some .int) :: gw) ({ frames := 4, cells := 0, slots := 0, locals := 109 } : Room)).room.cells := Nat.zero_le _
  have hsl : 0 ≤ (headSpec (Cond.code y_M_cheapest b_M_cheapest 7 (some .int) :: gw) ({ frames := 4, cells := 0, slots := 0, locals := 109 } : Room)).room.slots := Nat.zero_le _
  subst hsz
  have hD := hD0.self (sz := s.heap.size)
  unfold wB
  generalize hAe : va_A [(q 0, .inr (6, (mF q th F nt ab be))), (q 1, .inl (cI, 13, .inl (fun j => nI (pp j)))), (q 2, .inl (cI, 13, .inl (fun j => nI (hh j)))), (q 4, .inl (cI, 6, .inl (fun j => nI (rm j)))), (q 5, .inl (cI, 6, .inl (fun j => nI (sd j)))), (q 6, .inl (cI, 6, .inl (fun j => nI (dr j)))), (q 7, .inl (cI, 6, .inl (fun j => nI (pe j)))), (q 8, .inl (cI, 6, .inl (fun j => nI (ce j))))] s.heap.size = A at hD ⊢
  have hA : ∀ q : Nat, s.heap.size ≤ q → A q := fun q h => by rw [← hAe]; exact Or.inr h
  have hS : va_S A s.heap s.heap [] := va_S.rf
  have hl := lv_entry ([.ref (q 0), .int p0]) (n := 7) (Nat.le_of_ble_eq_true rfl)
  rw [lg_entry_eq]
  generalize (lg_sl ([.ref (q 0), .int p0]) ++ List.replicate (7 - (lg_sl ([.ref (q 0), .int p0])).length) Slot.unset).toArray = ls at hl ⊢
  have hl : lv_has ls 7 [(0, .ref (q 0)), (1, .int p0)] := hl
  refine lv_aload_n hx hb d_M_cheapest_0 rfl (lv_at hl 0 rfl) ?_
  refine lv_iload_n hx hb d_M_cheapest_1 rfl (lv_at hl 1 rfl) ?_
  refine lv_if_ge (tgt := 9) hx hb d_M_cheapest_2 (by decide) (fun h1 => ?_) (fun h1 => ?_)
  · refine lv_aload_n hx hb d_M_cheapest_9 rfl (lv_at hl 0 rfl) ?_
    refine va_get (D := (dC, dI)) (ci := 6) (v := .int (nI F)) (C := R_M) (T := F_M) (N := 17) hx hb hts i_M hown hK hP 0 rfl rfl 3 (by decide) (hts _ k_480) (fun _ h9 => h9) rfl d_M_cheapest_10 ?_
    refine nx_if_ne (tgt := 20) hx hb d_M_cheapest_13 (by decide) (by omega) (fun h2 => ?_) (fun h2 => ?_)
    · exact absurd hbad (by omega)
    · refine lv_iconst (v := nI 2) hx hb d_M_cheapest_16 (by decide) ?_
      refine lv_goto (tgt := 21) hx hb d_M_cheapest_17 (by decide) ?_
      refine va_put (D := (dC, dI)) (ci := 6) (v := .int (nI 2)) (ty := (.int)) (C := R_M) (T := F_M) (N := 17) hx hb hts i_M ft_M ft_M_ok n_M hown hK hP hD hS 0 rfl rfl 0 (by decide) (hts _ k_477) (fun _ h9 => h9) rfl (by decide +kernel) rfl rfl (Nat.le_of_ble_eq_true rfl) d_M_cheapest_21 (fun H locs hP hD hS => ?_)
      have hP : va_P (dC, dI) vwCl [(q 0, .inr (6, (mF q (nI 2) F nt ab be))), (q 1, .inl (cI, 13, .inl (fun j => nI (pp j)))), (q 2, .inl (cI, 13, .inl (fun j => nI (hh j)))), (q 4, .inl (cI, 6, .inl (fun j => nI (rm j)))), (q 5, .inl (cI, 6, .inl (fun j => nI (sd j)))), (q 6, .inl (cI, 6, .inl (fun j => nI (dr j)))), (q 7, .inl (cI, 6, .inl (fun j => nI (pe j)))), (q 8, .inl (cI, 6, .inl (fun j => nI (ce j))))] H := hP
      have hD : va_D A [(q 0, .inr (6, (mF q (nI 2) F nt ab be))), (q 1, .inl (cI, 13, .inl (fun j => nI (pp j)))), (q 2, .inl (cI, 13, .inl (fun j => nI (hh j)))), (q 4, .inl (cI, 6, .inl (fun j => nI (rm j)))), (q 5, .inl (cI, 6, .inl (fun j => nI (sd j)))), (q 6, .inl (cI, 6, .inl (fun j => nI (dr j)))), (q 7, .inl (cI, 6, .inl (fun j => nI (pe j)))), (q 8, .inl (cI, 6, .inl (fun j => nI (ce j))))] := hD
      refine lv_iconst (v := -1) hx hb d_M_cheapest_24 (by decide) ?_
      refine lv_istore_n (lv' := [(2, .int ((-1))), (0, .ref (q 0)), (1, .int p0)]) hx hb d_M_cheapest_25 rfl hl (by decide) rfl (fun ls hl => ?_)
      refine lv_iconst (v := nI 0) hx hb d_M_cheapest_26 (by decide) ?_
      refine lv_istore_n (lv' := [(3, .int (nI 0)), (2, .int ((-1))), (0, .ref (q 0)), (1, .int p0)]) hx hb d_M_cheapest_27 rfl hl (by decide) rfl (fun ls hl => ?_)
      refine lv_iconst (v := nI 1) hx hb d_M_cheapest_28 (by decide) ?_
      refine lv_istore (lv' := [(4, .int (nI 1)), (3, .int (nI 0)), (2, .int ((-1))), (0, .ref (q 0)), (1, .int p0)]) hx hb d_M_cheapest_29 hl (by decide) rfl (fun ls hl => ?_)
      refine lv_iload hx hb d_M_cheapest_31 (lv_at hl 0 rfl) ?_
      refine lv_bipush (v := nI 6) hx hb d_M_cheapest_33 (by decide) ?_
      refine nx_icmp_gt (tgt := 134) hx hb d_M_cheapest_35 (by decide) (by omega) (by omega) (fun h5 => ?_) (fun h5 => ?_)
      · exact absurd h5 (by omega)
      · refine lv_aload_n hx hb d_M_cheapest_38 rfl (lv_at hl 3 rfl) ?_
        refine va_get (D := (dC, dI)) (ci := 6) (v := .int (nI 2)) (C := R_M) (T := F_M) (N := 17) hx hb hts i_M hown hK hP 0 rfl rfl 0 (by decide) (hts _ k_477) (fun _ h9 => h9) rfl d_M_cheapest_39 ?_
        refine nx_if_ne (tgt := 134) hx hb d_M_cheapest_42 (by decide) (by omega) (fun h6 => ?_) (fun h6 => ?_)
        · refine lv_aload_n hx hb d_M_cheapest_134 rfl (lv_at hl 3 rfl) ?_
          refine va_get (D := (dC, dI)) (ci := 6) (v := .int (nI 2)) (C := R_M) (T := F_M) (N := 17) hx hb hts i_M hown hK hP 0 rfl rfl 0 (by decide) (hts _ k_477) (fun _ h9 => h9) rfl d_M_cheapest_135 ?_
          refine nx_if_le (tgt := 145) hx hb d_M_cheapest_138 (by decide) (by omega) (fun h7 => ?_) (fun h7 => ?_)
          · exact absurd h7 (by omega)
          · refine lv_iconst (v := nI 0) hx hb d_M_cheapest_141 (by decide) ?_
            refine lv_goto (tgt := 146) hx hb d_M_cheapest_142 (by decide) ?_
            exact W.iret hx hb hr (fun t ht hW => ⟨⟨_, (), rfl, rfl, by rw [ht]; exact hP, hD⟩, hS.F ht⟩) hS.2.2 d_M_cheapest_146
        · exact absurd h6 (by omega)
  · exact absurd (Int32.le_iff_toInt_le.mpr (by rw [show (0 : Int32) = nI 0 by decide, nI_toInt (by decide)]; omega)) h1
section
variable {p : Program} {l : Launch} {e : Env} {R : Room} {s : State} {m : MethodId} {args : Array Value} {below : List Frame} {meth : Method} {c : Code} {cells slots : Nat} {Q : State → Prop} {A : Nat → Prop}
variable {dC : Nat → ClassId} {dI : Nat → Nat → Nat} {cI cL cT : ClassId} {sa : Nat → Nat}
set_option maxHeartbeats 4000000 in
set_option maxRecDepth 100000 in
theorem l_M_cheapI (hF : CallFix p m c b_M_cheapest 7 s args gw R_M) (hC : CT dC dI cI cL cT sa s) {q : Nat → Nat} {F nt : Nat} {pp hh rm sd dr pe ce : Nat → Nat} {ps : Nat} (hF12 : F ≤ 12) (hF1 : 1 ≤ F) (hU2 : sm pp 1 F ≤ 200) (hhh : ∀ k, k < F → hh (1 + k) ≤ 1200) (hps : ps < 2 ^ 31) (hn6 : nt ≤ 6) (hcar : ∀ t, t < nt → (1 ≤ rm t ∧ rm t ≤ 5) ∧ (1 ≤ sd t ∧ sd t ≤ 100) ∧ dr t ≤ 30 ∧ pe t ≤ 10 ∧ (1 ≤ ce t ∧ ce t ≤ 100000)) (hfr : 4 ≤ R.frames) (hlo : 109 ≤ R.locals) (hce : cells ≤ R.cells) (hsl : slots ≤ R.slots) (hA : ∀ q : Nat, s.heap.size ≤ q → A q) {nn : Nat} (hn1 : 1 ≤ nn) (hn66 : nn ≤ 6) (kend : ∀ (b : Option (Nat × Nat)) (ab be : Int64), isB ce (SR (fC pp hh rm sd dr pe F) ps nt nn nt) b →  ∀ (H : Heap) (locs : List Loc) (ls : Array Slot), va_P (dC, dI) vwCl [(q 0, .inr (6, (mF q (nI 0) F nt ab be))), (q 1, .inl (cI, 13, .inl (fun j => nI (pp j)))), (q 2, .inl (cI, 13, .inl (fun j => nI (hh j)))), (q 4, .inl (cI, 6, .inl (fun j => nI (rm j)))), (q 5, .inl (cI, 6, .inl (fun j => nI (sd j)))), (q 6, .inl (cI, 6, .inl (fun j => nI (dr j)))), (q 7, .inl (cI, 6, .inl (fun j => nI (pe j)))), (q 8, .inl (cI, 6, .inl (fun j => nI (ce j))))] H → va_D A [(q 0, .inr (6, (mF q (nI 0) F nt ab be))), (q 1, .inl (cI, 13, .inl (fun j => nI (pp j)))), (q 2, .inl (cI, 13, .inl (fun j => nI (hh j)))), (q 4, .inl (cI, 6, .inl (fun j => nI (rm j)))), (q 5, .inl (cI, 6, .inl (fun j => nI (sd j)))), (q 6, .inl (cI, 6, .inl (fun j => nI (dr j)))), (q 7, .inl (cI, 6, .inl (fun j => nI (pe j)))), (q 8, .inl (cI, 6, .inl (fun j => nI (ce j))))] → va_S A s.heap H locs → lv_has ls 7 [(0, .ref (q 0)), (1, .int (nI ps)), (2, .int (bV b)), (3, .int (nI (bC ce b))), (4, .int (nI nn))] → W p l e R s m args below meth c H locs cells slots Q (F0 m 128 ls [])) : ∀ j i : Nat, nt - i < j → i ≤ nt → ∀ (b : Option (Nat × Nat)) (ab be : Int64), isB ce (SR (fC pp hh rm sd dr pe F) ps nt nn i) b →  ∀ (H : Heap) (locs : List Loc) (ls : Array Slot), va_P (dC, dI) vwCl [(q 0, .inr (6, (mF q (nI 0) F nt ab be))), (q 1, .inl (cI, 13, .inl (fun j => nI (pp j)))), (q 2, .inl (cI, 13, .inl (fun j => nI (hh j)))), (q 4, .inl (cI, 6, .inl (fun j => nI (rm j)))), (q 5, .inl (cI, 6, .inl (fun j => nI (sd j)))), (q 6, .inl (cI, 6, .inl (fun j => nI (dr j)))), (q 7, .inl (cI, 6, .inl (fun j => nI (pe j)))), (q 8, .inl (cI, 6, .inl (fun j => nI (ce j))))] H → va_D A [(q 0, .inr (6, (mF q (nI 0) F nt ab be))), (q 1, .inl (cI, 13, .inl (fun j => nI (pp j)))), (q 2, .inl (cI, 13, .inl (fun j => nI (hh j)))), (q 4, .inl (cI, 6, .inl (fun j => nI (rm j)))), (q 5, .inl (cI, 6, .inl (fun j => nI (sd j)))), (q 6, .inl (cI, 6, .inl (fun j => nI (dr j)))), (q 7, .inl (cI, 6, .inl (fun j => nI (pe j)))), (q 8, .inl (cI, 6, .inl (fun j => nI (ce j))))] → va_S A s.heap H locs → lv_has ls 7 [(0, .ref (q 0)), (1, .int (nI ps)), (2, .int (bV b)), (3, .int (nI (bC ce b))), (4, .int (nI nn)), (5, .int (nI i))] → W p l e R s m args below meth c H locs cells slots Q (F0 m 48 ls []) := by
  obtain ⟨hx, hb, hml, hown, hts⟩ := id hF
  have hK := hC.1
  intro j
  induction j with
  | zero => intro i hj; omega
  | succ j ih =>
    intro i hj hi b ab be hB H locs ls hP hD hS hl
    refine lv_iload hx hb d_M_cheapest_48 (lv_at hl 5 rfl) ?_
    refine lv_aload_n hx hb d_M_cheapest_50 rfl (lv_at hl 0 rfl) ?_
    refine va_get (D := (dC, dI)) (ci := 6) (v := .int (nI nt)) (C := R_M) (T := F_M) (N := 17) hx hb hts i_M hown hK hP 0 rfl rfl 9 (by decide) (hts _ k_486) (fun _ h9 => h9) rfl d_M_cheapest_51 ?_
    refine nx_icmp_ge (tgt := 128) hx hb d_M_cheapest_54 (by decide) (by omega) (by omega) (fun h1 => ?_) (fun h1 => ?_)
    · have hie : i = nt := by omega
      subst hie
      exact kend b ab be hB H locs ls hP hD hS (lv_sub hl [0, 1, 2, 3, 4] rfl)
    · obtain ⟨hrm, hsd, hdr, hpe, hce1, hce2⟩ := hcar i h1
      obtain ⟨hbc, hbn⟩ := bC_le hB (SR_in hn66) (fun t ht => (hcar t (by omega)).2.2.2.2.2)
      have hmc : nn * ce i ≤ 600000 := Nat.mul_le_mul hn66 hce2
      have hbv := bV_none hB (SR_in hn66) (by omega)
      have hlb : tB pp 1 F (rm i) (sd i) ≤ 32000000000000 := tB_lt hU2 hrm.2 hsd.2
      have hcl := car_lt (cars := nn) (r := rm i) (B := tB pp 1 F (rm i) (sd i)) hn66 hrm.2 hlb
      refine lv_iload_n hx hb d_M_cheapest_57 rfl (lv_at hl 2 rfl) ?_
      refine lv_iconst (v := -1) hx hb d_M_cheapest_58 (by decide) ?_
      refine lv_icmp_eq (tgt := 76) hx hb d_M_cheapest_59 (by decide) (fun h3 => ?_) (fun h3 => ?_)
      · refine lv_iconst (v := nI 1) hx hb d_M_cheapest_76 (by decide) ?_
        refine lv_goto (tgt := 81) hx hb d_M_cheapest_77 (by decide) ?_
        refine lv_istore (lv' := [(6, .int (nI 1)), (0, .ref (q 0)), (1, .int (nI ps)), (2, .int (bV b)), (3, .int (nI (bC ce b))), (4, .int (nI nn)), (5, .int (nI i))]) hx hb d_M_cheapest_81 hl (by decide) rfl (fun ls hl => ?_)
        refine lv_iload hx hb d_M_cheapest_83 (lv_at hl 0 rfl) ?_
        refine nx_if_eq (tgt := 122) hx hb d_M_cheapest_85 (by decide) (by omega) (fun h7 => ?_) (fun h7 => ?_)
        · exact absurd h7 (by omega)
        · refine lv_aload_n hx hb d_M_cheapest_88 rfl (lv_at hl 1 rfl) ?_
          refine lv_iload hx hb d_M_cheapest_89 (lv_at hl 5 rfl) ?_
          refine lv_iload hx hb d_M_cheapest_91 (lv_at hl 6 rfl) ?_
          have hPc := hP.sub (ws' := [(q 0, .inr (6, (mF q (nI 0) F nt ab be))), (q 1, .inl (cI, 13, .inl (fun j => nI (pp j)))), (q 2, .inl (cI, 13, .inl (fun j => nI (hh j)))), (q 4, .inl (cI, 6, .inl (fun j => nI (rm j)))), (q 5, .inl (cI, 6, .inl (fun j => nI (sd j)))), (q 6, .inl (cI, 6, .inl (fun j => nI (dr j)))), (q 7, .inl (cI, 6, .inl (fun j => nI (pe j))))]) [0, 1, 2, 3, 4, 5, 6] rfl
          have hDc := hD.sub (ws' := [(q 0, .inr (6, (mF q (nI 0) F nt ab be))), (q 1, .inl (cI, 13, .inl (fun j => nI (pp j)))), (q 2, .inl (cI, 13, .inl (fun j => nI (hh j)))), (q 4, .inl (cI, 6, .inl (fun j => nI (rm j)))), (q 5, .inl (cI, 6, .inl (fun j => nI (sd j)))), (q 6, .inl (cI, 6, .inl (fun j => nI (dr j)))), (q 7, .inl (cI, 6, .inl (fun j => nI (pe j))))]) [0, 1, 2, 3, 4, 5, 6] (by decide) rfl
          have hFc := va_free (wc := [(q 0, .inr (6, (mF q (nI 0) F nt ab be))), (q 1, .inl (cI, 13, .inl (fun j => nI (pp j)))), (q 2, .inl (cI, 13, .inl (fun j => nI (hh j)))), (q 4, .inl (cI, 6, .inl (fun j => nI (rm j)))), (q 5, .inl (cI, 6, .inl (fun j => nI (sd j)))), (q 6, .inl (cI, 6, .inl (fun j => nI (dr j)))), (q 7, .inl (cI, 6, .inl (fun j => nI (pe j))))]) hD hS hA [0, 1, 2, 3, 4, 5, 6] rfl
          refine va_calll (va_runV (As := [.int (nI nn), .int (nI i)]) (rest := []) ⟨hx, hb, hml, hown, hts⟩ (c_M_carriedBy l _ q (nI 0) F nt ab be pp hh rm sd dr pe nn i hF12 (by omega) hn66 hU2 hhh hrm hsd hdr hpe) (cwV 2 hts (gw_V k_615 k_612 k_614 ks_M_carriedBy k_6) rfl rfl rfl (by decide +kernel) ⟨Nat.le_trans (Nat.le_of_ble_eq_true rfl) hfr, Nat.le_trans (Nat.le_of_ble_eq_true rfl) hlo⟩) ⟨wr_blind, va_recv hK hP (ci := 6) (q0 := 0) rfl rfl, wr_at hC hPc hDc⟩ rfl rfl hl.1 rfl (lv_room (Nat.le_of_ble_eq_true rfl)) d_M_cheapest_93 ⟨hce, hsl⟩) hS (fun q _ h => hFc q h) hFc (fun r9 u t H1 locs ht hvm hw hB hz1 hk1 hS => ?_)
          obtain ⟨hP1, hD1⟩ := hB
          rw [ht] at hP1
          obtain ⟨hP, hD⟩ := va_join (wr := [(q 8, .inl (cI, 6, .inl (fun j => nI (ce j))))]) (w1 := [(q 0, .inr (6, (mF q (nI 0) F nt (lN ((tA pp hh 1 F (rm i) (sd i) (dr i) (pe i)) / Nat.gcd (tA pp hh 1 F (rm i) (sd i) (dr i) (pe i)) (tB pp 1 F (rm i) (sd i)))) (lN ((tB pp 1 F (rm i) (sd i)) / Nat.gcd (tA pp hh 1 F (rm i) (sd i) (dr i) (pe i)) (tB pp 1 F (rm i) (sd i))))))), (q 1, .inl (cI, 13, .inl (fun j => nI (pp j)))), (q 2, .inl (cI, 13, .inl (fun j => nI (hh j)))), (q 4, .inl (cI, 6, .inl (fun j => nI (rm j)))), (q 5, .inl (cI, 6, .inl (fun j => nI (sd j)))), (q 6, .inl (cI, 6, .inl (fun j => nI (dr j)))), (q 7, .inl (cI, 6, .inl (fun j => nI (pe j))))]) hP hD [0, 1, 2, 3, 4, 5, 6] [7] rfl rfl (by decide) (by decide) hk1 hFc hP1 hD1
          generalize H1 = H at hP hS ⊢
          have hP := hP.sub (ws' := [(q 0, .inr (6, (mF q (nI 0) F nt (lN ((tA pp hh 1 F (rm i) (sd i) (dr i) (pe i)) / Nat.gcd (tA pp hh 1 F (rm i) (sd i) (dr i) (pe i)) (tB pp 1 F (rm i) (sd i)))) (lN ((tB pp 1 F (rm i) (sd i)) / Nat.gcd (tA pp hh 1 F (rm i) (sd i) (dr i) (pe i)) (tB pp 1 F (rm i) (sd i))))))), (q 1, .inl (cI, 13, .inl (fun j => nI (pp j)))), (q 2, .inl (cI, 13, .inl (fun j => nI (hh j)))), (q 4, .inl (cI, 6, .inl (fun j => nI (rm j)))), (q 5, .inl (cI, 6, .inl (fun j => nI (sd j)))), (q 6, .inl (cI, 6, .inl (fun j => nI (dr j)))), (q 7, .inl (cI, 6, .inl (fun j => nI (pe j)))), (q 8, .inl (cI, 6, .inl (fun j => nI (ce j))))]) [1, 2, 3, 4, 5, 6, 7, 0] rfl
          have hD := hD.sub (ws' := [(q 0, .inr (6, (mF q (nI 0) F nt (lN ((tA pp hh 1 F (rm i) (sd i) (dr i) (pe i)) / Nat.gcd (tA pp hh 1 F (rm i) (sd i) (dr i) (pe i)) (tB pp 1 F (rm i) (sd i)))) (lN ((tB pp 1 F (rm i) (sd i)) / Nat.gcd (tA pp hh 1 F (rm i) (sd i) (dr i) (pe i)) (tB pp 1 F (rm i) (sd i))))))), (q 1, .inl (cI, 13, .inl (fun j => nI (pp j)))), (q 2, .inl (cI, 13, .inl (fun j => nI (hh j)))), (q 4, .inl (cI, 6, .inl (fun j => nI (rm j)))), (q 5, .inl (cI, 6, .inl (fun j => nI (sd j)))), (q 6, .inl (cI, 6, .inl (fun j => nI (dr j)))), (q 7, .inl (cI, 6, .inl (fun j => nI (pe j)))), (q 8, .inl (cI, 6, .inl (fun j => nI (ce j))))]) [1, 2, 3, 4, 5, 6, 7, 0] (by decide) rfl
          subst hw
          refine lv_iload_n hx hb d_M_cheapest_96 rfl (lv_at hl 2 rfl) ?_
          refine nx_i2l hx hb d_M_cheapest_97 (by omega) ?_
          refine nx_lcn_lt (tgt := 122) hx hb d_M_cheapest_98 d_M_cheapest_99 (by decide) (oC_lt hcl) (by omega) (fun h8 => ?_) (fun h8 => ?_)
          · refine nx_inc (lv' := [(5, .int (nI (i + 1))), (6, .int (nI 1)), (0, .ref (q 0)), (1, .int (nI ps)), (2, .int (bV b)), (3, .int (nI (bC ce b))), (4, .int (nI nn))]) hx hb d_M_cheapest_122 hl (k := 6) rfl (by decide) rfl (fun ls hl => ?_)
            refine lv_goto (tgt := 48) hx hb d_M_cheapest_125 (by decide) ?_
            exact ih (i + 1) (by omega) (by omega) (b) _ _ (rf_skip hB h8) H locs ls hP hD hS (lv_sub hl [2, 3, 4, 5, 6, 0] rfl)
          · refine lv_bipush (v := nI 10) hx hb d_M_cheapest_102 (by decide) ?_
            refine lv_iload hx hb d_M_cheapest_104 (lv_at hl 6 rfl) ?_
            refine nx_imul hx hb d_M_cheapest_106 ?_
            refine lv_iload hx hb d_M_cheapest_107 (lv_at hl 5 rfl) ?_
            refine nx_iadd hx hb d_M_cheapest_109 ?_
            refine lv_istore_n (lv' := [(2, .int (nI ((10 * i) + nn))), (6, .int (nI 1)), (0, .ref (q 0)), (1, .int (nI ps)), (3, .int (nI (bC ce b))), (4, .int (nI nn)), (5, .int (nI i))]) hx hb d_M_cheapest_110 rfl hl (by decide) rfl (fun ls hl => ?_)
            refine lv_iload hx hb d_M_cheapest_111 (lv_at hl 5 rfl) ?_
            refine lv_aload_n hx hb d_M_cheapest_113 rfl (lv_at hl 2 rfl) ?_
            refine va_get (D := (dC, dI)) (ci := 6) (v := .ref (q 8)) (C := R_M) (T := F_M) (N := 17) hx hb hts i_M hown hK hP 0 rfl rfl 8 (by decide) (hts _ k_485) (fun _ h9 => h9) rfl d_M_cheapest_114 ?_
            refine lv_iload hx hb d_M_cheapest_117 (lv_at hl 6 rfl) ?_
            refine nx_iald hx hb hK hP 7 0 rfl rfl (k := i) (v := nI (ce i)) (by omega) (by decide) rfl d_M_cheapest_119 ?_
            refine nx_imul hx hb d_M_cheapest_120 ?_
            refine lv_istore_n (lv' := [(3, .int (nI (nn * (ce i)))), (2, .int (nI ((10 * i) + nn))), (6, .int (nI 1)), (0, .ref (q 0)), (1, .int (nI ps)), (4, .int (nI nn)), (5, .int (nI i))]) hx hb d_M_cheapest_121 rfl hl (by decide) rfl (fun ls hl => ?_)
            refine nx_inc (lv' := [(5, .int (nI (i + 1))), (3, .int (nI (nn * (ce i)))), (2, .int (nI ((10 * i) + nn))), (6, .int (nI 1)), (0, .ref (q 0)), (1, .int (nI ps)), (4, .int (nI nn))]) hx hb d_M_cheapest_122 hl (k := 6) rfl (by decide) rfl (fun ls hl => ?_)
            refine lv_goto (tgt := 48) hx hb d_M_cheapest_125 (by decide) ?_
            exact ih (i + 1) (by omega) (by omega) (some (nn, i)) _ _ (rf_take hB h1 hn1 (by unfold fC; omega) (Or.inl (hbv.mp h3))) H locs ls hP hD hS (lv_sub hl [4, 5, 2, 1, 6, 0] rfl)
      · refine lv_iload hx hb d_M_cheapest_62 (lv_at hl 4 rfl) ?_
        refine lv_aload_n hx hb d_M_cheapest_64 rfl (lv_at hl 0 rfl) ?_
        refine va_get (D := (dC, dI)) (ci := 6) (v := .ref (q 8)) (C := R_M) (T := F_M) (N := 17) hx hb hts i_M hown hK hP 0 rfl rfl 8 (by decide) (hts _ k_485) (fun _ h9 => h9) rfl d_M_cheapest_65 ?_
        refine lv_iload hx hb d_M_cheapest_68 (lv_at hl 5 rfl) ?_
        refine nx_iald hx hb hK hP 7 0 rfl rfl (k := i) (v := nI (ce i)) (by omega) (by decide) rfl d_M_cheapest_70 ?_
        refine nx_imul hx hb d_M_cheapest_71 ?_
        refine lv_iload_n hx hb d_M_cheapest_72 rfl (lv_at hl 3 rfl) ?_
        refine nx_icmp_ge (tgt := 80) hx hb d_M_cheapest_73 (by decide) (by omega) (by omega) (fun h4 => ?_) (fun h4 => ?_)
        · refine lv_iconst (v := nI 0) hx hb d_M_cheapest_80 (by decide) ?_
          refine lv_istore (lv' := [(6, .int (nI 0)), (0, .ref (q 0)), (1, .int (nI ps)), (2, .int (bV b)), (3, .int (nI (bC ce b))), (4, .int (nI nn)), (5, .int (nI i))]) hx hb d_M_cheapest_81 hl (by decide) rfl (fun ls hl => ?_)
          refine lv_iload hx hb d_M_cheapest_83 (lv_at hl 0 rfl) ?_
          refine nx_if_eq (tgt := 122) hx hb d_M_cheapest_85 (by decide) (by omega) (fun h7 => ?_) (fun h7 => ?_)
          · refine nx_inc (lv' := [(5, .int (nI (i + 1))), (6, .int (nI 0)), (0, .ref (q 0)), (1, .int (nI ps)), (2, .int (bV b)), (3, .int (nI (bC ce b))), (4, .int (nI nn))]) hx hb d_M_cheapest_122 hl (k := 6) rfl (by decide) rfl (fun ls hl => ?_)
            refine lv_goto (tgt := 48) hx hb d_M_cheapest_125 (by decide) ?_
            exact ih (i + 1) (by omega) (by omega) (b) _ _ (rf_keep' (fun q => h3 (hbv.mpr q)) hB (by omega)) H locs ls hP hD hS (lv_sub hl [2, 3, 4, 5, 6, 0] rfl)
          · exact absurd h7 (by omega)
        · refine lv_iconst (v := nI 1) hx hb d_M_cheapest_76 (by decide) ?_
          refine lv_goto (tgt := 81) hx hb d_M_cheapest_77 (by decide) ?_
          refine lv_istore (lv' := [(6, .int (nI 1)), (0, .ref (q 0)), (1, .int (nI ps)), (2, .int (bV b)), (3, .int (nI (bC ce b))), (4, .int (nI nn)), (5, .int (nI i))]) hx hb d_M_cheapest_81 hl (by decide) rfl (fun ls hl => ?_)
          refine lv_iload hx hb d_M_cheapest_83 (lv_at hl 0 rfl) ?_
          refine nx_if_eq (tgt := 122) hx hb d_M_cheapest_85 (by decide) (by omega) (fun h7 => ?_) (fun h7 => ?_)
          · exact absurd h7 (by omega)
          · refine lv_aload_n hx hb d_M_cheapest_88 rfl (lv_at hl 1 rfl) ?_
            refine lv_iload hx hb d_M_cheapest_89 (lv_at hl 5 rfl) ?_
            refine lv_iload hx hb d_M_cheapest_91 (lv_at hl 6 rfl) ?_
            have hPc := hP.sub (ws' := [(q 0, .inr (6, (mF q (nI 0) F nt ab be))), (q 1, .inl (cI, 13, .inl (fun j => nI (pp j)))), (q 2, .inl (cI, 13, .inl (fun j => nI (hh j)))), (q 4, .inl (cI, 6, .inl (fun j => nI (rm j)))), (q 5, .inl (cI, 6, .inl (fun j => nI (sd j)))), (q 6, .inl (cI, 6, .inl (fun j => nI (dr j)))), (q 7, .inl (cI, 6, .inl (fun j => nI (pe j))))]) [0, 1, 2, 3, 4, 5, 6] rfl
            have hDc := hD.sub (ws' := [(q 0, .inr (6, (mF q (nI 0) F nt ab be))), (q 1, .inl (cI, 13, .inl (fun j => nI (pp j)))), (q 2, .inl (cI, 13, .inl (fun j => nI (hh j)))), (q 4, .inl (cI, 6, .inl (fun j => nI (rm j)))), (q 5, .inl (cI, 6, .inl (fun j => nI (sd j)))), (q 6, .inl (cI, 6, .inl (fun j => nI (dr j)))), (q 7, .inl (cI, 6, .inl (fun j => nI (pe j))))]) [0, 1, 2, 3, 4, 5, 6] (by decide) rfl
            have hFc := va_free (wc := [(q 0, .inr (6, (mF q (nI 0) F nt ab be))), (q 1, .inl (cI, 13, .inl (fun j => nI (pp j)))), (q 2, .inl (cI, 13, .inl (fun j => nI (hh j)))), (q 4, .inl (cI, 6, .inl (fun j => nI (rm j)))), (q 5, .inl (cI, 6, .inl (fun j => nI (sd j)))), (q 6, .inl (cI, 6, .inl (fun j => nI (dr j)))), (q 7, .inl (cI, 6, .inl (fun j => nI (pe j))))]) hD hS hA [0, 1, 2, 3, 4, 5, 6] rfl
            refine va_calll (va_runV (As := [.int (nI nn), .int (nI i)]) (rest := []) ⟨hx, hb, hml, hown, hts⟩ (c_M_carriedBy l _ q (nI 0) F nt ab be pp hh rm sd dr pe nn i hF12 (by omega) hn66 hU2 hhh hrm hsd hdr hpe) (cwV 2 hts (gw_V k_615 k_612 k_614 ks_M_carriedBy k_6) rfl rfl rfl (by decide +kernel) ⟨Nat.le_trans (Nat.le_of_ble_eq_true rfl) hfr, Nat.le_trans (Nat.le_of_ble_eq_true rfl) hlo⟩) ⟨wr_blind, va_recv hK hP (ci := 6) (q0 := 0) rfl rfl, wr_at hC hPc hDc⟩ rfl rfl hl.1 rfl (lv_room (Nat.le_of_ble_eq_true rfl)) d_M_cheapest_93 ⟨hce, hsl⟩) hS (fun q _ h => hFc q h) hFc (fun r9 u t H1 locs ht hvm hw hB hz1 hk1 hS => ?_)
            obtain ⟨hP1, hD1⟩ := hB
            rw [ht] at hP1
            obtain ⟨hP, hD⟩ := va_join (wr := [(q 8, .inl (cI, 6, .inl (fun j => nI (ce j))))]) (w1 := [(q 0, .inr (6, (mF q (nI 0) F nt (lN ((tA pp hh 1 F (rm i) (sd i) (dr i) (pe i)) / Nat.gcd (tA pp hh 1 F (rm i) (sd i) (dr i) (pe i)) (tB pp 1 F (rm i) (sd i)))) (lN ((tB pp 1 F (rm i) (sd i)) / Nat.gcd (tA pp hh 1 F (rm i) (sd i) (dr i) (pe i)) (tB pp 1 F (rm i) (sd i))))))), (q 1, .inl (cI, 13, .inl (fun j => nI (pp j)))), (q 2, .inl (cI, 13, .inl (fun j => nI (hh j)))), (q 4, .inl (cI, 6, .inl (fun j => nI (rm j)))), (q 5, .inl (cI, 6, .inl (fun j => nI (sd j)))), (q 6, .inl (cI, 6, .inl (fun j => nI (dr j)))), (q 7, .inl (cI, 6, .inl (fun j => nI (pe j))))]) hP hD [0, 1, 2, 3, 4, 5, 6] [7] rfl rfl (by decide) (by decide) hk1 hFc hP1 hD1
            generalize H1 = H at hP hS ⊢
            have hP := hP.sub (ws' := [(q 0, .inr (6, (mF q (nI 0) F nt (lN ((tA pp hh 1 F (rm i) (sd i) (dr i) (pe i)) / Nat.gcd (tA pp hh 1 F (rm i) (sd i) (dr i) (pe i)) (tB pp 1 F (rm i) (sd i)))) (lN ((tB pp 1 F (rm i) (sd i)) / Nat.gcd (tA pp hh 1 F (rm i) (sd i) (dr i) (pe i)) (tB pp 1 F (rm i) (sd i))))))), (q 1, .inl (cI, 13, .inl (fun j => nI (pp j)))), (q 2, .inl (cI, 13, .inl (fun j => nI (hh j)))), (q 4, .inl (cI, 6, .inl (fun j => nI (rm j)))), (q 5, .inl (cI, 6, .inl (fun j => nI (sd j)))), (q 6, .inl (cI, 6, .inl (fun j => nI (dr j)))), (q 7, .inl (cI, 6, .inl (fun j => nI (pe j)))), (q 8, .inl (cI, 6, .inl (fun j => nI (ce j))))]) [1, 2, 3, 4, 5, 6, 7, 0] rfl
            have hD := hD.sub (ws' := [(q 0, .inr (6, (mF q (nI 0) F nt (lN ((tA pp hh 1 F (rm i) (sd i) (dr i) (pe i)) / Nat.gcd (tA pp hh 1 F (rm i) (sd i) (dr i) (pe i)) (tB pp 1 F (rm i) (sd i)))) (lN ((tB pp 1 F (rm i) (sd i)) / Nat.gcd (tA pp hh 1 F (rm i) (sd i) (dr i) (pe i)) (tB pp 1 F (rm i) (sd i))))))), (q 1, .inl (cI, 13, .inl (fun j => nI (pp j)))), (q 2, .inl (cI, 13, .inl (fun j => nI (hh j)))), (q 4, .inl (cI, 6, .inl (fun j => nI (rm j)))), (q 5, .inl (cI, 6, .inl (fun j => nI (sd j)))), (q 6, .inl (cI, 6, .inl (fun j => nI (dr j)))), (q 7, .inl (cI, 6, .inl (fun j => nI (pe j)))), (q 8, .inl (cI, 6, .inl (fun j => nI (ce j))))]) [1, 2, 3, 4, 5, 6, 7, 0] (by decide) rfl
            subst hw
            refine lv_iload_n hx hb d_M_cheapest_96 rfl (lv_at hl 2 rfl) ?_
            refine nx_i2l hx hb d_M_cheapest_97 (by omega) ?_
            refine nx_lcn_lt (tgt := 122) hx hb d_M_cheapest_98 d_M_cheapest_99 (by decide) (oC_lt hcl) (by omega) (fun h8 => ?_) (fun h8 => ?_)
            · refine nx_inc (lv' := [(5, .int (nI (i + 1))), (6, .int (nI 1)), (0, .ref (q 0)), (1, .int (nI ps)), (2, .int (bV b)), (3, .int (nI (bC ce b))), (4, .int (nI nn))]) hx hb d_M_cheapest_122 hl (k := 6) rfl (by decide) rfl (fun ls hl => ?_)
              refine lv_goto (tgt := 48) hx hb d_M_cheapest_125 (by decide) ?_
              exact ih (i + 1) (by omega) (by omega) (b) _ _ (rf_skip hB h8) H locs ls hP hD hS (lv_sub hl [2, 3, 4, 5, 6, 0] rfl)
            · refine lv_bipush (v := nI 10) hx hb d_M_cheapest_102 (by decide) ?_
              refine lv_iload hx hb d_M_cheapest_104 (lv_at hl 6 rfl) ?_
              refine nx_imul hx hb d_M_cheapest_106 ?_
              refine lv_iload hx hb d_M_cheapest_107 (lv_at hl 5 rfl) ?_
              refine nx_iadd hx hb d_M_cheapest_109 ?_
              refine lv_istore_n (lv' := [(2, .int (nI ((10 * i) + nn))), (6, .int (nI 1)), (0, .ref (q 0)), (1, .int (nI ps)), (3, .int (nI (bC ce b))), (4, .int (nI nn)), (5, .int (nI i))]) hx hb d_M_cheapest_110 rfl hl (by decide) rfl (fun ls hl => ?_)
              refine lv_iload hx hb d_M_cheapest_111 (lv_at hl 5 rfl) ?_
              refine lv_aload_n hx hb d_M_cheapest_113 rfl (lv_at hl 2 rfl) ?_
              refine va_get (D := (dC, dI)) (ci := 6) (v := .ref (q 8)) (C := R_M) (T := F_M) (N := 17) hx hb hts i_M hown hK hP 0 rfl rfl 8 (by decide) (hts _ k_485) (fun _ h9 => h9) rfl d_M_cheapest_114 ?_
              refine lv_iload hx hb d_M_cheapest_117 (lv_at hl 6 rfl) ?_
              refine nx_iald hx hb hK hP 7 0 rfl rfl (k := i) (v := nI (ce i)) (by omega) (by decide) rfl d_M_cheapest_119 ?_
              refine nx_imul hx hb d_M_cheapest_120 ?_
              refine lv_istore_n (lv' := [(3, .int (nI (nn * (ce i)))), (2, .int (nI ((10 * i) + nn))), (6, .int (nI 1)), (0, .ref (q 0)), (1, .int (nI ps)), (4, .int (nI nn)), (5, .int (nI i))]) hx hb d_M_cheapest_121 rfl hl (by decide) rfl (fun ls hl => ?_)
              refine nx_inc (lv' := [(5, .int (nI (i + 1))), (3, .int (nI (nn * (ce i)))), (2, .int (nI ((10 * i) + nn))), (6, .int (nI 1)), (0, .ref (q 0)), (1, .int (nI ps)), (4, .int (nI nn))]) hx hb d_M_cheapest_122 hl (k := 6) rfl (by decide) rfl (fun ls hl => ?_)
              refine lv_goto (tgt := 48) hx hb d_M_cheapest_125 (by decide) ?_
              exact ih (i + 1) (by omega) (by omega) (some (nn, i)) _ _ (rf_take hB h1 hn1 (by unfold fC; omega) (Or.inr (by omega))) H locs ls hP hD hS (lv_sub hl [4, 5, 2, 1, 6, 0] rfl)
set_option maxHeartbeats 4000000 in
set_option maxRecDepth 100000 in
theorem l_M_cheap (hF : CallFix p m c b_M_cheapest 7 s args gw R_M) (hC : CT dC dI cI cL cT sa s) {q : Nat → Nat} {F nt : Nat} {pp hh rm sd dr pe ce : Nat → Nat} {ps : Nat} (hF12 : F ≤ 12) (hF1 : 1 ≤ F) (hU2 : sm pp 1 F ≤ 200) (hhh : ∀ k, k < F → hh (1 + k) ≤ 1200) (hps : ps < 2 ^ 31) (hn6 : nt ≤ 6) (hcar : ∀ t, t < nt → (1 ≤ rm t ∧ rm t ≤ 5) ∧ (1 ≤ sd t ∧ sd t ≤ 100) ∧ dr t ≤ 30 ∧ pe t ≤ 10 ∧ (1 ≤ ce t ∧ ce t ≤ 100000)) (hfr : 4 ≤ R.frames) (hlo : 109 ≤ R.locals) (hce : cells ≤ R.cells) (hsl : slots ≤ R.slots) (hA : ∀ q : Nat, s.heap.size ≤ q → A q) (kend : ∀ (b : Option (Nat × Nat)) (ab be : Int64), isB ce (SR (fC pp hh rm sd dr pe F) ps nt 7 0) b →  ∀ (H : Heap) (locs : List Loc) (ls : Array Slot), va_P (dC, dI) vwCl [(q 0, .inr (6, (mF q (nI 0) F nt ab be))), (q 1, .inl (cI, 13, .inl (fun j => nI (pp j)))), (q 2, .inl (cI, 13, .inl (fun j => nI (hh j)))), (q 4, .inl (cI, 6, .inl (fun j => nI (rm j)))), (q 5, .inl (cI, 6, .inl (fun j => nI (sd j)))), (q 6, .inl (cI, 6, .inl (fun j => nI (dr j)))), (q 7, .inl (cI, 6, .inl (fun j => nI (pe j)))), (q 8, .inl (cI, 6, .inl (fun j => nI (ce j))))] H → va_D A [(q 0, .inr (6, (mF q (nI 0) F nt ab be))), (q 1, .inl (cI, 13, .inl (fun j => nI (pp j)))), (q 2, .inl (cI, 13, .inl (fun j => nI (hh j)))), (q 4, .inl (cI, 6, .inl (fun j => nI (rm j)))), (q 5, .inl (cI, 6, .inl (fun j => nI (sd j)))), (q 6, .inl (cI, 6, .inl (fun j => nI (dr j)))), (q 7, .inl (cI, 6, .inl (fun j => nI (pe j)))), (q 8, .inl (cI, 6, .inl (fun j => nI (ce j))))] → va_S A s.heap H locs → lv_has ls 7 [(0, .ref (q 0)), (1, .int (nI ps)), (2, .int (bV b)), (3, .int (nI (bC ce b))), (4, .int (nI 7))] → W p l e R s m args below meth c H locs cells slots Q (F0 m 134 ls [])) : ∀ j n : Nat, 7 - n < j → 1 ≤ n → n ≤ 7 → ∀ (b : Option (Nat × Nat)) (ab be : Int64), isB ce (SR (fC pp hh rm sd dr pe F) ps nt n 0) b →  ∀ (H : Heap) (locs : List Loc) (ls : Array Slot), va_P (dC, dI) vwCl [(q 0, .inr (6, (mF q (nI 0) F nt ab be))), (q 1, .inl (cI, 13, .inl (fun j => nI (pp j)))), (q 2, .inl (cI, 13, .inl (fun j => nI (hh j)))), (q 4, .inl (cI, 6, .inl (fun j => nI (rm j)))), (q 5, .inl (cI, 6, .inl (fun j => nI (sd j)))), (q 6, .inl (cI, 6, .inl (fun j => nI (dr j)))), (q 7, .inl (cI, 6, .inl (fun j => nI (pe j)))), (q 8, .inl (cI, 6, .inl (fun j => nI (ce j))))] H → va_D A [(q 0, .inr (6, (mF q (nI 0) F nt ab be))), (q 1, .inl (cI, 13, .inl (fun j => nI (pp j)))), (q 2, .inl (cI, 13, .inl (fun j => nI (hh j)))), (q 4, .inl (cI, 6, .inl (fun j => nI (rm j)))), (q 5, .inl (cI, 6, .inl (fun j => nI (sd j)))), (q 6, .inl (cI, 6, .inl (fun j => nI (dr j)))), (q 7, .inl (cI, 6, .inl (fun j => nI (pe j)))), (q 8, .inl (cI, 6, .inl (fun j => nI (ce j))))] → va_S A s.heap H locs → lv_has ls 7 [(0, .ref (q 0)), (1, .int (nI ps)), (2, .int (bV b)), (3, .int (nI (bC ce b))), (4, .int (nI n))] → W p l e R s m args below meth c H locs cells slots Q (F0 m 31 ls []) := by
  obtain ⟨hx, hb, hml, hown, hts⟩ := id hF
  have hK := hC.1
  intro j
  induction j with
  | zero => intro i hj; omega
  | succ j ih =>
    intro n hj hn1 hn7 b ab be hB H locs ls hP hD hS hl
    refine lv_iload hx hb d_M_cheapest_31 (lv_at hl 4 rfl) ?_
    refine lv_bipush (v := nI 6) hx hb d_M_cheapest_33 (by decide) ?_
    refine nx_icmp_gt (tgt := 134) hx hb d_M_cheapest_35 (by decide) (by omega) (by omega) (fun h1 => ?_) (fun h1 => ?_)
    · have hie : n = 7 := by omega
      subst hie
      exact kend b ab be hB H locs ls hP hD hS hl
    · refine lv_aload_n hx hb d_M_cheapest_38 rfl (lv_at hl 0 rfl) ?_
      refine va_get (D := (dC, dI)) (ci := 6) (v := .int (nI 0)) (C := R_M) (T := F_M) (N := 17) hx hb hts i_M hown hK hP 0 rfl rfl 0 (by decide) (hts _ k_477) (fun _ h9 => h9) rfl d_M_cheapest_39 ?_
      refine nx_if_ne (tgt := 134) hx hb d_M_cheapest_42 (by decide) (by omega) (fun h2 => ?_) (fun h2 => ?_)
      · exact absurd h2 (by omega)
      · refine lv_iconst (v := nI 0) hx hb d_M_cheapest_45 (by decide) ?_
        refine lv_istore (lv' := [(5, .int (nI 0)), (0, .ref (q 0)), (1, .int (nI ps)), (2, .int (bV b)), (3, .int (nI (bC ce b))), (4, .int (nI n))]) hx hb d_M_cheapest_46 hl (by decide) rfl (fun ls hl => ?_)
        refine l_M_cheapI ⟨hx, hb, hml, hown, hts⟩ hC hF12 hF1 hU2 hhh hps hn6 hcar hfr hlo hce hsl hA hn1 (by omega) (fun b ab be hB H locs ls hP hD hS hl => ?_) (nt + 1) 0 (by omega) (by omega) b ab be hB H locs ls hP hD hS (lv_sub hl [1, 2, 3, 4, 5, 0] rfl)
        refine nx_inc (lv' := [(4, .int (nI (n + 1))), (0, .ref (q 0)), (1, .int (nI ps)), (2, .int (bV b)), (3, .int (nI (bC ce b)))]) hx hb d_M_cheapest_128 hl (k := 4) rfl (by decide) rfl (fun ls hl => ?_)
        refine lv_goto (tgt := 31) hx hb d_M_cheapest_131 (by decide) ?_
        exact ih (n + 1) (by omega) (by omega) (by omega) b ab be (rf_row hB) H locs ls hP hD hS (lv_sub hl [1, 2, 3, 4, 0] rfl)
end
set_option maxHeartbeats 4000000 in
set_option maxRecDepth 100000 in
theorem c_M_cheapest (l : Launch) {dC : Nat → ClassId} {dI : Nat → Nat → Nat} {cI cL cT : ClassId} {sa : Nat → Nat} (sz : Nat) (q : Nat → Nat) (th : Int32) (F nt : Nat) (ab be : Int64) (pp hh rm sd dr pe ce : Nat → Nat) (ps : Nat) (hF12 : F ≤ 12) (hF1 : 1 ≤ F) (hU2 : sm pp 1 F ≤ 200) (hhh : ∀ k, k < F → hh (1 + k) ≤ 1200) (hps : ps < 2 ^ 31) (hn6 : nt ≤ 6) (hcar : ∀ t, t < nt → (1 ≤ rm t ∧ rm t ≤ 5) ∧ (1 ≤ sd t ∧ sd t ≤ 100) ∧ dr t ≤ 30 ∧ pe t ≤ 10 ∧ (1 ≤ ce t ∧ ce t ≤ 100000)) : Met l y_M_cheapest (Cond.code y_M_cheapest b_M_cheapest 7 (some .int) :: gw) ({ frames := 4, cells := 0, slots := 0, locals := 109 } : Room) (wr dC dI cI cL cT sa [.ref (q 0), .int (nI ps)] [(q 0, .inr (6, (mF q th F nt ab be))), (q 1, .inl (cI, 13, .inl (fun j => nI (pp j)))), (q 2, .inl (cI, 13, .inl (fun j => nI (hh j)))), (q 4, .inl (cI, 6, .inl (fun j => nI (rm j)))), (q 5, .inl (cI, 6, .inl (fun j => nI (sd j)))), (q 6, .inl (cI, 6, .inl (fun j => nI (dr j)))), (q 7, .inl (cI, 6, .inl (fun j => nI (pe j)))), (q 8, .inl (cI, 6, .inl (fun j => nI (ce j))))] sz) (va_Qi (fun r (u : Int64 × Int64) => ∃ b, isB ce (SC (fC pp hh rm sd dr pe F) ps nt) b ∧ r = bV b) (fun (u : Int64 × Int64) => wB dC dI [(q 0, .inr (6, (mF q th F nt ab be))), (q 1, .inl (cI, 13, .inl (fun j => nI (pp j)))), (q 2, .inl (cI, 13, .inl (fun j => nI (hh j)))), (q 4, .inl (cI, 6, .inl (fun j => nI (rm j)))), (q 5, .inl (cI, 6, .inl (fun j => nI (sd j)))), (q 6, .inl (cI, 6, .inl (fun j => nI (dr j)))), (q 7, .inl (cI, 6, .inl (fun j => nI (pe j)))), (q 8, .inl (cI, 6, .inl (fun j => nI (ce j))))] [(q 0, .inr (6, (mF q (nI 0) F nt (u.1) (u.2)))), (q 1, .inl (cI, 13, .inl (fun j => nI (pp j)))), (q 2, .inl (cI, 13, .inl (fun j => nI (hh j)))), (q 4, .inl (cI, 6, .inl (fun j => nI (rm j)))), (q 5, .inl (cI, 6, .inl (fun j => nI (sd j)))), (q 6, .inl (cI, 6, .inl (fun j => nI (dr j)))), (q 7, .inl (cI, 6, .inl (fun j => nI (pe j)))), (q 8, .inl (cI, 6, .inl (fun j => nI (ce j))))] sz ()) (va_A [(q 0, .inr (6, (mF q th F nt ab be))), (q 1, .inl (cI, 13, .inl (fun j => nI (pp j)))), (q 2, .inl (cI, 13, .inl (fun j => nI (hh j)))), (q 4, .inl (cI, 6, .inl (fun j => nI (rm j)))), (q 5, .inl (cI, 6, .inl (fun j => nI (sd j)))), (q 6, .inl (cI, 6, .inl (fun j => nI (dr j)))), (q 7, .inl (cI, 6, .inl (fun j => nI (pe j)))), (q 8, .inl (cI, 6, .inl (fun j => nI (ce j))))] sz)) 0 0 (va_A [(q 0, .inr (6, (mF q th F nt ab be))), (q 1, .inl (cI, 13, .inl (fun j => nI (pp j)))), (q 2, .inl (cI, 13, .inl (fun j => nI (hh j)))), (q 4, .inl (cI, 6, .inl (fun j => nI (rm j)))), (q 5, .inl (cI, 6, .inl (fun j => nI (sd j)))), (q 6, .inl (cI, 6, .inl (fun j => nI (dr j)))), (q 7, .inl (cI, 6, .inl (fun j => nI (pe j)))), (q 8, .inl (cI, 6, .inl (fun j => nI (ce j))))] sz) := by
  refine Met.ofW (cc := b_M_cheapest) (maxL := 7) (ret := (some .int)) (by decide) rfl ?_
  intro p e s m args below meth c s₁ B hml hv
  obtain ⟨rfl, hsz, hC, hP, hD0⟩ := hv
  have hx := B.exec
  have hb := B.bytes
  have hr := B.returns
  have hts : ∀ w ∈ gw, w.before ([.ref (q 0), .int (nI ps)] : List Value).toArray s = true := fun w hw => atoms_spec (ws := Cond.code y_M_cheapest b_M_cheapest 7 (some .int) :: gw) B.pre w (List.mem_cons_of_mem _ hw)
  have hown : s.vm.findClass R_M = some m.cls := findClass_of_methodNamed B.named
  have hlocks := B.notSynchronized
  have hK := hC.1
  have hfr : 4 ≤ (headSpec (Cond.code y_M_cheapest b_M_cheapest 7 (some .int) :: gw) ({ frames := 4, cells := 0, slots := 0, locals := 109 } : Room)).room.frames := Nat.le_refl _
  have hlo : 109 ≤ (headSpec (Cond.code y_M_cheapest b_M_cheapest 7 (some .int) :: gw) ({ frames := 4, cells := 0, slots := 0, locals := 109 } : Room)).room.locals := Nat.le_refl _
  have hce : 0 ≤ (headSpec (Cond.code y_M_cheapest b_M_cheapest 7 (some .int) :: gw) ({ frames := 4, cells := 0, slots := 0, locals := 109 } : Room)).room.cells := Nat.zero_le _
  have hsl : 0 ≤ (headSpec (Cond.code y_M_cheapest b_M_cheapest 7 (some .int) :: gw) ({ frames := 4, cells := 0, slots := 0, locals := 109 } : Room)).room.slots := Nat.zero_le _
  subst hsz
  have hD := hD0.self (sz := s.heap.size)
  unfold wB
  generalize hAe : va_A [(q 0, .inr (6, (mF q th F nt ab be))), (q 1, .inl (cI, 13, .inl (fun j => nI (pp j)))), (q 2, .inl (cI, 13, .inl (fun j => nI (hh j)))), (q 4, .inl (cI, 6, .inl (fun j => nI (rm j)))), (q 5, .inl (cI, 6, .inl (fun j => nI (sd j)))), (q 6, .inl (cI, 6, .inl (fun j => nI (dr j)))), (q 7, .inl (cI, 6, .inl (fun j => nI (pe j)))), (q 8, .inl (cI, 6, .inl (fun j => nI (ce j))))] s.heap.size = A at hD ⊢
  have hA : ∀ q : Nat, s.heap.size ≤ q → A q := fun q h => by rw [← hAe]; exact Or.inr h
  have hS : va_S A s.heap s.heap [] := va_S.rf
  have hl := lv_entry ([.ref (q 0), .int (nI ps)]) (n := 7) (Nat.le_of_ble_eq_true rfl)
  rw [lg_entry_eq]
  generalize (lg_sl ([.ref (q 0), .int (nI ps)]) ++ List.replicate (7 - (lg_sl ([.ref (q 0), .int (nI ps)])).length) Slot.unset).toArray = ls at hl ⊢
  have hl : lv_has ls 7 [(0, .ref (q 0)), (1, .int (nI ps))] := hl
  refine lv_aload_n hx hb d_M_cheapest_0 rfl (lv_at hl 0 rfl) ?_
  refine lv_iload_n hx hb d_M_cheapest_1 rfl (lv_at hl 1 rfl) ?_
  refine lv_if_ge (tgt := 9) hx hb d_M_cheapest_2 (by decide) (fun h1 => ?_) (fun h1 => ?_)
  · refine lv_aload_n hx hb d_M_cheapest_9 rfl (lv_at hl 0 rfl) ?_
    refine va_get (D := (dC, dI)) (ci := 6) (v := .int (nI F)) (C := R_M) (T := F_M) (N := 17) hx hb hts i_M hown hK hP 0 rfl rfl 3 (by decide) (hts _ k_480) (fun _ h9 => h9) rfl d_M_cheapest_10 ?_
    refine nx_if_ne (tgt := 20) hx hb d_M_cheapest_13 (by decide) (by omega) (fun h2 => ?_) (fun h2 => ?_)
    · refine lv_iconst (v := nI 0) hx hb d_M_cheapest_20 (by decide) ?_
      refine va_put (D := (dC, dI)) (ci := 6) (v := .int (nI 0)) (ty := (.int)) (C := R_M) (T := F_M) (N := 17) hx hb hts i_M ft_M ft_M_ok n_M hown hK hP hD hS 0 rfl rfl 0 (by decide) (hts _ k_477) (fun _ h9 => h9) rfl (by decide +kernel) rfl rfl (Nat.le_of_ble_eq_true rfl) d_M_cheapest_21 (fun H locs hP hD hS => ?_)
      have hP : va_P (dC, dI) vwCl [(q 0, .inr (6, (mF q (nI 0) F nt ab be))), (q 1, .inl (cI, 13, .inl (fun j => nI (pp j)))), (q 2, .inl (cI, 13, .inl (fun j => nI (hh j)))), (q 4, .inl (cI, 6, .inl (fun j => nI (rm j)))), (q 5, .inl (cI, 6, .inl (fun j => nI (sd j)))), (q 6, .inl (cI, 6, .inl (fun j => nI (dr j)))), (q 7, .inl (cI, 6, .inl (fun j => nI (pe j)))), (q 8, .inl (cI, 6, .inl (fun j => nI (ce j))))] H := hP
      have hD : va_D A [(q 0, .inr (6, (mF q (nI 0) F nt ab be))), (q 1, .inl (cI, 13, .inl (fun j => nI (pp j)))), (q 2, .inl (cI, 13, .inl (fun j => nI (hh j)))), (q 4, .inl (cI, 6, .inl (fun j => nI (rm j)))), (q 5, .inl (cI, 6, .inl (fun j => nI (sd j)))), (q 6, .inl (cI, 6, .inl (fun j => nI (dr j)))), (q 7, .inl (cI, 6, .inl (fun j => nI (pe j)))), (q 8, .inl (cI, 6, .inl (fun j => nI (ce j))))] := hD
      refine lv_iconst (v := -1) hx hb d_M_cheapest_24 (by decide) ?_
      refine lv_istore_n (lv' := [(2, .int ((-1))), (0, .ref (q 0)), (1, .int (nI ps))]) hx hb d_M_cheapest_25 rfl hl (by decide) rfl (fun ls hl => ?_)
      refine lv_iconst (v := nI 0) hx hb d_M_cheapest_26 (by decide) ?_
      refine lv_istore_n (lv' := [(3, .int (nI 0)), (2, .int ((-1))), (0, .ref (q 0)), (1, .int (nI ps))]) hx hb d_M_cheapest_27 rfl hl (by decide) rfl (fun ls hl => ?_)
      refine lv_iconst (v := nI 1) hx hb d_M_cheapest_28 (by decide) ?_
      refine lv_istore (lv' := [(4, .int (nI 1)), (3, .int (nI 0)), (2, .int ((-1))), (0, .ref (q 0)), (1, .int (nI ps))]) hx hb d_M_cheapest_29 hl (by decide) rfl (fun ls hl => ?_)
      refine l_M_cheap ⟨hx, hb, hml, hown, hts⟩ hC hF12 hF1 hU2 hhh hps hn6 hcar hfr hlo hce hsl hA (fun b ab be hB H locs ls hP hD hS hl => ?_) 7 1 (by omega) (by omega) (by omega) none ab be rf_0 _ _ ls hP hD hS (lv_sub hl [3, 4, 2, 1, 0] rfl)
      refine lv_aload_n hx hb d_M_cheapest_134 rfl (lv_at hl 0 rfl) ?_
      refine va_get (D := (dC, dI)) (ci := 6) (v := .int (nI 0)) (C := R_M) (T := F_M) (N := 17) hx hb hts i_M hown hK hP 0 rfl rfl 0 (by decide) (hts _ k_477) (fun _ h9 => h9) rfl d_M_cheapest_135 ?_
      refine nx_if_le (tgt := 145) hx hb d_M_cheapest_138 (by decide) (by omega) (fun h7 => ?_) (fun h7 => ?_)
      · refine lv_iload_n hx hb d_M_cheapest_145 rfl (lv_at hl 2 rfl) ?_
        exact W.iret hx hb hr (fun t ht hW => ⟨⟨_, (ab, be), rfl, ⟨b, rf_end hB, rfl⟩, by rw [ht]; exact hP, hD⟩, hS.F ht⟩) hS.2.2 d_M_cheapest_146
      · exact absurd h7 (by omega)
    · exact absurd h2 (by omega)
  · exact absurd (Int32.le_iff_toInt_le.mpr (by rw [show (0 : Int32) = nI 0 by decide, nI_toInt (by decide), nI_toInt hps]; omega)) h1
