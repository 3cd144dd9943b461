section
variable {p : Program} {l : Launch} {e : Env} {R : Room} {s : State} {m : MethodId} {args : Array Value} {below : List Frame} {meth : Method} {c : Code} {cells slots : Nat} {Q : State → Prop} {A : Nat → Prop}
variable {dC : Nat → ClassId} {dI : Nat → Nat → Nat} {cI cL cT : ClassId} {sa : Nat → Nat}
set_option maxHeartbeats 4000000 in
set_option maxRecDepth 100000 in
theorem l_T_out (hF : CallFix p m c b_T_out 3 s args gw R_T) (hC : CT dC dI cI cL cT sa s) {g : Nat → Nat} {F nt : Nat} {pp aa : Nat → Nat} {wi n : Nat}  (hF12 : F ≤ 12) (hwi : wi ≤ 50) (hE : sm pp 1 F ≤ 200) (hn : n ≤ 212) (ho : isOut wi F (cp pp aa 13) n)  (hfr : 3 ≤ R.frames) (hlo : 360 ≤ R.locals) (hce : cells ≤ R.cells) (hsl : slots ≤ R.slots) (hA : ∀ q : Nat, s.heap.size ≤ q → A q) (kend : ∀ (H : Heap) (locs : List Loc) (ls : Array Slot), va_P (dC, dI) vwCl [(g 0, .inr (5, [.ref (g 1), .ref (g 4), .int (nI nt), .ref (g 5), .ref (g 6), .ref (g 11)])), (g 1, .inr (0, [.ref (g 2), .ref (g 3), .int (nI F), .int (nI (sm pp 1 F))])), (g 2, .inl (cI, 13, .inl (fun j => nI (pp j)))), (g 11, .inr (4, [.ref (g 12), .int (nI (sm (it wi F (cp pp aa 13) n) 1 F))])), (g 12, .inl (cI, 13, .inl (fun j => nI ((it wi F (cp pp aa 13) n) j))))] H → va_D A [(g 0, .inr (5, [.ref (g 1), .ref (g 4), .int (nI nt), .ref (g 5), .ref (g 6), .ref (g 11)])), (g 1, .inr (0, [.ref (g 2), .ref (g 3), .int (nI F), .int (nI (sm pp 1 F))])), (g 2, .inl (cI, 13, .inl (fun j => nI (pp j)))), (g 11, .inr (4, [.ref (g 12), .int (nI (sm (it wi F (cp pp aa 13) n) 1 F))])), (g 12, .inl (cI, 13, .inl (fun j => nI ((it wi F (cp pp aa 13) n) j))))] → va_S A s.heap H locs → lv_has ls 3 [(0, .ref (g 0)), (1, .int (nI wi)), (2, .int (nI n))] → W p l e R s m args below meth c H locs cells slots Q (F0 m 58 ls [])) : ∀ j i : Nat, n - i < j → i ≤ n → ∀ (H : Heap) (locs : List Loc) (ls : Array Slot), va_P (dC, dI) vwCl [(g 0, .inr (5, [.ref (g 1), .ref (g 4), .int (nI nt), .ref (g 5), .ref (g 6), .ref (g 11)])), (g 1, .inr (0, [.ref (g 2), .ref (g 3), .int (nI F), .int (nI (sm pp 1 F))])), (g 2, .inl (cI, 13, .inl (fun j => nI (pp j)))), (g 11, .inr (4, [.ref (g 12), .int (nI (sm (it wi F (cp pp aa 13) i) 1 F))])), (g 12, .inl (cI, 13, .inl (fun j => nI ((it wi F (cp pp aa 13) i) j))))] H → va_D A [(g 0, .inr (5, [.ref (g 1), .ref (g 4), .int (nI nt), .ref (g 5), .ref (g 6), .ref (g 11)])), (g 1, .inr (0, [.ref (g 2), .ref (g 3), .int (nI F), .int (nI (sm pp 1 F))])), (g 2, .inl (cI, 13, .inl (fun j => nI (pp j)))), (g 11, .inr (4, [.ref (g 12), .int (nI (sm (it wi F (cp pp aa 13) i) 1 F))])), (g 12, .inl (cI, 13, .inl (fun j => nI ((it wi F (cp pp aa 13) i) j))))] → va_S A s.heap H locs → lv_has ls 3 [(0, .ref (g 0)), (1, .int (nI wi)), (2, .int (nI i))] → W p l e R s m args below meth c H locs cells slots Q (F0 m 20 ls []) := by
  obtain ⟨hx, hb, hml, hown, hts⟩ := id hF
  have hK := hC.1
  intro j
  induction j with
  | zero => intro i hj; omega
  | succ j ih =>
    intro i hj hi H locs ls hP hD hS hl
    have hs2 : sm (cp pp aa 13) 1 F ≤ 200 := by rw [cp_sm hF12]; exact hE
    have hle := it_sm_le wi F (cp pp aa 13) i
    refine lv_iload_n hx hb d_T_out_20 rfl (lv_at hl 2 rfl) ?_
    refine lv_sipush (v := nI 1000) hx hb d_T_out_21 (by decide) ?_
    refine nx_icmp_ge (tgt := 58) hx hb d_T_out_24 (by decide) (by omega) (by omega) (fun h1 => ?_) (fun h1 => ?_)
    · exact absurd h1 (by omega)
    · refine lv_aload_n hx hb d_T_out_27 rfl (lv_at hl 0 rfl) ?_
      refine va_get (D := (dC, dI)) (ci := 5) (v := .ref (g 11)) (C := R_T) (T := F_T) (N := 6) hx hb hts i_T hown hK hP 0 rfl rfl 5 (by decide) (hts _ k_125) (fun _ h9 => h9) rfl d_T_out_28 ?_
      refine va_get (D := (dC, dI)) (ci := 4) (v := .int (nI (sm (it wi F (cp pp aa 13) i) 1 F))) (C := R_A) (T := F_A) (N := 2) hx hb hts i_A hown hK hP 3 rfl rfl 1 (by decide) (hts _ k_114) (fun _ h9 => h9) rfl d_T_out_31 ?_
      refine nx_if_le (tgt := 58) hx hb d_T_out_34 (by decide) (by omega) (fun h2 => ?_) (fun h2 => ?_)
      · have hie : i = n := Classical.byContradiction fun z => ho.2 i (by omega) h2
        subst hie
        exact kend H locs ls hP hD hS hl
      · have hlt : i < n := isOut_lt ho hi h2
        refine lv_aload_n hx hb d_T_out_37 rfl (lv_at hl 0 rfl) ?_
        refine va_get (D := (dC, dI)) (ci := 5) (v := .ref (g 11)) (C := R_T) (T := F_T) (N := 6) hx hb hts i_T hown hK hP 0 rfl rfl 5 (by decide) (hts _ k_125) (fun _ h9 => h9) rfl d_T_out_38 ?_
        refine lv_aload_n hx hb d_T_out_41 rfl (lv_at hl 0 rfl) ?_
        refine va_get (D := (dC, dI)) (ci := 5) (v := .ref (g 1)) (C := R_T) (T := F_T) (N := 6) hx hb hts i_T hown hK hP 0 rfl rfl 0 (by decide) (hts _ k_120) (fun _ h9 => h9) rfl d_T_out_42 ?_
        refine va_get (D := (dC, dI)) (ci := 0) (v := .int (nI F)) (C := R_B) (T := F_B) (N := 4) hx hb hts i_B hown hK hP 1 rfl rfl 2 (by decide) (hts _ k_37) (fun _ h9 => h9) rfl d_T_out_45 ?_
        refine lv_iload_n hx hb d_T_out_48 rfl (lv_at hl 1 rfl) ?_
        have hPc := hP.sub (ws' := [(g 11, .inr (4, [.ref (g 12), .int (nI (sm (it wi F (cp pp aa 13) i) 1 F))])), (g 12, .inl (cI, 13, .inl (fun j => nI ((it wi F (cp pp aa 13) i) j))))]) [3, 4] rfl
        have hDc := hD.sub (ws' := [(g 11, .inr (4, [.ref (g 12), .int (nI (sm (it wi F (cp pp aa 13) i) 1 F))])), (g 12, .inl (cI, 13, .inl (fun j => nI ((it wi F (cp pp aa 13) i) j))))]) [3, 4] (by decide) rfl
        have hFc := va_free (wc := [(g 11, .inr (4, [.ref (g 12), .int (nI (sm (it wi F (cp pp aa 13) i) 1 F))])), (g 12, .inl (cI, 13, .inl (fun j => nI ((it wi F (cp pp aa 13) i) j))))]) hD hS hA [3, 4] rfl
        refine va_callv (va_runV (As := [.int (nI F), .int (nI wi)]) (rest := []) ⟨hx, hb, hml, hown, hts⟩ (c_A_oneSecond l _ g F (it wi F (cp pp aa 13) i) wi hF12 hwi (fun j h1 h2 => Nat.lt_of_le_of_lt (it_le h1 h2) (by omega))) (cwV 2 hts (gw_V k_450 k_447 k_448 k_449 k_5) rfl rfl rfl (by decide +kernel) ⟨Nat.le_trans (Nat.le_of_ble_eq_true rfl) hfr, Nat.le_trans (Nat.le_of_ble_eq_true rfl) hlo⟩) ⟨wr_blind, va_recv hK hP (ci := 4) (q0 := 3) rfl rfl, wr_at hC hPc hDc⟩ rfl rfl hl.1 rfl (lv_room (Nat.le_of_ble_eq_true rfl)) d_T_out_49 ⟨hce, hsl⟩) hS (fun q _ h => hFc q h) hFc (fun u t H1 locs ht hvm hw hB hz1 hk1 hS => ?_)
        obtain ⟨hP1, hD1⟩ := hB
        rw [ht] at hP1
        obtain ⟨hP, hD⟩ := va_join (wr := [(g 0, .inr (5, [.ref (g 1), .ref (g 4), .int (nI nt), .ref (g 5), .ref (g 6), .ref (g 11)])), (g 1, .inr (0, [.ref (g 2), .ref (g 3), .int (nI F), .int (nI (sm pp 1 F))])), (g 2, .inl (cI, 13, .inl (fun j => nI (pp j))))]) (w1 := [(g 11, .inr (4, [.ref (g 12), .int (nI (sm (it wi F (cp pp aa 13) (i + 1)) 1 F))])), (g 12, .inl (cI, 13, .inl (fun j => nI ((it wi F (cp pp aa 13) (i + 1)) j))))]) hP hD [3, 4] [0, 1, 2] rfl rfl (by decide) (by decide) hk1 hFc hP1 hD1
        generalize H1 = H at hP hS ⊢
        have hP := hP.sub (ws' := [(g 0, .inr (5, [.ref (g 1), .ref (g 4), .int (nI nt), .ref (g 5), .ref (g 6), .ref (g 11)])), (g 1, .inr (0, [.ref (g 2), .ref (g 3), .int (nI F), .int (nI (sm pp 1 F))])), (g 2, .inl (cI, 13, .inl (fun j => nI (pp j)))), (g 11, .inr (4, [.ref (g 12), .int (nI (sm (it wi F (cp pp aa 13) (i + 1)) 1 F))])), (g 12, .inl (cI, 13, .inl (fun j => nI ((it wi F (cp pp aa 13) (i + 1)) j))))]) [0, 1, 2, 3, 4] rfl
        have hD := hD.sub (ws' := [(g 0, .inr (5, [.ref (g 1), .ref (g 4), .int (nI nt), .ref (g 5), .ref (g 6), .ref (g 11)])), (g 1, .inr (0, [.ref (g 2), .ref (g 3), .int (nI F), .int (nI (sm pp 1 F))])), (g 2, .inl (cI, 13, .inl (fun j => nI (pp j)))), (g 11, .inr (4, [.ref (g 12), .int (nI (sm (it wi F (cp pp aa 13) (i + 1)) 1 F))])), (g 12, .inl (cI, 13, .inl (fun j => nI ((it wi F (cp pp aa 13) (i + 1)) j))))]) [0, 1, 2, 3, 4] (by decide) rfl
        refine nx_inc (lv' := [(2, .int (nI (i + 1))), (0, .ref (g 0)), (1, .int (nI wi))]) hx hb d_T_out_52 hl (k := 2) rfl (by decide) rfl (fun ls hl => ?_)
        refine lv_goto (tgt := 20) hx hb d_T_out_55 (by decide) ?_
        exact ih (i + 1) (by omega) (by omega) H locs ls hP hD hS (lv_sub hl [1, 2, 0] rfl)
end
set_option maxHeartbeats 4000000 in
set_option maxRecDepth 100000 in
theorem c_T_out (l : Launch) {dC : Nat → ClassId} {dI : Nat → Nat → Nat} {cI cL cT : ClassId} {sa : Nat → Nat} (sz : Nat) (g : Nat → Nat) (F nt ins : Nat) (pp aa : Nat → Nat) (wi n : Nat) (hw1 : 1 ≤ wi) (hF12 : F ≤ 12) (hwi : wi ≤ 50) (hE : sm pp 1 F ≤ 200) (hn : n ≤ 212) (ho : isOut wi F (cp pp aa 13) n) : Met l y_T_out (Cond.code y_T_out b_T_out 3 (some .int) :: gw) ({ frames := 3, cells := 0, slots := 0, locals := 360 } : Room) (wr dC dI cI cL cT sa [.ref (g 0), .int (nI wi)] [(g 0, .inr (5, [.ref (g 1), .ref (g 4), .int (nI nt), .ref (g 5), .ref (g 6), .ref (g 11)])), (g 1, .inr (0, [.ref (g 2), .ref (g 3), .int (nI F), .int (nI (sm pp 1 F))])), (g 2, .inl (cI, 13, .inl (fun j => nI (pp j)))), (g 11, .inr (4, [.ref (g 12), .int (nI ins)])), (g 12, .inl (cI, 13, .inl (fun j => nI (aa j))))] sz) (va_Qi (fun r (_ : Unit) => r = nI n) (wB dC dI [(g 0, .inr (5, [.ref (g 1), .ref (g 4), .int (nI nt), .ref (g 5), .ref (g 6), .ref (g 11)])), (g 1, .inr (0, [.ref (g 2), .ref (g 3), .int (nI F), .int (nI (sm pp 1 F))])), (g 2, .inl (cI, 13, .inl (fun j => nI (pp j)))), (g 11, .inr (4, [.ref (g 12), .int (nI ins)])), (g 12, .inl (cI, 13, .inl (fun j => nI (aa j))))] [(g 0, .inr (5, [.ref (g 1), .ref (g 4), .int (nI nt), .ref (g 5), .ref (g 6), .ref (g 11)])), (g 1, .inr (0, [.ref (g 2), .ref (g 3), .int (nI F), .int (nI (sm pp 1 F))])), (g 2, .inl (cI, 13, .inl (fun j => nI (pp j)))), (g 11, .inr (4, [.ref (g 12), .int (nI (sm (it wi F (cp pp aa 13) n) 1 F))])), (g 12, .inl (cI, 13, .inl (fun j => nI ((it wi F (cp pp aa 13) n) j))))] sz) (va_A [(g 0, .inr (5, [.ref (g 1), .ref (g 4), .int (nI nt), .ref (g 5), .ref (g 6), .ref (g 11)])), (g 1, .inr (0, [.ref (g 2), .ref (g 3), .int (nI F), .int (nI (sm pp 1 F))])), (g 2, .inl (cI, 13, .inl (fun j => nI (pp j)))), (g 11, .inr (4, [.ref (g 12), .int (nI ins)])), (g 12, .inl (cI, 13, .inl (fun j => nI (aa j))))] sz)) 0 0 (va_A [(g 0, .inr (5, [.ref (g 1), .ref (g 4), .int (nI nt), .ref (g 5), .ref (g 6), .ref (g 11)])), (g 1, .inr (0, [.ref (g 2), .ref (g 3), .int (nI F), .int (nI (sm pp 1 F))])), (g 2, .inl (cI, 13, .inl (fun j => nI (pp j)))), (g 11, .inr (4, [.ref (g 12), .int (nI ins)])), (g 12, .inl (cI, 13, .inl (fun j => nI (aa j))))] sz) := by
  refine Met.ofW (cc := b_T_out) (maxL := 3) (ret := (some .int)) (by decide) rfl ?_
  intro p e s m args below meth c s₁ B hml hv
  obtain ⟨rfl, hsz, hC, hP, hD0⟩ := hv
  have hx := B.exec
  have hb := B.bytes
  have hr := B.returns
  have hts : ∀ w ∈ gw, w.before ([.ref (g 0), .int (nI wi)] : List Value).toArray s = true := fun w hw => atoms_spec (ws := Cond.code y_T_out b_T_out 3 (some .int) :: gw) B.pre w (List.mem_cons_of_mem _ hw)
  have hown : s.vm.findClass R_T = some m.cls := findClass_of_methodNamed B.named
  have hlocks := B.notSynchronized
  have hK := hC.1
  have hfr : 3 ≤ (headSpec (Cond.code y_T_out b_T_out 3 (some .int) :: gw) ({ frames := 3, cells := 0, slots := 0, locals := 360 } : Room)).room.frames := Nat.le_refl _
  have hlo : 360 ≤ (headSpec (Cond.code y_T_out b_T_out 3 (some .int) :: gw) ({ frames := 3, cells := 0, slots := 0, locals := 360 } : Room)).room.locals := Nat.le_refl _
  have hce : 0 ≤ (headSpec (Cond.code y_T_out b_T_out 3 (some .int) :: gw) ({ frames := 3, cells := 0, slots := 0, locals := 360 } : Room)).room.cells := Nat.zero_le _
  have hsl : 0 ≤ (headSpec (Cond.code y_T_out b_T_out 3 (some .int) :: gw) ({ frames := 3, cells := 0, slots := 0, locals := 360 } : Room)).room.slots := Nat.zero_le _
  subst hsz
  have hD := hD0.self (sz := s.heap.size)
  unfold wB
  generalize hAe : va_A [(g 0, .inr (5, [.ref (g 1), .ref (g 4), .int (nI nt), .ref (g 5), .ref (g 6), .ref (g 11)])), (g 1, .inr (0, [.ref (g 2), .ref (g 3), .int (nI F), .int (nI (sm pp 1 F))])), (g 2, .inl (cI, 13, .inl (fun j => nI (pp j)))), (g 11, .inr (4, [.ref (g 12), .int (nI ins)])), (g 12, .inl (cI, 13, .inl (fun j => nI (aa j))))] s.heap.size = A at hD ⊢
  have hA : ∀ q : Nat, s.heap.size ≤ q → A q := fun q h => by rw [← hAe]; exact Or.inr h
  have hS : va_S A s.heap s.heap [] := va_S.rf
  have hl := lv_entry ([.ref (g 0), .int (nI wi)]) (n := 3) (Nat.le_of_ble_eq_true rfl)
  rw [lg_entry_eq]
  generalize (lg_sl ([.ref (g 0), .int (nI wi)]) ++ List.replicate (3 - (lg_sl ([.ref (g 0), .int (nI wi)])).length) Slot.unset).toArray = ls at hl ⊢
  have hl : lv_has ls 3 [(0, .ref (g 0)), (1, .int (nI wi))] := hl
  have hs2 : sm (cp pp aa 13) 1 F ≤ 200 := by rw [cp_sm hF12]; exact hE
  refine lv_iload_n hx hb d_T_out_0 rfl (lv_at hl 1 rfl) ?_
  refine lv_iconst (v := nI 1) hx hb d_T_out_1 (by decide) ?_
  refine lv_bipush (v := nI 50) hx hb d_T_out_2 (by decide) ?_
  refine ro_callv (va_runS (As := [.int (nI wi), .int (nI 1), .int (nI 50)]) (rest := []) ⟨hx, hb, hml, hown, hts⟩ (c_T_requireWithin l (nI wi) (nI 1) (nI 50) 1 50 (nI_toInt (by decide)) (nI_toInt (by decide)) (by rw [nI_toInt (by omega)]; omega)) (cwS 3 hts (gw_S k_150 k_148 k_149 k_1) rfl rfl rfl (by decide +kernel) ⟨Nat.le_trans (Nat.le_of_ble_eq_true rfl) hfr, Nat.le_trans (Nat.le_of_ble_eq_true rfl) hlo⟩) ⟨pr_blind, pr_at hC (fun k q h => by simp at h)⟩ rfl rfl hl.1 rfl (lv_room (Nat.le_of_ble_eq_true rfl)) d_T_out_4 ⟨hce, hsl⟩) ?_
  refine lv_aload_n hx hb d_T_out_7 rfl (lv_at hl 0 rfl) ?_
  refine va_get (D := (dC, dI)) (ci := 5) (v := .ref (g 11)) (C := R_T) (T := F_T) (N := 6) hx hb hts i_T hown hK hP 0 rfl rfl 5 (by decide) (hts _ k_125) (fun _ h9 => h9) rfl d_T_out_8 ?_
  refine lv_aload_n hx hb d_T_out_11 rfl (lv_at hl 0 rfl) ?_
  refine va_get (D := (dC, dI)) (ci := 5) (v := .ref (g 1)) (C := R_T) (T := F_T) (N := 6) hx hb hts i_T hown hK hP 0 rfl rfl 0 (by decide) (hts _ k_120) (fun _ h9 => h9) rfl d_T_out_12 ?_
  have hPc := hP.sub (ws' := [(g 11, .inr (4, [.ref (g 12), .int (nI ins)])), (g 12, .inl (cI, 13, .inl (fun j => nI (aa j)))), (g 1, .inr (0, [.ref (g 2), .ref (g 3), .int (nI F), .int (nI (sm pp 1 F))])), (g 2, .inl (cI, 13, .inl (fun j => nI (pp j))))]) [3, 4, 1, 2] rfl
  have hDc := hD.sub (ws' := [(g 11, .inr (4, [.ref (g 12), .int (nI ins)])), (g 12, .inl (cI, 13, .inl (fun j => nI (aa j)))), (g 1, .inr (0, [.ref (g 2), .ref (g 3), .int (nI F), .int (nI (sm pp 1 F))])), (g 2, .inl (cI, 13, .inl (fun j => nI (pp j))))]) [3, 4, 1, 2] (by decide) rfl
  have hFc := va_free (wc := [(g 11, .inr (4, [.ref (g 12), .int (nI ins)])), (g 12, .inl (cI, 13, .inl (fun j => nI (aa j)))), (g 1, .inr (0, [.ref (g 2), .ref (g 3), .int (nI F), .int (nI (sm pp 1 F))])), (g 2, .inl (cI, 13, .inl (fun j => nI (pp j))))]) hD hS hA [3, 4, 1, 2] rfl
  refine va_callv (va_runV (As := [.ref (g 1)]) (rest := []) ⟨hx, hb, hml, hown, hts⟩ (c_A_begin l _ g F ins pp aa hF12) (cwV 1 hts (gw_V k_445 k_442 k_443 k_444 k_5) rfl rfl rfl (by decide +kernel) ⟨Nat.le_trans (Nat.le_of_ble_eq_true rfl) hfr, Nat.le_trans (Nat.le_of_ble_eq_true rfl) hlo⟩) ⟨wr_blind, va_recv hK hP (ci := 4) (q0 := 3) rfl rfl, wr_at hC hPc hDc⟩ rfl rfl hl.1 rfl (lv_room (Nat.le_of_ble_eq_true rfl)) d_T_out_15 ⟨hce, hsl⟩) hS (fun q _ h => hFc q h) hFc (fun u t H1 locs ht hvm hw hB hz1 hk1 hS => ?_)
  obtain ⟨hP1, hD1⟩ := hB
  rw [ht] at hP1
  obtain ⟨hP, hD⟩ := va_join (wr := [(g 0, .inr (5, [.ref (g 1), .ref (g 4), .int (nI nt), .ref (g 5), .ref (g 6), .ref (g 11)]))]) (w1 := [(g 11, .inr (4, [.ref (g 12), .int (nI (sm (cp pp aa 13) 1 F))])), (g 12, .inl (cI, 13, .inl (fun j => nI ((cp pp aa 13) j)))), (g 1, .inr (0, [.ref (g 2), .ref (g 3), .int (nI F), .int (nI (sm pp 1 F))])), (g 2, .inl (cI, 13, .inl (fun j => nI (pp j))))]) hP hD [3, 4, 1, 2] [0] rfl rfl (by decide) (by decide) hk1 hFc hP1 hD1
  generalize H1 = H at hP hS ⊢
  have hP := hP.sub (ws' := [(g 0, .inr (5, [.ref (g 1), .ref (g 4), .int (nI nt), .ref (g 5), .ref (g 6), .ref (g 11)])), (g 1, .inr (0, [.ref (g 2), .ref (g 3), .int (nI F), .int (nI (sm pp 1 F))])), (g 2, .inl (cI, 13, .inl (fun j => nI (pp j)))), (g 11, .inr (4, [.ref (g 12), .int (nI (sm (cp pp aa 13) 1 F))])), (g 12, .inl (cI, 13, .inl (fun j => nI ((cp pp aa 13) j))))]) [0, 3, 4, 1, 2] rfl
  have hD := hD.sub (ws' := [(g 0, .inr (5, [.ref (g 1), .ref (g 4), .int (nI nt), .ref (g 5), .ref (g 6), .ref (g 11)])), (g 1, .inr (0, [.ref (g 2), .ref (g 3), .int (nI F), .int (nI (sm pp 1 F))])), (g 2, .inl (cI, 13, .inl (fun j => nI (pp j)))), (g 11, .inr (4, [.ref (g 12), .int (nI (sm (cp pp aa 13) 1 F))])), (g 12, .inl (cI, 13, .inl (fun j => nI ((cp pp aa 13) j))))]) [0, 3, 4, 1, 2] (by decide) rfl
  refine lv_iconst (v := nI 0) hx hb d_T_out_18 (by decide) ?_
  refine lv_istore_n (lv' := [(2, .int (nI 0)), (0, .ref (g 0)), (1, .int (nI wi))]) hx hb d_T_out_19 rfl hl (by decide) rfl (fun ls hl => ?_)
  refine l_T_out ⟨hx, hb, hml, hown, hts⟩ hC hF12 hwi hE hn ho hfr hlo hce hsl hA (fun H locs ls hP hD hS hl => ?_) (n + 1) 0 (by omega) (by omega) H locs ls hP hD hS (lv_sub hl [1, 2, 0] rfl)
  refine lv_iload_n hx hb d_T_out_58 rfl (lv_at hl 2 rfl) ?_
  exact W.iret hx hb hr (fun t ht hW => ⟨⟨_, (), rfl, rfl, by rw [ht]; exact hP, hD⟩, hS.F ht⟩) hS.2.2 d_T_out_59
section
variable {p : Program} {l : Launch} {e : Env} {R : Room} {s : State} {m : MethodId} {args : Array Value} {below : List Frame} {meth : Method} {c : Code} {cells slots : Nat} {Q : State → Prop} {A : Nat → Prop}
variable {dC : Nat → ClassId} {dI : Nat → Nat → Nat} {cI cL cT : ClassId} {sa : Nat → Nat}
set_option maxHeartbeats 4000000 in
set_option maxRecDepth 100000 in
theorem l_T_there (hF : CallFix p m c b_T_there 5 s args gw R_T) (hC : CT dC dI cI cL cT sa s) {g : Nat → Nat} {F nt : Nat} {pp aa : Nat → Nat} {wi n : Nat} {fl sc : Nat} (hF12 : F ≤ 12) (hwi : wi ≤ 50) (hE : sm pp 1 F ≤ 200) (hn : n ≤ 212) (ho : isOut wi F (cp pp aa 13) n) (hsc : sc ≤ 1000) (hfr : 3 ≤ R.frames) (hlo : 360 ≤ R.locals) (hce : cells ≤ R.cells) (hsl : slots ≤ R.slots) (hA : ∀ q : Nat, s.heap.size ≤ q → A q) (kend : ∀ (H : Heap) (locs : List Loc) (ls : Array Slot), va_P (dC, dI) vwCl [(g 0, .inr (5, [.ref (g 1), .ref (g 4), .int (nI nt), .ref (g 5), .ref (g 6), .ref (g 11)])), (g 1, .inr (0, [.ref (g 2), .ref (g 3), .int (nI F), .int (nI (sm pp 1 F))])), (g 2, .inl (cI, 13, .inl (fun j => nI (pp j)))), (g 11, .inr (4, [.ref (g 12), .int (nI (sm (it wi F (cp pp aa 13) ((min sc n))) 1 F))])), (g 12, .inl (cI, 13, .inl (fun j => nI ((it wi F (cp pp aa 13) ((min sc n))) j))))] H → va_D A [(g 0, .inr (5, [.ref (g 1), .ref (g 4), .int (nI nt), .ref (g 5), .ref (g 6), .ref (g 11)])), (g 1, .inr (0, [.ref (g 2), .ref (g 3), .int (nI F), .int (nI (sm pp 1 F))])), (g 2, .inl (cI, 13, .inl (fun j => nI (pp j)))), (g 11, .inr (4, [.ref (g 12), .int (nI (sm (it wi F (cp pp aa 13) ((min sc n))) 1 F))])), (g 12, .inl (cI, 13, .inl (fun j => nI ((it wi F (cp pp aa 13) ((min sc n))) j))))] → va_S A s.heap H locs → lv_has ls 5 [(0, .ref (g 0)), (1, .int (nI wi)), (2, .int (nI fl)), (3, .int (nI sc)), (4, .int (nI ((min sc n))))] → W p l e R s m args below meth c H locs cells slots Q (F0 m 71 ls [])) : ∀ j i : Nat, (min sc n) - i < j → i ≤ (min sc n) → ∀ (H : Heap) (locs : List Loc) (ls : Array Slot), va_P (dC, dI) vwCl [(g 0, .inr (5, [.ref (g 1), .ref (g 4), .int (nI nt), .ref (g 5), .ref (g 6), .ref (g 11)])), (g 1, .inr (0, [.ref (g 2), .ref (g 3), .int (nI F), .int (nI (sm pp 1 F))])), (g 2, .inl (cI, 13, .inl (fun j => nI (pp j)))), (g 11, .inr (4, [.ref (g 12), .int (nI (sm (it wi F (cp pp aa 13) i) 1 F))])), (g 12, .inl (cI, 13, .inl (fun j => nI ((it wi F (cp pp aa 13) i) j))))] H → va_D A [(g 0, .inr (5, [.ref (g 1), .ref (g 4), .int (nI nt), .ref (g 5), .ref (g 6), .ref (g 11)])), (g 1, .inr (0, [.ref (g 2), .ref (g 3), .int (nI F), .int (nI (sm pp 1 F))])), (g 2, .inl (cI, 13, .inl (fun j => nI (pp j)))), (g 11, .inr (4, [.ref (g 12), .int (nI (sm (it wi F (cp pp aa 13) i) 1 F))])), (g 12, .inl (cI, 13, .inl (fun j => nI ((it wi F (cp pp aa 13) i) j))))] → va_S A s.heap H locs → lv_has ls 5 [(0, .ref (g 0)), (1, .int (nI wi)), (2, .int (nI fl)), (3, .int (nI sc)), (4, .int (nI i))] → W p l e R s m args below meth c H locs cells slots Q (F0 m 34 ls []) := by
  obtain ⟨hx, hb, hml, hown, hts⟩ := id hF
  have hK := hC.1
  intro j
  induction j with
  | zero => intro i hj; omega
  | succ j ih =>
    intro i hj hi H locs ls hP hD hS hl
    have hs2 : sm (cp pp aa 13) 1 F ≤ 200 := by rw [cp_sm hF12]; exact hE
    have hle := it_sm_le wi F (cp pp aa 13) i
    refine lv_iload hx hb d_T_there_34 (lv_at hl 4 rfl) ?_
    refine lv_iload_n hx hb d_T_there_36 rfl (lv_at hl 3 rfl) ?_
    refine nx_icmp_ge (tgt := 71) hx hb d_T_there_37 (by decide) (by omega) (by omega) (fun h1 => ?_) (fun h1 => ?_)
    · have hie : i = min sc n := by omega
      subst hie
      exact kend H locs ls hP hD hS hl
    · refine lv_aload_n hx hb d_T_there_40 rfl (lv_at hl 0 rfl) ?_
      refine va_get (D := (dC, dI)) (ci := 5) (v := .ref (g 11)) (C := R_T) (T := F_T) (N := 6) hx hb hts i_T hown hK hP 0 rfl rfl 5 (by decide) (hts _ k_125) (fun _ h9 => h9) rfl d_T_there_41 ?_
      refine va_get (D := (dC, dI)) (ci := 4) (v := .int (nI (sm (it wi F (cp pp aa 13) i) 1 F))) (C := R_A) (T := F_A) (N := 2) hx hb hts i_A hown hK hP 3 rfl rfl 1 (by decide) (hts _ k_114) (fun _ h9 => h9) rfl d_T_there_44 ?_
      refine nx_if_le (tgt := 71) hx hb d_T_there_47 (by decide) (by omega) (fun h2 => ?_) (fun h2 => ?_)
      · have hin : i = n := Classical.byContradiction fun z => ho.2 i (by omega) h2
        have hie : i = min sc n := by omega
        clear hin
        subst hie
        exact kend H locs ls hP hD hS hl
      · have hlt : i < n := isOut_lt ho (by omega) h2
        refine lv_aload_n hx hb d_T_there_50 rfl (lv_at hl 0 rfl) ?_
        refine va_get (D := (dC, dI)) (ci := 5) (v := .ref (g 11)) (C := R_T) (T := F_T) (N := 6) hx hb hts i_T hown hK hP 0 rfl rfl 5 (by decide) (hts _ k_125) (fun _ h9 => h9) rfl d_T_there_51 ?_
        refine lv_aload_n hx hb d_T_there_54 rfl (lv_at hl 0 rfl) ?_
        refine va_get (D := (dC, dI)) (ci := 5) (v := .ref (g 1)) (C := R_T) (T := F_T) (N := 6) hx hb hts i_T hown hK hP 0 rfl rfl 0 (by decide) (hts _ k_120) (fun _ h9 => h9) rfl d_T_there_55 ?_
        refine va_get (D := (dC, dI)) (ci := 0) (v := .int (nI F)) (C := R_B) (T := F_B) (N := 4) hx hb hts i_B hown hK hP 1 rfl rfl 2 (by decide) (hts _ k_37) (fun _ h9 => h9) rfl d_T_there_58 ?_
        refine lv_iload_n hx hb d_T_there_61 rfl (lv_at hl 1 rfl) ?_
        have hPc := hP.sub (ws' := [(g 11, .inr (4, [.ref (g 12), .int (nI (sm (it wi F (cp pp aa 13) i) 1 F))])), (g 12, .inl (cI, 13, .inl (fun j => nI ((it wi F (cp pp aa 13) i) j))))]) [3, 4] rfl
        have hDc := hD.sub (ws' := [(g 11, .inr (4, [.ref (g 12), .int (nI (sm (it wi F (cp pp aa 13) i) 1 F))])), (g 12, .inl (cI, 13, .inl (fun j => nI ((it wi F (cp pp aa 13) i) j))))]) [3, 4] (by decide) rfl
        have hFc := va_free (wc := [(g 11, .inr (4, [.ref (g 12), .int (nI (sm (it wi F (cp pp aa 13) i) 1 F))])), (g 12, .inl (cI, 13, .inl (fun j => nI ((it wi F (cp pp aa 13) i) j))))]) hD hS hA [3, 4] rfl
        refine va_callv (va_runV (As := [.int (nI F), .int (nI wi)]) (rest := []) ⟨hx, hb, hml, hown, hts⟩ (c_A_oneSecond l _ g F (it wi F (cp pp aa 13) i) wi hF12 hwi (fun j h1 h2 => Nat.lt_of_le_of_lt (it_le h1 h2) (by omega))) (cwV 2 hts (gw_V k_450 k_447 k_448 k_449 k_5) rfl rfl rfl (by decide +kernel) ⟨Nat.le_trans (Nat.le_of_ble_eq_true rfl) hfr, Nat.le_trans (Nat.le_of_ble_eq_true rfl) hlo⟩) ⟨wr_blind, va_recv hK hP (ci := 4) (q0 := 3) rfl rfl, wr_at hC hPc hDc⟩ rfl rfl hl.1 rfl (lv_room (Nat.le_of_ble_eq_true rfl)) d_T_there_62 ⟨hce, hsl⟩) hS (fun q _ h => hFc q h) hFc (fun u t H1 locs ht hvm hw hB hz1 hk1 hS => ?_)
        obtain ⟨hP1, hD1⟩ := hB
        rw [ht] at hP1
        obtain ⟨hP, hD⟩ := va_join (wr := [(g 0, .inr (5, [.ref (g 1), .ref (g 4), .int (nI nt), .ref (g 5), .ref (g 6), .ref (g 11)])), (g 1, .inr (0, [.ref (g 2), .ref (g 3), .int (nI F), .int (nI (sm pp 1 F))])), (g 2, .inl (cI, 13, .inl (fun j => nI (pp j))))]) (w1 := [(g 11, .inr (4, [.ref (g 12), .int (nI (sm (it wi F (cp pp aa 13) (i + 1)) 1 F))])), (g 12, .inl (cI, 13, .inl (fun j => nI ((it wi F (cp pp aa 13) (i + 1)) j))))]) hP hD [3, 4] [0, 1, 2] rfl rfl (by decide) (by decide) hk1 hFc hP1 hD1
        generalize H1 = H at hP hS ⊢
        have hP := hP.sub (ws' := [(g 0, .inr (5, [.ref (g 1), .ref (g 4), .int (nI nt), .ref (g 5), .ref (g 6), .ref (g 11)])), (g 1, .inr (0, [.ref (g 2), .ref (g 3), .int (nI F), .int (nI (sm pp 1 F))])), (g 2, .inl (cI, 13, .inl (fun j => nI (pp j)))), (g 11, .inr (4, [.ref (g 12), .int (nI (sm (it wi F (cp pp aa 13) (i + 1)) 1 F))])), (g 12, .inl (cI, 13, .inl (fun j => nI ((it wi F (cp pp aa 13) (i + 1)) j))))]) [0, 1, 2, 3, 4] rfl
        have hD := hD.sub (ws' := [(g 0, .inr (5, [.ref (g 1), .ref (g 4), .int (nI nt), .ref (g 5), .ref (g 6), .ref (g 11)])), (g 1, .inr (0, [.ref (g 2), .ref (g 3), .int (nI F), .int (nI (sm pp 1 F))])), (g 2, .inl (cI, 13, .inl (fun j => nI (pp j)))), (g 11, .inr (4, [.ref (g 12), .int (nI (sm (it wi F (cp pp aa 13) (i + 1)) 1 F))])), (g 12, .inl (cI, 13, .inl (fun j => nI ((it wi F (cp pp aa 13) (i + 1)) j))))]) [0, 1, 2, 3, 4] (by decide) rfl
        refine nx_inc (lv' := [(4, .int (nI (i + 1))), (0, .ref (g 0)), (1, .int (nI wi)), (2, .int (nI fl)), (3, .int (nI sc))]) hx hb d_T_there_65 hl (k := 4) rfl (by decide) rfl (fun ls hl => ?_)
        refine lv_goto (tgt := 34) hx hb d_T_there_68 (by decide) ?_
        exact ih (i + 1) (by omega) (by omega) H locs ls hP hD hS (lv_sub hl [1, 2, 3, 4, 0] rfl)
end
set_option maxHeartbeats 4000000 in
set_option maxRecDepth 100000 in
theorem c_T_there (l : Launch) {dC : Nat → ClassId} {dI : Nat → Nat → Nat} {cI cL cT : ClassId} {sa : Nat → Nat} (sz : Nat) (g : Nat → Nat) (F nt ins : Nat) (pp aa : Nat → Nat) (wi n : Nat) (fl sc : Nat) (hw1 : 1 ≤ wi) (hF12 : F ≤ 12) (hwi : wi ≤ 50) (hE : sm pp 1 F ≤ 200) (hn : n ≤ 212) (ho : isOut wi F (cp pp aa 13) n) (hsc : sc ≤ 1000) (hf1 : 1 ≤ fl) (hfF : fl ≤ F) : Met l y_T_there (Cond.code y_T_there b_T_there 5 (some .int) :: gw) ({ frames := 3, cells := 0, slots := 0, locals := 360 } : Room) (wr dC dI cI cL cT sa [.ref (g 0), .int (nI wi), .int (nI fl), .int (nI sc)] [(g 0, .inr (5, [.ref (g 1), .ref (g 4), .int (nI nt), .ref (g 5), .ref (g 6), .ref (g 11)])), (g 1, .inr (0, [.ref (g 2), .ref (g 3), .int (nI F), .int (nI (sm pp 1 F))])), (g 2, .inl (cI, 13, .inl (fun j => nI (pp j)))), (g 11, .inr (4, [.ref (g 12), .int (nI ins)])), (g 12, .inl (cI, 13, .inl (fun j => nI (aa j))))] sz) (va_Qi (fun r (_ : Unit) => r = nI (it wi F (cp pp aa 13) sc fl)) (wB dC dI [(g 0, .inr (5, [.ref (g 1), .ref (g 4), .int (nI nt), .ref (g 5), .ref (g 6), .ref (g 11)])), (g 1, .inr (0, [.ref (g 2), .ref (g 3), .int (nI F), .int (nI (sm pp 1 F))])), (g 2, .inl (cI, 13, .inl (fun j => nI (pp j)))), (g 11, .inr (4, [.ref (g 12), .int (nI ins)])), (g 12, .inl (cI, 13, .inl (fun j => nI (aa j))))] [(g 0, .inr (5, [.ref (g 1), .ref (g 4), .int (nI nt), .ref (g 5), .ref (g 6), .ref (g 11)])), (g 1, .inr (0, [.ref (g 2), .ref (g 3), .int (nI F), .int (nI (sm pp 1 F))])), (g 2, .inl (cI, 13, .inl (fun j => nI (pp j)))), (g 11, .inr (4, [.ref (g 12), .int (nI (sm (it wi F (cp pp aa 13) ((min sc n))) 1 F))])), (g 12, .inl (cI, 13, .inl (fun j => nI ((it wi F (cp pp aa 13) ((min sc n))) j))))] sz) (va_A [(g 0, .inr (5, [.ref (g 1), .ref (g 4), .int (nI nt), .ref (g 5), .ref (g 6), .ref (g 11)])), (g 1, .inr (0, [.ref (g 2), .ref (g 3), .int (nI F), .int (nI (sm pp 1 F))])), (g 2, .inl (cI, 13, .inl (fun j => nI (pp j)))), (g 11, .inr (4, [.ref (g 12), .int (nI ins)])), (g 12, .inl (cI, 13, .inl (fun j => nI (aa j))))] sz)) 0 0 (va_A [(g 0, .inr (5, [.ref (g 1), .ref (g 4), .int (nI nt), .ref (g 5), .ref (g 6), .ref (g 11)])), (g 1, .inr (0, [.ref (g 2), .ref (g 3), .int (nI F), .int (nI (sm pp 1 F))])), (g 2, .inl (cI, 13, .inl (fun j => nI (pp j)))), (g 11, .inr (4, [.ref (g 12), .int (nI ins)])), (g 12, .inl (cI, 13, .inl (fun j => nI (aa j))))] sz) := by
  refine Met.ofW (cc := b_T_there) (maxL := 5) (ret := (some .int)) (by decide) rfl ?_
  intro p e s m args below meth c s₁ B hml hv
  obtain ⟨rfl, hsz, hC, hP, hD0⟩ := hv
  have hx := B.exec
  have hb := B.bytes
  have hr := B.returns
  have hts : ∀ w ∈ gw, w.before ([.ref (g 0), .int (nI wi), .int (nI fl), .int (nI sc)] : List Value).toArray s = true := fun w hw => atoms_spec (ws := Cond.code y_T_there b_T_there 5 (some .int) :: gw) B.pre w (List.mem_cons_of_mem _ hw)
  have hown : s.vm.findClass R_T = some m.cls := findClass_of_methodNamed B.named
  have hlocks := B.notSynchronized
  have hK := hC.1
  have hfr : 3 ≤ (headSpec (Cond.code y_T_there b_T_there 5 (some .int) :: gw) ({ frames := 3, cells := 0, slots := 0, locals := 360 } : Room)).room.frames := Nat.le_refl _
  have hlo : 360 ≤ (headSpec (Cond.code y_T_there b_T_there 5 (some .int) :: gw) ({ frames := 3, cells := 0, slots := 0, locals := 360 } : Room)).room.locals := Nat.le_refl _
  have hce : 0 ≤ (headSpec (Cond.code y_T_there b_T_there 5 (some .int) :: gw) ({ frames := 3, cells := 0, slots := 0, locals := 360 } : Room)).room.cells := Nat.zero_le _
  have hsl : 0 ≤ (headSpec (Cond.code y_T_there b_T_there 5 (some .int) :: gw) ({ frames := 3, cells := 0, slots := 0, locals := 360 } : Room)).room.slots := Nat.zero_le _
  subst hsz
  have hD := hD0.self (sz := s.heap.size)
  unfold wB
  generalize hAe : va_A [(g 0, .inr (5, [.ref (g 1), .ref (g 4), .int (nI nt), .ref (g 5), .ref (g 6), .ref (g 11)])), (g 1, .inr (0, [.ref (g 2), .ref (g 3), .int (nI F), .int (nI (sm pp 1 F))])), (g 2, .inl (cI, 13, .inl (fun j => nI (pp j)))), (g 11, .inr (4, [.ref (g 12), .int (nI ins)])), (g 12, .inl (cI, 13, .inl (fun j => nI (aa j))))] s.heap.size = A at hD ⊢
  have hA : ∀ q : Nat, s.heap.size ≤ q → A q := fun q h => by rw [← hAe]; exact Or.inr h
  have hS : va_S A s.heap s.heap [] := va_S.rf
  have hl := lv_entry ([.ref (g 0), .int (nI wi), .int (nI fl), .int (nI sc)]) (n := 5) (Nat.le_of_ble_eq_true rfl)
  rw [lg_entry_eq]
  generalize (lg_sl ([.ref (g 0), .int (nI wi), .int (nI fl), .int (nI sc)]) ++ List.replicate (5 - (lg_sl ([.ref (g 0), .int (nI wi), .int (nI fl), .int (nI sc)])).length) Slot.unset).toArray = ls at hl ⊢
  have hl : lv_has ls 5 [(0, .ref (g 0)), (1, .int (nI wi)), (2, .int (nI fl)), (3, .int (nI sc))] := hl
  have hs2 : sm (cp pp aa 13) 1 F ≤ 200 := by rw [cp_sm hF12]; exact hE
  refine lv_iload_n hx hb d_T_there_0 rfl (lv_at hl 1 rfl) ?_
  refine lv_iconst (v := nI 1) hx hb d_T_there_1 (by decide) ?_
  refine lv_bipush (v := nI 50) hx hb d_T_there_2 (by decide) ?_
  refine ro_callv (va_runS (As := [.int (nI wi), .int (nI 1), .int (nI 50)]) (rest := []) ⟨hx, hb, hml, hown, hts⟩ (c_T_requireWithin l (nI wi) (nI 1) (nI 50) 1 50 (nI_toInt (by decide)) (nI_toInt (by decide)) (by rw [nI_toInt (by omega)]; omega)) (cwS 3 hts (gw_S k_150 k_148 k_149 k_1) rfl rfl rfl (by decide +kernel) ⟨Nat.le_trans (Nat.le_of_ble_eq_true rfl) hfr, Nat.le_trans (Nat.le_of_ble_eq_true rfl) hlo⟩) ⟨pr_blind, pr_at hC (fun k q h => by simp at h)⟩ rfl rfl hl.1 rfl (lv_room (Nat.le_of_ble_eq_true rfl)) d_T_there_4 ⟨hce, hsl⟩) ?_
  refine lv_aload_n hx hb d_T_there_7 rfl (lv_at hl 0 rfl) ?_
  refine lv_iload_n hx hb d_T_there_8 rfl (lv_at hl 2 rfl) ?_
  refine ro_callv (va_runV (As := [.int (nI fl)]) (rest := []) ⟨hx, hb, hml, hown, hts⟩ (c_T_requireFloor l g F nt (sm pp 1 F) (nI fl) hF12 (okFl_N hf1 hfF hF12)) (cwV 1 hts (gw_V k_252 k_249 k_251 ks_T_requireFloor k_1) rfl rfl rfl (by decide +kernel) ⟨Nat.le_trans (Nat.le_of_ble_eq_true rfl) hfr, Nat.le_trans (Nat.le_of_ble_eq_true rfl) hlo⟩) ⟨pr_blind, va_recv hK hP (ci := 5) (q0 := 0) rfl rfl, pr_at hC (hP.sub (ws' := [(g 0, .inr (5, [.ref (g 1), .ref (g 4), .int (nI nt), .ref (g 5), .ref (g 6), .ref (g 11)])), (g 1, .inr (0, [.ref (g 2), .ref (g 3), .int (nI F), .int (nI (sm pp 1 F))]))]) [0, 1] rfl)⟩ rfl rfl hl.1 rfl (lv_room (Nat.le_of_ble_eq_true rfl)) d_T_there_9 ⟨hce, hsl⟩) ?_
  refine lv_iload_n hx hb d_T_there_12 rfl (lv_at hl 3 rfl) ?_
  refine lv_iconst (v := nI 0) hx hb d_T_there_13 (by decide) ?_
  refine lv_sipush (v := nI 1000) hx hb d_T_there_14 (by decide) ?_
  refine ro_callv (va_runS (As := [.int (nI sc), .int (nI 0), .int (nI 1000)]) (rest := []) ⟨hx, hb, hml, hown, hts⟩ (c_T_requireWithin l (nI sc) (nI 0) (nI 1000) 0 1000 (nI_toInt (by decide)) (nI_toInt (by decide)) (by rw [nI_toInt (by omega)]; omega)) (cwS 3 hts (gw_S k_150 k_148 k_149 k_1) rfl rfl rfl (by decide +kernel) ⟨Nat.le_trans (Nat.le_of_ble_eq_true rfl) hfr, Nat.le_trans (Nat.le_of_ble_eq_true rfl) hlo⟩) ⟨pr_blind, pr_at hC (fun k q h => by simp at h)⟩ rfl rfl hl.1 rfl (lv_room (Nat.le_of_ble_eq_true rfl)) d_T_there_17 ⟨hce, hsl⟩) ?_
  refine lv_aload_n hx hb d_T_there_20 rfl (lv_at hl 0 rfl) ?_
  refine va_get (D := (dC, dI)) (ci := 5) (v := .ref (g 11)) (C := R_T) (T := F_T) (N := 6) hx hb hts i_T hown hK hP 0 rfl rfl 5 (by decide) (hts _ k_125) (fun _ h9 => h9) rfl d_T_there_21 ?_
  refine lv_aload_n hx hb d_T_there_24 rfl (lv_at hl 0 rfl) ?_
  refine va_get (D := (dC, dI)) (ci := 5) (v := .ref (g 1)) (C := R_T) (T := F_T) (N := 6) hx hb hts i_T hown hK hP 0 rfl rfl 0 (by decide) (hts _ k_120) (fun _ h9 => h9) rfl d_T_there_25 ?_
  have hPc := hP.sub (ws' := [(g 11, .inr (4, [.ref (g 12), .int (nI ins)])), (g 12, .inl (cI, 13, .inl (fun j => nI (aa j)))), (g 1, .inr (0, [.ref (g 2), .ref (g 3), .int (nI F), .int (nI (sm pp 1 F))])), (g 2, .inl (cI, 13, .inl (fun j => nI (pp j))))]) [3, 4, 1, 2] rfl
  have hDc := hD.sub (ws' := [(g 11, .inr (4, [.ref (g 12), .int (nI ins)])), (g 12, .inl (cI, 13, .inl (fun j => nI (aa j)))), (g 1, .inr (0, [.ref (g 2), .ref (g 3), .int (nI F), .int (nI (sm pp 1 F))])), (g 2, .inl (cI, 13, .inl (fun j => nI (pp j))))]) [3, 4, 1, 2] (by decide) rfl
  have hFc := va_free (wc := [(g 11, .inr (4, [.ref (g 12), .int (nI ins)])), (g 12, .inl (cI, 13, .inl (fun j => nI (aa j)))), (g 1, .inr (0, [.ref (g 2), .ref (g 3), .int (nI F), .int (nI (sm pp 1 F))])), (g 2, .inl (cI, 13, .inl (fun j => nI (pp j))))]) hD hS hA [3, 4, 1, 2] rfl
  refine va_callv (va_runV (As := [.ref (g 1)]) (rest := []) ⟨hx, hb, hml, hown, hts⟩ (c_A_begin l _ g F ins pp aa hF12) (cwV 1 hts (gw_V k_445 k_442 k_443 k_444 k_5) rfl rfl rfl (by decide +kernel) ⟨Nat.le_trans (Nat.le_of_ble_eq_true rfl) hfr, Nat.le_trans (Nat.le_of_ble_eq_true rfl) hlo⟩) ⟨wr_blind, va_recv hK hP (ci := 4) (q0 := 3) rfl rfl, wr_at hC hPc hDc⟩ rfl rfl hl.1 rfl (lv_room (Nat.le_of_ble_eq_true rfl)) d_T_there_28 ⟨hce, hsl⟩) hS (fun q _ h => hFc q h) hFc (fun u t H1 locs ht hvm hw hB hz1 hk1 hS => ?_)
  obtain ⟨hP1, hD1⟩ := hB
  rw [ht] at hP1
  obtain ⟨hP, hD⟩ := va_join (wr := [(g 0, .inr (5, [.ref (g 1), .ref (g 4), .int (nI nt), .ref (g 5), .ref (g 6), .ref (g 11)]))]) (w1 := [(g 11, .inr (4, [.ref (g 12), .int (nI (sm (cp pp aa 13) 1 F))])), (g 12, .inl (cI, 13, .inl (fun j => nI ((cp pp aa 13) j)))), (g 1, .inr (0, [.ref (g 2), .ref (g 3), .int (nI F), .int (nI (sm pp 1 F))])), (g 2, .inl (cI, 13, .inl (fun j => nI (pp j))))]) hP hD [3, 4, 1, 2] [0] rfl rfl (by decide) (by decide) hk1 hFc hP1 hD1
  generalize H1 = H at hP hS ⊢
  have hP := hP.sub (ws' := [(g 0, .inr (5, [.ref (g 1), .ref (g 4), .int (nI nt), .ref (g 5), .ref (g 6), .ref (g 11)])), (g 1, .inr (0, [.ref (g 2), .ref (g 3), .int (nI F), .int (nI (sm pp 1 F))])), (g 2, .inl (cI, 13, .inl (fun j => nI (pp j)))), (g 11, .inr (4, [.ref (g 12), .int (nI (sm (cp pp aa 13) 1 F))])), (g 12, .inl (cI, 13, .inl (fun j => nI ((cp pp aa 13) j))))]) [0, 3, 4, 1, 2] rfl
  have hD := hD.sub (ws' := [(g 0, .inr (5, [.ref (g 1), .ref (g 4), .int (nI nt), .ref (g 5), .ref (g 6), .ref (g 11)])), (g 1, .inr (0, [.ref (g 2), .ref (g 3), .int (nI F), .int (nI (sm pp 1 F))])), (g 2, .inl (cI, 13, .inl (fun j => nI (pp j)))), (g 11, .inr (4, [.ref (g 12), .int (nI (sm (cp pp aa 13) 1 F))])), (g 12, .inl (cI, 13, .inl (fun j => nI ((cp pp aa 13) j))))]) [0, 3, 4, 1, 2] (by decide) rfl
  refine lv_iconst (v := nI 0) hx hb d_T_there_31 (by decide) ?_
  refine lv_istore (lv' := [(4, .int (nI 0)), (0, .ref (g 0)), (1, .int (nI wi)), (2, .int (nI fl)), (3, .int (nI sc))]) hx hb d_T_there_32 hl (by decide) rfl (fun ls hl => ?_)
  refine l_T_there ⟨hx, hb, hml, hown, hts⟩ hC hF12 hwi hE hn ho hsc hfr hlo hce hsl hA (fun H locs ls hP hD hS hl => ?_) (min sc n + 1) 0 (by omega) (by omega) H locs ls hP hD hS (lv_sub hl [1, 2, 3, 4, 0] rfl)
  refine lv_aload_n hx hb d_T_there_71 rfl (lv_at hl 0 rfl) ?_
  refine va_get (D := (dC, dI)) (ci := 5) (v := .ref (g 11)) (C := R_T) (T := F_T) (N := 6) hx hb hts i_T hown hK hP 0 rfl rfl 5 (by decide) (hts _ k_125) (fun _ h9 => h9) rfl d_T_there_72 ?_
  refine va_get (D := (dC, dI)) (ci := 4) (v := .ref (g 12)) (C := R_A) (T := F_A) (N := 2) hx hb hts i_A hown hK hP 3 rfl rfl 0 (by decide) (hts _ k_112) (fun _ h9 => h9) rfl d_T_there_75 ?_
  refine lv_iload_n hx hb d_T_there_78 rfl (lv_at hl 2 rfl) ?_
  refine nx_iald hx hb hK hP 4 0 rfl rfl (k := fl) (v := nI ((it wi F (cp pp aa 13) ((min sc n))) fl)) (by omega) (by decide) rfl d_T_there_79 ?_
  exact W.iret hx hb hr (fun t ht hW => ⟨⟨_, (), rfl, by rw [it_stop ho hf1 hfF], by rw [ht]; exact hP, hD⟩, hS.F ht⟩) hS.2.2 d_T_there_80
section
variable {p : Program} {l : Launch} {e : Env} {R : Room} {s : State} {m : MethodId} {args : Array Value} {below : List Frame} {meth : Method} {c : Code} {cells slots : Nat} {Q : State → Prop} {A : Nat → Prop}
variable {dC : Nat → ClassId} {dI : Nat → Nat → Nat} {cI cL cT : ClassId} {sa : Nat → Nat}
set_option maxHeartbeats 4000000 in
set_option maxRecDepth 100000 in
theorem l_T_crowd (hF : CallFix p m c b_T_crowd 5 s args gw R_T) (hC : CT dC dI cI cL cT sa s) {g : Nat → Nat} {F nt : Nat} {pp aa : Nat → Nat} {wi n : Nat} {fl : Nat} (hF12 : F ≤ 12) (hwi : wi ≤ 50) (hE : sm pp 1 F ≤ 200) (hn : n ≤ 212) (ho : isOut wi F (cp pp aa 13) n) (hf1 : 1 ≤ fl) (hfF : fl ≤ F) (hfr : 3 ≤ R.frames) (hlo : 360 ≤ R.locals) (hce : cells ≤ R.cells) (hsl : slots ≤ R.slots) (hA : ∀ q : Nat, s.heap.size ≤ q → A q) (kend : ∀ (H : Heap) (locs : List Loc) (ls : Array Slot), va_P (dC, dI) vwCl [(g 0, .inr (5, [.ref (g 1), .ref (g 4), .int (nI nt), .ref (g 5), .ref (g 6), .ref (g 11)])), (g 1, .inr (0, [.ref (g 2), .ref (g 3), .int (nI F), .int (nI (sm pp 1 F))])), (g 2, .inl (cI, 13, .inl (fun j => nI (pp j)))), (g 11, .inr (4, [.ref (g 12), .int (nI (sm (it wi F (cp pp aa 13) n) 1 F))])), (g 12, .inl (cI, 13, .inl (fun j => nI ((it wi F (cp pp aa 13) n) j))))] H → va_D A [(g 0, .inr (5, [.ref (g 1), .ref (g 4), .int (nI nt), .ref (g 5), .ref (g 6), .ref (g 11)])), (g 1, .inr (0, [.ref (g 2), .ref (g 3), .int (nI F), .int (nI (sm pp 1 F))])), (g 2, .inl (cI, 13, .inl (fun j => nI (pp j)))), (g 11, .inr (4, [.ref (g 12), .int (nI (sm (it wi F (cp pp aa 13) n) 1 F))])), (g 12, .inl (cI, 13, .inl (fun j => nI ((it wi F (cp pp aa 13) n) j))))] → va_S A s.heap H locs → lv_has ls 5 [(0, .ref (g 0)), (1, .int (nI wi)), (2, .int (nI fl)), (3, .int (nI (mxK wi F (cp pp aa 13) fl n))), (4, .int (nI n))] → W p l e R s m args below meth c H locs cells slots Q (F0 m 89 ls [])) : ∀ j i : Nat, n - i < j → i ≤ n → ∀ (H : Heap) (locs : List Loc) (ls : Array Slot), va_P (dC, dI) vwCl [(g 0, .inr (5, [.ref (g 1), .ref (g 4), .int (nI nt), .ref (g 5), .ref (g 6), .ref (g 11)])), (g 1, .inr (0, [.ref (g 2), .ref (g 3), .int (nI F), .int (nI (sm pp 1 F))])), (g 2, .inl (cI, 13, .inl (fun j => nI (pp j)))), (g 11, .inr (4, [.ref (g 12), .int (nI (sm (it wi F (cp pp aa 13) i) 1 F))])), (g 12, .inl (cI, 13, .inl (fun j => nI ((it wi F (cp pp aa 13) i) j))))] H → va_D A [(g 0, .inr (5, [.ref (g 1), .ref (g 4), .int (nI nt), .ref (g 5), .ref (g 6), .ref (g 11)])), (g 1, .inr (0, [.ref (g 2), .ref (g 3), .int (nI F), .int (nI (sm pp 1 F))])), (g 2, .inl (cI, 13, .inl (fun j => nI (pp j)))), (g 11, .inr (4, [.ref (g 12), .int (nI (sm (it wi F (cp pp aa 13) i) 1 F))])), (g 12, .inl (cI, 13, .inl (fun j => nI ((it wi F (cp pp aa 13) i) j))))] → va_S A s.heap H locs → lv_has ls 5 [(0, .ref (g 0)), (1, .int (nI wi)), (2, .int (nI fl)), (3, .int (nI (mxK wi F (cp pp aa 13) fl i))), (4, .int (nI i))] → W p l e R s m args below meth c H locs cells slots Q (F0 m 36 ls []) := by
  obtain ⟨hx, hb, hml, hown, hts⟩ := id hF
  have hK := hC.1
  intro j
  induction j with
  | zero => intro i hj; omega
  | succ j ih =>
    intro i hj hi H locs ls hP hD hS hl
    have hs2 : sm (cp pp aa 13) 1 F ≤ 200 := by rw [cp_sm hF12]; exact hE
    have hle := it_sm_le wi F (cp pp aa 13) i
    have hmx := mx_le (w := wi) (a := cp pp aa 13) hf1 hfF i
    have hit := it_le (w := wi) (a := cp pp aa 13) (i := i + 1) hf1 hfF
    refine lv_iload hx hb d_T_crowd_36 (lv_at hl 4 rfl) ?_
    refine lv_sipush (v := nI 1000) hx hb d_T_crowd_38 (by decide) ?_
    refine nx_icmp_ge (tgt := 89) hx hb d_T_crowd_41 (by decide) (by omega) (by omega) (fun h1 => ?_) (fun h1 => ?_)
    · exact absurd h1 (by omega)
    · refine lv_aload_n hx hb d_T_crowd_44 rfl (lv_at hl 0 rfl) ?_
      refine va_get (D := (dC, dI)) (ci := 5) (v := .ref (g 11)) (C := R_T) (T := F_T) (N := 6) hx hb hts i_T hown hK hP 0 rfl rfl 5 (by decide) (hts _ k_125) (fun _ h9 => h9) rfl d_T_crowd_45 ?_
      refine va_get (D := (dC, dI)) (ci := 4) (v := .int (nI (sm (it wi F (cp pp aa 13) i) 1 F))) (C := R_A) (T := F_A) (N := 2) hx hb hts i_A hown hK hP 3 rfl rfl 1 (by decide) (hts _ k_114) (fun _ h9 => h9) rfl d_T_crowd_48 ?_
      refine nx_if_le (tgt := 89) hx hb d_T_crowd_51 (by decide) (by omega) (fun h2 => ?_) (fun h2 => ?_)
      · have hie : i = n := Classical.byContradiction fun z => ho.2 i (by omega) h2
        subst hie
        exact kend H locs ls hP hD hS hl
      · have hlt : i < n := isOut_lt ho hi h2
        refine lv_aload_n hx hb d_T_crowd_54 rfl (lv_at hl 0 rfl) ?_
        refine va_get (D := (dC, dI)) (ci := 5) (v := .ref (g 11)) (C := R_T) (T := F_T) (N := 6) hx hb hts i_T hown hK hP 0 rfl rfl 5 (by decide) (hts _ k_125) (fun _ h9 => h9) rfl d_T_crowd_55 ?_
        refine lv_aload_n hx hb d_T_crowd_58 rfl (lv_at hl 0 rfl) ?_
        refine va_get (D := (dC, dI)) (ci := 5) (v := .ref (g 1)) (C := R_T) (T := F_T) (N := 6) hx hb hts i_T hown hK hP 0 rfl rfl 0 (by decide) (hts _ k_120) (fun _ h9 => h9) rfl d_T_crowd_59 ?_
        refine va_get (D := (dC, dI)) (ci := 0) (v := .int (nI F)) (C := R_B) (T := F_B) (N := 4) hx hb hts i_B hown hK hP 1 rfl rfl 2 (by decide) (hts _ k_37) (fun _ h9 => h9) rfl d_T_crowd_62 ?_
        refine lv_iload_n hx hb d_T_crowd_65 rfl (lv_at hl 1 rfl) ?_
        have hPc := hP.sub (ws' := [(g 11, .inr (4, [.ref (g 12), .int (nI (sm (it wi F (cp pp aa 13) i) 1 F))])), (g 12, .inl (cI, 13, .inl (fun j => nI ((it wi F (cp pp aa 13) i) j))))]) [3, 4] rfl
        have hDc := hD.sub (ws' := [(g 11, .inr (4, [.ref (g 12), .int (nI (sm (it wi F (cp pp aa 13) i) 1 F))])), (g 12, .inl (cI, 13, .inl (fun j => nI ((it wi F (cp pp aa 13) i) j))))]) [3, 4] (by decide) rfl
        have hFc := va_free (wc := [(g 11, .inr (4, [.ref (g 12), .int (nI (sm (it wi F (cp pp aa 13) i) 1 F))])), (g 12, .inl (cI, 13, .inl (fun j => nI ((it wi F (cp pp aa 13) i) j))))]) hD hS hA [3, 4] rfl
        refine va_callv (va_runV (As := [.int (nI F), .int (nI wi)]) (rest := []) ⟨hx, hb, hml, hown, hts⟩ (c_A_oneSecond l _ g F (it wi F (cp pp aa 13) i) wi hF12 hwi (fun j h1 h2 => Nat.lt_of_le_of_lt (it_le h1 h2) (by omega))) (cwV 2 hts (gw_V k_450 k_447 k_448 k_449 k_5) rfl rfl rfl (by decide +kernel) ⟨Nat.le_trans (Nat.le_of_ble_eq_true rfl) hfr, Nat.le_trans (Nat.le_of_ble_eq_true rfl) hlo⟩) ⟨wr_blind, va_recv hK hP (ci := 4) (q0 := 3) rfl rfl, wr_at hC hPc hDc⟩ rfl rfl hl.1 rfl (lv_room (Nat.le_of_ble_eq_true rfl)) d_T_crowd_66 ⟨hce, hsl⟩) hS (fun q _ h => hFc q h) hFc (fun u t H1 locs ht hvm hw hB hz1 hk1 hS => ?_)
        obtain ⟨hP1, hD1⟩ := hB
        rw [ht] at hP1
        obtain ⟨hP, hD⟩ := va_join (wr := [(g 0, .inr (5, [.ref (g 1), .ref (g 4), .int (nI nt), .ref (g 5), .ref (g 6), .ref (g 11)])), (g 1, .inr (0, [.ref (g 2), .ref (g 3), .int (nI F), .int (nI (sm pp 1 F))])), (g 2, .inl (cI, 13, .inl (fun j => nI (pp j))))]) (w1 := [(g 11, .inr (4, [.ref (g 12), .int (nI (sm (it wi F (cp pp aa 13) (i + 1)) 1 F))])), (g 12, .inl (cI, 13, .inl (fun j => nI ((it wi F (cp pp aa 13) (i + 1)) j))))]) hP hD [3, 4] [0, 1, 2] rfl rfl (by decide) (by decide) hk1 hFc hP1 hD1
        generalize H1 = H at hP hS ⊢
        have hP := hP.sub (ws' := [(g 0, .inr (5, [.ref (g 1), .ref (g 4), .int (nI nt), .ref (g 5), .ref (g 6), .ref (g 11)])), (g 1, .inr (0, [.ref (g 2), .ref (g 3), .int (nI F), .int (nI (sm pp 1 F))])), (g 2, .inl (cI, 13, .inl (fun j => nI (pp j)))), (g 11, .inr (4, [.ref (g 12), .int (nI (sm (it wi F (cp pp aa 13) (i + 1)) 1 F))])), (g 12, .inl (cI, 13, .inl (fun j => nI ((it wi F (cp pp aa 13) (i + 1)) j))))]) [0, 1, 2, 3, 4] rfl
        have hD := hD.sub (ws' := [(g 0, .inr (5, [.ref (g 1), .ref (g 4), .int (nI nt), .ref (g 5), .ref (g 6), .ref (g 11)])), (g 1, .inr (0, [.ref (g 2), .ref (g 3), .int (nI F), .int (nI (sm pp 1 F))])), (g 2, .inl (cI, 13, .inl (fun j => nI (pp j)))), (g 11, .inr (4, [.ref (g 12), .int (nI (sm (it wi F (cp pp aa 13) (i + 1)) 1 F))])), (g 12, .inl (cI, 13, .inl (fun j => nI ((it wi F (cp pp aa 13) (i + 1)) j))))]) [0, 1, 2, 3, 4] (by decide) rfl
        refine lv_iload_n hx hb d_T_crowd_69 rfl (lv_at hl 3 rfl) ?_
        refine lv_aload_n hx hb d_T_crowd_70 rfl (lv_at hl 0 rfl) ?_
        refine va_get (D := (dC, dI)) (ci := 5) (v := .ref (g 11)) (C := R_T) (T := F_T) (N := 6) hx hb hts i_T hown hK hP 0 rfl rfl 5 (by decide) (hts _ k_125) (fun _ h9 => h9) rfl d_T_crowd_71 ?_
        refine va_get (D := (dC, dI)) (ci := 4) (v := .ref (g 12)) (C := R_A) (T := F_A) (N := 2) hx hb hts i_A hown hK hP 3 rfl rfl 0 (by decide) (hts _ k_112) (fun _ h9 => h9) rfl d_T_crowd_74 ?_
        refine lv_iload_n hx hb d_T_crowd_77 rfl (lv_at hl 2 rfl) ?_
        refine nx_iald hx hb hK hP 4 0 rfl rfl (k := fl) (v := nI ((it wi F (cp pp aa 13) (i + 1)) fl)) (by omega) (by decide) rfl d_T_crowd_78 ?_
        refine va_mmax hx hb (hml.trans hl.1.symm) hown (hts _ k_468) (hts _ k_469) (hts _ k_14) (hts _ k_470) (Nat.le_trans (Nat.le_of_ble_eq_true rfl) hfr) (Nat.le_trans (Nat.le_of_ble_eq_true rfl) hlo) hce hsl d_T_crowd_79 ?_
        rw [mx_I (by omega) (by omega)]
        refine lv_istore_n (lv' := [(3, .int (nI (mxK wi F (cp pp aa 13) fl (i + 1)))), (0, .ref (g 0)), (1, .int (nI wi)), (2, .int (nI fl)), (4, .int (nI i))]) hx hb d_T_crowd_82 rfl hl (by decide) rfl (fun ls hl => ?_)
        refine nx_inc (lv' := [(4, .int (nI (i + 1))), (3, .int (nI (mxK wi F (cp pp aa 13) fl (i + 1)))), (0, .ref (g 0)), (1, .int (nI wi)), (2, .int (nI fl))]) hx hb d_T_crowd_83 hl (k := 4) rfl (by decide) rfl (fun ls hl => ?_)
        refine lv_goto (tgt := 36) hx hb d_T_crowd_86 (by decide) ?_
        exact ih (i + 1) (by omega) (by omega) H locs ls hP hD hS (lv_sub hl [2, 3, 4, 1, 0] rfl)
end
set_option maxHeartbeats 4000000 in
set_option maxRecDepth 100000 in
theorem c_T_crowd (l : Launch) {dC : Nat → ClassId} {dI : Nat → Nat → Nat} {cI cL cT : ClassId} {sa : Nat → Nat} (sz : Nat) (g : Nat → Nat) (F nt ins : Nat) (pp aa : Nat → Nat) (wi n : Nat) (fl : Nat) (hw1 : 1 ≤ wi) (hF12 : F ≤ 12) (hwi : wi ≤ 50) (hE : sm pp 1 F ≤ 200) (hn : n ≤ 212) (ho : isOut wi F (cp pp aa 13) n) (hf1 : 1 ≤ fl) (hfF : fl ≤ F) : Met l y_T_crowd (Cond.code y_T_crowd b_T_crowd 5 (some .int) :: gw) ({ frames := 3, cells := 0, slots := 0, locals := 360 } : Room) (wr dC dI cI cL cT sa [.ref (g 0), .int (nI wi), .int (nI fl)] [(g 0, .inr (5, [.ref (g 1), .ref (g 4), .int (nI nt), .ref (g 5), .ref (g 6), .ref (g 11)])), (g 1, .inr (0, [.ref (g 2), .ref (g 3), .int (nI F), .int (nI (sm pp 1 F))])), (g 2, .inl (cI, 13, .inl (fun j => nI (pp j)))), (g 11, .inr (4, [.ref (g 12), .int (nI ins)])), (g 12, .inl (cI, 13, .inl (fun j => nI (aa j))))] sz) (va_Qi (fun r (_ : Unit) => r = nI (mxK wi F (cp pp aa 13) fl n)) (wB dC dI [(g 0, .inr (5, [.ref (g 1), .ref (g 4), .int (nI nt), .ref (g 5), .ref (g 6), .ref (g 11)])), (g 1, .inr (0, [.ref (g 2), .ref (g 3), .int (nI F), .int (nI (sm pp 1 F))])), (g 2, .inl (cI, 13, .inl (fun j => nI (pp j)))), (g 11, .inr (4, [.ref (g 12), .int (nI ins)])), (g 12, .inl (cI, 13, .inl (fun j => nI (aa j))))] [(g 0, .inr (5, [.ref (g 1), .ref (g 4), .int (nI nt), .ref (g 5), .ref (g 6), .ref (g 11)])), (g 1, .inr (0, [.ref (g 2), .ref (g 3), .int (nI F), .int (nI (sm pp 1 F))])), (g 2, .inl (cI, 13, .inl (fun j => nI (pp j)))), (g 11, .inr (4, [.ref (g 12), .int (nI (sm (it wi F (cp pp aa 13) n) 1 F))])), (g 12, .inl (cI, 13, .inl (fun j => nI ((it wi F (cp pp aa 13) n) j))))] sz) (va_A [(g 0, .inr (5, [.ref (g 1), .ref (g 4), .int (nI nt), .ref (g 5), .ref (g 6), .ref (g 11)])), (g 1, .inr (0, [.ref (g 2), .ref (g 3), .int (nI F), .int (nI (sm pp 1 F))])), (g 2, .inl (cI, 13, .inl (fun j => nI (pp j)))), (g 11, .inr (4, [.ref (g 12), .int (nI ins)])), (g 12, .inl (cI, 13, .inl (fun j => nI (aa j))))] sz)) 0 0 (va_A [(g 0, .inr (5, [.ref (g 1), .ref (g 4), .int (nI nt), .ref (g 5), .ref (g 6), .ref (g 11)])), (g 1, .inr (0, [.ref (g 2), .ref (g 3), .int (nI F), .int (nI (sm pp 1 F))])), (g 2, .inl (cI, 13, .inl (fun j => nI (pp j)))), (g 11, .inr (4, [.ref (g 12), .int (nI ins)])), (g 12, .inl (cI, 13, .inl (fun j => nI (aa j))))] sz) := by
  refine Met.ofW (cc := b_T_crowd) (maxL := 5) (ret := (some .int)) (by decide) rfl ?_
  intro p e s m args below meth c s₁ B hml hv
  obtain ⟨rfl, hsz, hC, hP, hD0⟩ := hv
  have hx := B.exec
  have hb := B.bytes
  have hr := B.returns
  have hts : ∀ w ∈ gw, w.before ([.ref (g 0), .int (nI wi), .int (nI fl)] : List Value).toArray s = true := fun w hw => atoms_spec (ws := Cond.code y_T_crowd b_T_crowd 5 (some .int) :: gw) B.pre w (List.mem_cons_of_mem _ hw)
  have hown : s.vm.findClass R_T = some m.cls := findClass_of_methodNamed B.named
  have hlocks := B.notSynchronized
  have hK := hC.1
  have hfr : 3 ≤ (headSpec (Cond.code y_T_crowd b_T_crowd 5 (some .int) :: gw) ({ frames := 3, cells := 0, slots := 0, locals := 360 } : Room)).room.frames := Nat.le_refl _
  have hlo : 360 ≤ (headSpec (Cond.code y_T_crowd b_T_crowd 5 (some .int) :: gw) ({ frames := 3, cells := 0, slots := 0, locals := 360 } : Room)).room.locals := Nat.le_refl _
  have hce : 0 ≤ (headSpec (Cond.code y_T_crowd b_T_crowd 5 (some .int) :: gw) ({ frames := 3, cells := 0, slots := 0, locals := 360 } : Room)).room.cells := Nat.zero_le _
  have hsl : 0 ≤ (headSpec (Cond.code y_T_crowd b_T_crowd 5 (some .int) :: gw) ({ frames := 3, cells := 0, slots := 0, locals := 360 } : Room)).room.slots := Nat.zero_le _
  subst hsz
  have hD := hD0.self (sz := s.heap.size)
  unfold wB
  generalize hAe : va_A [(g 0, .inr (5, [.ref (g 1), .ref (g 4), .int (nI nt), .ref (g 5), .ref (g 6), .ref (g 11)])), (g 1, .inr (0, [.ref (g 2), .ref (g 3), .int (nI F), .int (nI (sm pp 1 F))])), (g 2, .inl (cI, 13, .inl (fun j => nI (pp j)))), (g 11, .inr (4, [.ref (g 12), .int (nI ins)])), (g 12, .inl (cI, 13, .inl (fun j => nI (aa j))))] s.heap.size = A at hD ⊢
  have hA : ∀ q : Nat, s.heap.size ≤ q → A q := fun q h => by rw [← hAe]; exact Or.inr h
  have hS : va_S A s.heap s.heap [] := va_S.rf
  have hl := lv_entry ([.ref (g 0), .int (nI wi), .int (nI fl)]) (n := 5) (Nat.le_of_ble_eq_true rfl)
  rw [lg_entry_eq]
  generalize (lg_sl ([.ref (g 0), .int (nI wi), .int (nI fl)]) ++ List.replicate (5 - (lg_sl ([.ref (g 0), .int (nI wi), .int (nI fl)])).length) Slot.unset).toArray = ls at hl ⊢
  have hl : lv_has ls 5 [(0, .ref (g 0)), (1, .int (nI wi)), (2, .int (nI fl))] := hl
  have hs2 : sm (cp pp aa 13) 1 F ≤ 200 := by rw [cp_sm hF12]; exact hE
  refine lv_iload_n hx hb d_T_crowd_0 rfl (lv_at hl 1 rfl) ?_
  refine lv_iconst (v := nI 1) hx hb d_T_crowd_1 (by decide) ?_
  refine lv_bipush (v := nI 50) hx hb d_T_crowd_2 (by decide) ?_
  refine ro_callv (va_runS (As := [.int (nI wi), .int (nI 1), .int (nI 50)]) (rest := []) ⟨hx, hb, hml, hown, hts⟩ (c_T_requireWithin l (nI wi) (nI 1) (nI 50) 1 50 (nI_toInt (by decide)) (nI_toInt (by decide)) (by rw [nI_toInt (by omega)]; omega)) (cwS 3 hts (gw_S k_150 k_148 k_149 k_1) rfl rfl rfl (by decide +kernel) ⟨Nat.le_trans (Nat.le_of_ble_eq_true rfl) hfr, Nat.le_trans (Nat.le_of_ble_eq_true rfl) hlo⟩) ⟨pr_blind, pr_at hC (fun k q h => by simp at h)⟩ rfl rfl hl.1 rfl (lv_room (Nat.le_of_ble_eq_true rfl)) d_T_crowd_4 ⟨hce, hsl⟩) ?_
  refine lv_aload_n hx hb d_T_crowd_7 rfl (lv_at hl 0 rfl) ?_
  refine lv_iload_n hx hb d_T_crowd_8 rfl (lv_at hl 2 rfl) ?_
  refine ro_callv (va_runV (As := [.int (nI fl)]) (rest := []) ⟨hx, hb, hml, hown, hts⟩ (c_T_requireFloor l g F nt (sm pp 1 F) (nI fl) hF12 (okFl_N hf1 hfF hF12)) (cwV 1 hts (gw_V k_252 k_249 k_251 ks_T_requireFloor k_1) rfl rfl rfl (by decide +kernel) ⟨Nat.le_trans (Nat.le_of_ble_eq_true rfl) hfr, Nat.le_trans (Nat.le_of_ble_eq_true rfl) hlo⟩) ⟨pr_blind, va_recv hK hP (ci := 5) (q0 := 0) rfl rfl, pr_at hC (hP.sub (ws' := [(g 0, .inr (5, [.ref (g 1), .ref (g 4), .int (nI nt), .ref (g 5), .ref (g 6), .ref (g 11)])), (g 1, .inr (0, [.ref (g 2), .ref (g 3), .int (nI F), .int (nI (sm pp 1 F))]))]) [0, 1] rfl)⟩ rfl rfl hl.1 rfl (lv_room (Nat.le_of_ble_eq_true rfl)) d_T_crowd_9 ⟨hce, hsl⟩) ?_
  refine lv_aload_n hx hb d_T_crowd_12 rfl (lv_at hl 0 rfl) ?_
  refine va_get (D := (dC, dI)) (ci := 5) (v := .ref (g 11)) (C := R_T) (T := F_T) (N := 6) hx hb hts i_T hown hK hP 0 rfl rfl 5 (by decide) (hts _ k_125) (fun _ h9 => h9) rfl d_T_crowd_13 ?_
  refine lv_aload_n hx hb d_T_crowd_16 rfl (lv_at hl 0 rfl) ?_
  refine va_get (D := (dC, dI)) (ci := 5) (v := .ref (g 1)) (C := R_T) (T := F_T) (N := 6) hx hb hts i_T hown hK hP 0 rfl rfl 0 (by decide) (hts _ k_120) (fun _ h9 => h9) rfl d_T_crowd_17 ?_
  have hPc := hP.sub (ws' := [(g 11, .inr (4, [.ref (g 12), .int (nI ins)])), (g 12, .inl (cI, 13, .inl (fun j => nI (aa j)))), (g 1, .inr (0, [.ref (g 2), .ref (g 3), .int (nI F), .int (nI (sm pp 1 F))])), (g 2, .inl (cI, 13, .inl (fun j => nI (pp j))))]) [3, 4, 1, 2] rfl
  have hDc := hD.sub (ws' := [(g 11, .inr (4, [.ref (g 12), .int (nI ins)])), (g 12, .inl (cI, 13, .inl (fun j => nI (aa j)))), (g 1, .inr (0, [.ref (g 2), .ref (g 3), .int (nI F), .int (nI (sm pp 1 F))])), (g 2, .inl (cI, 13, .inl (fun j => nI (pp j))))]) [3, 4, 1, 2] (by decide) rfl
  have hFc := va_free (wc := [(g 11, .inr (4, [.ref (g 12), .int (nI ins)])), (g 12, .inl (cI, 13, .inl (fun j => nI (aa j)))), (g 1, .inr (0, [.ref (g 2), .ref (g 3), .int (nI F), .int (nI (sm pp 1 F))])), (g 2, .inl (cI, 13, .inl (fun j => nI (pp j))))]) hD hS hA [3, 4, 1, 2] rfl
  refine va_callv (va_runV (As := [.ref (g 1)]) (rest := []) ⟨hx, hb, hml, hown, hts⟩ (c_A_begin l _ g F ins pp aa hF12) (cwV 1 hts (gw_V k_445 k_442 k_443 k_444 k_5) rfl rfl rfl (by decide +kernel) ⟨Nat.le_trans (Nat.le_of_ble_eq_true rfl) hfr, Nat.le_trans (Nat.le_of_ble_eq_true rfl) hlo⟩) ⟨wr_blind, va_recv hK hP (ci := 4) (q0 := 3) rfl rfl, wr_at hC hPc hDc⟩ rfl rfl hl.1 rfl (lv_room (Nat.le_of_ble_eq_true rfl)) d_T_crowd_20 ⟨hce, hsl⟩) hS (fun q _ h => hFc q h) hFc (fun u t H1 locs ht hvm hw hB hz1 hk1 hS => ?_)
  obtain ⟨hP1, hD1⟩ := hB
  rw [ht] at hP1
  obtain ⟨hP, hD⟩ := va_join (wr := [(g 0, .inr (5, [.ref (g 1), .ref (g 4), .int (nI nt), .ref (g 5), .ref (g 6), .ref (g 11)]))]) (w1 := [(g 11, .inr (4, [.ref (g 12), .int (nI (sm (cp pp aa 13) 1 F))])), (g 12, .inl (cI, 13, .inl (fun j => nI ((cp pp aa 13) j)))), (g 1, .inr (0, [.ref (g 2), .ref (g 3), .int (nI F), .int (nI (sm pp 1 F))])), (g 2, .inl (cI, 13, .inl (fun j => nI (pp j))))]) hP hD [3, 4, 1, 2] [0] rfl rfl (by decide) (by decide) hk1 hFc hP1 hD1
  generalize H1 = H at hP hS ⊢
  have hP := hP.sub (ws' := [(g 0, .inr (5, [.ref (g 1), .ref (g 4), .int (nI nt), .ref (g 5), .ref (g 6), .ref (g 11)])), (g 1, .inr (0, [.ref (g 2), .ref (g 3), .int (nI F), .int (nI (sm pp 1 F))])), (g 2, .inl (cI, 13, .inl (fun j => nI (pp j)))), (g 11, .inr (4, [.ref (g 12), .int (nI (sm (cp pp aa 13) 1 F))])), (g 12, .inl (cI, 13, .inl (fun j => nI ((cp pp aa 13) j))))]) [0, 3, 4, 1, 2] rfl
  have hD := hD.sub (ws' := [(g 0, .inr (5, [.ref (g 1), .ref (g 4), .int (nI nt), .ref (g 5), .ref (g 6), .ref (g 11)])), (g 1, .inr (0, [.ref (g 2), .ref (g 3), .int (nI F), .int (nI (sm pp 1 F))])), (g 2, .inl (cI, 13, .inl (fun j => nI (pp j)))), (g 11, .inr (4, [.ref (g 12), .int (nI (sm (cp pp aa 13) 1 F))])), (g 12, .inl (cI, 13, .inl (fun j => nI ((cp pp aa 13) j))))]) [0, 3, 4, 1, 2] (by decide) rfl
  refine lv_aload_n hx hb d_T_crowd_23 rfl (lv_at hl 0 rfl) ?_
  refine va_get (D := (dC, dI)) (ci := 5) (v := .ref (g 11)) (C := R_T) (T := F_T) (N := 6) hx hb hts i_T hown hK hP 0 rfl rfl 5 (by decide) (hts _ k_125) (fun _ h9 => h9) rfl d_T_crowd_24 ?_
  refine va_get (D := (dC, dI)) (ci := 4) (v := .ref (g 12)) (C := R_A) (T := F_A) (N := 2) hx hb hts i_A hown hK hP 3 rfl rfl 0 (by decide) (hts _ k_112) (fun _ h9 => h9) rfl d_T_crowd_27 ?_
  refine lv_iload_n hx hb d_T_crowd_30 rfl (lv_at hl 2 rfl) ?_
  refine nx_iald hx hb hK hP 4 0 rfl rfl (k := fl) (v := nI ((cp pp aa 13) fl)) (by omega) (by decide) rfl d_T_crowd_31 ?_
  refine lv_istore_n (lv' := [(3, .int (nI ((cp pp aa 13) fl))), (0, .ref (g 0)), (1, .int (nI wi)), (2, .int (nI fl))]) hx hb d_T_crowd_32 rfl hl (by decide) rfl (fun ls hl => ?_)
  refine lv_iconst (v := nI 0) hx hb d_T_crowd_33 (by decide) ?_
  refine lv_istore (lv' := [(4, .int (nI 0)), (3, .int (nI ((cp pp aa 13) fl))), (0, .ref (g 0)), (1, .int (nI wi)), (2, .int (nI fl))]) hx hb d_T_crowd_34 hl (by decide) rfl (fun ls hl => ?_)
  refine l_T_crowd ⟨hx, hb, hml, hown, hts⟩ hC hF12 hwi hE hn ho hf1 hfF hfr hlo hce hsl hA (fun H locs ls hP hD hS hl => ?_) (n + 1) 0 (by omega) (by omega) H locs ls hP hD hS (lv_sub hl [2, 3, 4, 1, 0] rfl)
  refine lv_iload_n hx hb d_T_crowd_89 rfl (lv_at hl 3 rfl) ?_
  exact W.iret hx hb hr (fun t ht hW => ⟨⟨_, (), rfl, rfl, by rw [ht]; exact hP, hD⟩, hS.F ht⟩) hS.2.2 d_T_crowd_90
