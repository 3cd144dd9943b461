set_option maxHeartbeats 4000000 in
set_option maxRecDepth 100000 in
theorem c_A_begin (l : Launch) {dC : Nat → ClassId} {dI : Nat → Nat → Nat} {cI cL cT : ClassId} {sa : Nat → Nat} (sz : Nat) (g : Nat → Nat) (F ins : Nat) (pp aa : Nat → Nat) (hF12 : F ≤ 12) : Met l y_A_begin (Cond.code y_A_begin b_A_begin 2 none :: gw) ({ frames := 1, cells := 0, slots := 0, locals := 300 } : Room) (wr dC dI cI cL cT sa [.ref (g 11), .ref (g 1)] [(g 11, .inr (4, [.ref (g 12), .int (nI ins)])), (g 12, .inl (cI, 13, .inl (fun j => nI (aa j)))), (g 1, .inr (0, [.ref (g 2), .ref (g 3), .int (nI F), .int (nI (sm pp 1 F))])), (g 2, .inl (cI, 13, .inl (fun j => nI (pp j))))] sz) (va_Qv (fun _ : Unit => True) (wB dC dI [(g 11, .inr (4, [.ref (g 12), .int (nI ins)])), (g 12, .inl (cI, 13, .inl (fun j => nI (aa j)))), (g 1, .inr (0, [.ref (g 2), .ref (g 3), .int (nI F), .int (nI (sm pp 1 F))])), (g 2, .inl (cI, 13, .inl (fun j => nI (pp j))))] [(g 11, .inr (4, [.ref (g 12), .int (nI (sm (cp pp aa 13) 1 F))])), (g 12, .inl (cI, 13, .inl (fun j => nI ((cp pp aa 13) j)))), (g 1, .inr (0, [.ref (g 2), .ref (g 3), .int (nI F), .int (nI (sm pp 1 F))])), (g 2, .inl (cI, 13, .inl (fun j => nI (pp j))))] sz) (va_A [(g 11, .inr (4, [.ref (g 12), .int (nI ins)])), (g 12, .inl (cI, 13, .inl (fun j => nI (aa j)))), (g 1, .inr (0, [.ref (g 2), .ref (g 3), .int (nI F), .int (nI (sm pp 1 F))])), (g 2, .inl (cI, 13, .inl (fun j => nI (pp j))))] sz)) 0 0 (va_A [(g 11, .inr (4, [.ref (g 12), .int (nI ins)])), (g 12, .inl (cI, 13, .inl (fun j => nI (aa j)))), (g 1, .inr (0, [.ref (g 2), .ref (g 3), .int (nI F), .int (nI (sm pp 1 F))])), (g 2, .inl (cI, 13, .inl (fun j => nI (pp j))))] sz) := by
  refine Met.ofW (cc := b_A_begin) (maxL := 2) (ret := none) (by decide) rfl ?_
  intro p e s m args below meth c s₁ B hml hv
  obtain ⟨rfl, hsz, hC, hP, hD0⟩ := hv
  have hx := B.exec
  have hb := B.bytes
  have hr := B.returns
  have hts : ∀ w ∈ gw, w.before ([.ref (g 11), .ref (g 1)] : List Value).toArray s = true := fun w hw => atoms_spec (ws := Cond.code y_A_begin b_A_begin 2 none :: gw) B.pre w (List.mem_cons_of_mem _ hw)
  have hown : s.vm.findClass R_A = some m.cls := findClass_of_methodNamed B.named
  have hlocks := B.notSynchronized
  have hK := hC.1
  have hfr : 1 ≤ (headSpec (Cond.code y_A_begin b_A_begin 2 none :: gw) ({ frames := 1, cells := 0, slots := 0, locals := 300 } : Room)).room.frames := Nat.le_refl _
  have hlo : 300 ≤ (headSpec (Cond.code y_A_begin b_A_begin 2 none :: gw) ({ frames := 1, cells := 0, slots := 0, locals := 300 } : Room)).room.locals := Nat.le_refl _
  have hce : 0 ≤ (headSpec (Cond.code y_A_begin b_A_begin 2 none :: gw) ({ frames := 1, cells := 0, slots := 0, locals := 300 } : Room)).room.cells := Nat.zero_le _
  have hsl : 0 ≤ (headSpec (Cond.code y_A_begin b_A_begin 2 none :: gw) ({ frames := 1, cells := 0, slots := 0, locals := 300 } : Room)).room.slots := Nat.zero_le _
  subst hsz
  have hD := hD0.self (sz := s.heap.size)
  unfold wB
  generalize hAe : va_A [(g 11, .inr (4, [.ref (g 12), .int (nI ins)])), (g 12, .inl (cI, 13, .inl (fun j => nI (aa j)))), (g 1, .inr (0, [.ref (g 2), .ref (g 3), .int (nI F), .int (nI (sm pp 1 F))])), (g 2, .inl (cI, 13, .inl (fun j => nI (pp j))))] s.heap.size = A at hD ⊢
  have hA : ∀ q : Nat, s.heap.size ≤ q → A q := fun q h => by rw [← hAe]; exact Or.inr h
  have hS : va_S A s.heap s.heap [] := va_S.rf
  have hl := lv_entry ([.ref (g 11), .ref (g 1)]) (n := 2) (Nat.le_of_ble_eq_true rfl)
  rw [lg_entry_eq]
  generalize (lg_sl ([.ref (g 11), .ref (g 1)]) ++ List.replicate (2 - (lg_sl ([.ref (g 11), .ref (g 1)])).length) Slot.unset).toArray = ls at hl ⊢
  have hl : lv_has ls 2 [(0, .ref (g 11)), (1, .ref (g 1))] := hl
  refine lv_aload_n hx hb d_A_begin_0 rfl (lv_at hl 1 rfl) ?_
  refine va_get (D := (dC, dI)) (ci := 0) (v := .ref (g 2)) (C := R_B) (T := F_B) (N := 4) hx hb hts i_B hown hK hP 2 rfl rfl 0 (by decide) (hts _ k_30) (fun _ h9 => h9) rfl d_A_begin_1 ?_
  refine lv_iconst (v := nI 0) hx hb d_A_begin_4 (by decide) ?_
  refine lv_aload_n hx hb d_A_begin_5 rfl (lv_at hl 0 rfl) ?_
  refine va_get (D := (dC, dI)) (ci := 4) (v := .ref (g 12)) (C := R_A) (T := F_A) (N := 2) hx hb hts i_A hown hK hP 0 rfl rfl 0 (by decide) (hts _ k_111) (fun _ h9 => h9) rfl d_A_begin_6 ?_
  refine lv_iconst (v := nI 0) hx hb d_A_begin_9 (by decide) ?_
  refine lv_bipush (v := nI 13) hx hb d_A_begin_10 (by decide) ?_
  refine va_copyi hx hb (hml.trans hl.1.symm) hown (hts _ k_446) (hts _ k_434) (hts _ k_433) (hts _ k_13) hK hP hD hS 3 1 0 0 rfl rfl rfl rfl rfl (sp := nI 0) (dp := nI 0) (n := nI 13) (by decide) (by decide) (by decide) (by decide) (by decide) (fun i hi => rfl) (Nat.le_trans (Nat.le_of_ble_eq_true rfl) hfr) (Nat.le_trans (Nat.le_of_ble_eq_true rfl) hlo) d_A_begin_12 (fun H locs hP hD hS => ?_)
  rw [cp_eq (by decide)] at hP hD
  have hP : va_P (dC, dI) vwCl [(g 11, .inr (4, [.ref (g 12), .int (nI ins)])), (g 12, .inl (cI, 13, .inl (fun j => nI ((cp pp aa 13) j)))), (g 1, .inr (0, [.ref (g 2), .ref (g 3), .int (nI F), .int (nI (sm pp 1 F))])), (g 2, .inl (cI, 13, .inl (fun j => nI (pp j))))] H := hP
  have hD : va_D A [(g 11, .inr (4, [.ref (g 12), .int (nI ins)])), (g 12, .inl (cI, 13, .inl (fun j => nI ((cp pp aa 13) j)))), (g 1, .inr (0, [.ref (g 2), .ref (g 3), .int (nI F), .int (nI (sm pp 1 F))])), (g 2, .inl (cI, 13, .inl (fun j => nI (pp j))))] := hD
  refine lv_aload_n hx hb d_A_begin_15 rfl (lv_at hl 0 rfl) ?_
  refine lv_aload_n hx hb d_A_begin_16 rfl (lv_at hl 1 rfl) ?_
  refine va_get (D := (dC, dI)) (ci := 0) (v := .int (nI (sm pp 1 F))) (C := R_B) (T := F_B) (N := 4) hx hb hts i_B hown hK hP 2 rfl rfl 3 (by decide) (hts _ k_38) (fun _ h9 => h9) rfl d_A_begin_17 ?_
  refine nx_ieq (cp_sm (g := aa) hF12).symm ?_
  refine va_put (D := (dC, dI)) (ci := 4) (v := .int (nI (sm (cp pp aa 13) 1 F))) (ty := (.int)) (C := R_A) (T := F_A) (N := 2) hx hb hts i_A ft_A ft_A_ok n_A hown hK hP hD hS 0 rfl rfl 1 (by decide) (hts _ k_113) (fun _ h9 => h9) rfl (by decide +kernel) rfl rfl (Nat.le_of_ble_eq_true rfl) d_A_begin_20 (fun H locs hP hD hS => ?_)
  have hP : va_P (dC, dI) vwCl [(g 11, .inr (4, [.ref (g 12), .int (nI (sm (cp pp aa 13) 1 F))])), (g 12, .inl (cI, 13, .inl (fun j => nI ((cp pp aa 13) j)))), (g 1, .inr (0, [.ref (g 2), .ref (g 3), .int (nI F), .int (nI (sm pp 1 F))])), (g 2, .inl (cI, 13, .inl (fun j => nI (pp j))))] H := hP
  have hD : va_D A [(g 11, .inr (4, [.ref (g 12), .int (nI (sm (cp pp aa 13) 1 F))])), (g 12, .inl (cI, 13, .inl (fun j => nI ((cp pp aa 13) j)))), (g 1, .inr (0, [.ref (g 2), .ref (g 3), .int (nI F), .int (nI (sm pp 1 F))])), (g 2, .inl (cI, 13, .inl (fun j => nI (pp j))))] := hD
  exact W.vret hx hb hr (fun t ht hW => ⟨⟨(), rfl, trivial, by rw [ht]; exact hP, hD⟩, hS.F ht⟩) hS.2.2 d_A_begin_23
section
variable {p : Program} {l : Launch} {e : Env} {R : Room} {s : State} {m : MethodId} {args : Array Value} {below : List Frame} {meth : Method} {c : Code} {cells slots : Nat} {Q : State → Prop} {A : Nat → Prop}
variable {dC : Nat → ClassId} {dI : Nat → Nat → Nat} {cI cL cT : ClassId} {sa : Nat → Nat}
set_option maxHeartbeats 4000000 in
set_option maxRecDepth 100000 in
theorem l_A_second (hF : CallFix p m c b_A_oneSecond 6 s args gw R_A) (hK : va_K (dC, dI) vwCl (vwTy cI cL cT) s) {g : Nat → Nat} {F : Nat} {aa : Nat → Nat} {wi : Nat} (hF12 : F ≤ 12) (hwi : wi ≤ 50) (haa : ∀ j, 1 ≤ j → j ≤ F → aa j < 2 ^ 31) (hfr : 1 ≤ R.frames) (hlo : 40 ≤ R.locals) (hce : cells ≤ R.cells) (hsl : slots ≤ R.slots) (kend : ∀ (H : Heap) (locs : List Loc) (ls : Array Slot), va_P (dC, dI) vwCl [(g 11, .inr (4, [.ref (g 12), .int (nI (sm aa 1 F))])), (g 12, .inl (cI, 13, .inl (fun j => nI ((stK wi aa F) j))))] H → va_D A [(g 11, .inr (4, [.ref (g 12), .int (nI (sm aa 1 F))])), (g 12, .inl (cI, 13, .inl (fun j => nI ((stK wi aa F) j))))] → va_S A s.heap H locs → lv_has ls 6 [(0, .ref (g 11)), (1, .int (nI F)), (2, .int (nI wi)), (3, .int (nI (aa 0))), (4, .int (nI (1 + F)))] → W p l e R s m args below meth c H locs cells slots Q (F0 m 61 ls [])) : ∀ j k : Nat, F - k < j → k ≤ F → ∀ (H : Heap) (locs : List Loc) (ls : Array Slot), va_P (dC, dI) vwCl [(g 11, .inr (4, [.ref (g 12), .int (nI (sm aa 1 F))])), (g 12, .inl (cI, 13, .inl (fun j => nI ((stK wi aa k) j))))] H → va_D A [(g 11, .inr (4, [.ref (g 12), .int (nI (sm aa 1 F))])), (g 12, .inl (cI, 13, .inl (fun j => nI ((stK wi aa k) j))))] → va_S A s.heap H locs → lv_has ls 6 [(0, .ref (g 11)), (1, .int (nI F)), (2, .int (nI wi)), (3, .int (nI (aa 0))), (4, .int (nI (1 + k)))] → W p l e R s m args below meth c H locs cells slots Q (F0 m 10 ls []) := by
  obtain ⟨hx, hb, hml, hown, hts⟩ := id hF
  intro j
  induction j with
  | zero => intro k hj; omega
  | succ j ih =>
    intro k hj hk H locs ls hP hD hS hl
    refine lv_iload hx hb d_A_oneSecond_10 (lv_at hl 4 rfl) ?_
    refine lv_iload_n hx hb d_A_oneSecond_12 rfl (lv_at hl 1 rfl) ?_
    refine nx_icmp_gt (tgt := 61) hx hb d_A_oneSecond_13 (by decide) (by omega) (by omega) (fun h => ?_) (fun h => ?_)
    · have hke : k = F := by omega
      subst hke
      exact kend H locs ls hP hD hS hl
    · have ha : stK wi aa k (1 + k) < 2 ^ 31 := by rw [stK_next]; exact haa (1 + k) (by omega) (by omega)
      have hmx := mn_le (a := stK wi aa k (1 + k)) (w := wi)
      refine lv_aload_n hx hb d_A_oneSecond_16 rfl (lv_at hl 0 rfl) ?_
      refine va_get (D := (dC, dI)) (ci := 4) (v := .ref (g 12)) (C := R_A) (T := F_A) (N := 2) hx hb hts i_A hown hK hP 0 rfl rfl 0 (by decide) (hts _ k_111) (fun _ h9 => h9) rfl d_A_oneSecond_17 ?_
      refine lv_iload hx hb d_A_oneSecond_20 (lv_at hl 4 rfl) ?_
      refine nx_iald hx hb hK hP 1 0 rfl rfl (k := 1 + k) (v := nI ((stK wi aa k) (1 + k))) (by omega) (by decide) rfl d_A_oneSecond_22 ?_
      refine lv_iload_n hx hb d_A_oneSecond_23 rfl (lv_at hl 2 rfl) ?_
      refine va_mmin hx hb (hml.trans hl.1.symm) hown (hts _ k_451) (hts _ k_452) (hts _ k_14) (hts _ k_453) (Nat.le_trans (Nat.le_of_ble_eq_true rfl) hfr) (Nat.le_trans (Nat.le_of_ble_eq_true rfl) hlo) hce hsl d_A_oneSecond_24 ?_
      rw [mn_I ha (by omega)]
      refine lv_istore (lv' := [(5, .int (nI (mn (stK wi aa k (1 + k)) wi))), (0, .ref (g 11)), (1, .int (nI F)), (2, .int (nI wi)), (3, .int (nI (aa 0))), (4, .int (nI (1 + k)))]) hx hb d_A_oneSecond_27 hl (by decide) rfl (fun ls hl => ?_)
      refine lv_aload_n hx hb d_A_oneSecond_29 rfl (lv_at hl 1 rfl) ?_
      refine va_get (D := (dC, dI)) (ci := 4) (v := .ref (g 12)) (C := R_A) (T := F_A) (N := 2) hx hb hts i_A hown hK hP 0 rfl rfl 0 (by decide) (hts _ k_111) (fun _ h9 => h9) rfl d_A_oneSecond_30 ?_
      refine lv_iload hx hb d_A_oneSecond_33 (lv_at hl 5 rfl) ?_
      refine lv_dup2_11 hx hb d_A_oneSecond_35 rfl rfl ?_
      refine nx_iald hx hb hK hP 1 0 rfl rfl (k := 1 + k) (v := nI ((stK wi aa k) (1 + k))) (by omega) (by decide) rfl d_A_oneSecond_36 ?_
      refine lv_iload hx hb d_A_oneSecond_37 (lv_at hl 0 rfl) ?_
      refine nx_isub hx hb d_A_oneSecond_39 hmx ?_
      refine nx_iast hx hb hK hP hD hS 1 0 rfl rfl (k := 1 + k) (x := nI (((stK wi aa k) (1 + k)) - (mn (stK wi aa k (1 + k)) wi))) (by omega) (by decide) d_A_oneSecond_40 (fun H locs hP hD hS => ?_)
      have hP : va_P (dC, dI) vwCl [(g 11, .inr (4, [.ref (g 12), .int (nI (sm aa 1 F))])), (g 12, .inl (cI, 13, .inl (upd (fun j => nI ((stK wi aa k) j)) (1 + k) (nI (((stK wi aa k) (1 + k)) - (mn (stK wi aa k (1 + k)) wi))))))] H := hP
      have hD : va_D A [(g 11, .inr (4, [.ref (g 12), .int (nI (sm aa 1 F))])), (g 12, .inl (cI, 13, .inl (upd (fun j => nI ((stK wi aa k) j)) (1 + k) (nI (((stK wi aa k) (1 + k)) - (mn (stK wi aa k (1 + k)) wi))))))] := hD
      rw [up_eq] at hP hD
      refine lv_aload_n hx hb d_A_oneSecond_41 rfl (lv_at hl 1 rfl) ?_
      refine va_get (D := (dC, dI)) (ci := 4) (v := .ref (g 12)) (C := R_A) (T := F_A) (N := 2) hx hb hts i_A hown hK hP 0 rfl rfl 0 (by decide) (hts _ k_111) (fun _ h9 => h9) rfl d_A_oneSecond_42 ?_
      refine lv_iload hx hb d_A_oneSecond_45 (lv_at hl 5 rfl) ?_
      refine lv_iconst (v := nI 1) hx hb d_A_oneSecond_47 (by decide) ?_
      refine nx_isub hx hb d_A_oneSecond_48 (by omega) ?_
      refine lv_dup2_11 hx hb d_A_oneSecond_49 rfl rfl ?_
      refine nx_iald hx hb hK hP 1 0 rfl rfl (k := (1 + k) - 1) (v := nI ((up (stK wi aa k) (1 + k) (((stK wi aa k) (1 + k)) - (mn (stK wi aa k (1 + k)) wi))) ((1 + k) - 1))) (by omega) (by decide) rfl d_A_oneSecond_50 ?_
      refine lv_iload hx hb d_A_oneSecond_51 (lv_at hl 0 rfl) ?_
      refine nx_iadd hx hb d_A_oneSecond_53 ?_
      refine nx_iast hx hb hK hP hD hS 1 0 rfl rfl (k := (1 + k) - 1) (x := nI (((up (stK wi aa k) (1 + k) (((stK wi aa k) (1 + k)) - (mn (stK wi aa k (1 + k)) wi))) ((1 + k) - 1)) + (mn (stK wi aa k (1 + k)) wi))) (by omega) (by decide) d_A_oneSecond_54 (fun H locs hP hD hS => ?_)
      have hP : va_P (dC, dI) vwCl [(g 11, .inr (4, [.ref (g 12), .int (nI (sm aa 1 F))])), (g 12, .inl (cI, 13, .inl (upd (fun j => nI ((up (stK wi aa k) (1 + k) (((stK wi aa k) (1 + k)) - (mn (stK wi aa k (1 + k)) wi))) j)) ((1 + k) - 1) (nI (((up (stK wi aa k) (1 + k) (((stK wi aa k) (1 + k)) - (mn (stK wi aa k (1 + k)) wi))) ((1 + k) - 1)) + (mn (stK wi aa k (1 + k)) wi))))))] H := hP
      have hD : va_D A [(g 11, .inr (4, [.ref (g 12), .int (nI (sm aa 1 F))])), (g 12, .inl (cI, 13, .inl (upd (fun j => nI ((up (stK wi aa k) (1 + k) (((stK wi aa k) (1 + k)) - (mn (stK wi aa k (1 + k)) wi))) j)) ((1 + k) - 1) (nI (((up (stK wi aa k) (1 + k) (((stK wi aa k) (1 + k)) - (mn (stK wi aa k (1 + k)) wi))) ((1 + k) - 1)) + (mn (stK wi aa k (1 + k)) wi))))))] := hD
      rw [up_eq] at hP hD
      refine nx_inc (lv' := [(4, .int (nI (1 + k + 1))), (5, .int (nI (mn (stK wi aa k (1 + k)) wi))), (0, .ref (g 11)), (1, .int (nI F)), (2, .int (nI wi)), (3, .int (nI (aa 0)))]) hx hb d_A_oneSecond_55 hl (k := 5) rfl (by decide) rfl (fun ls hl => ?_)
      refine lv_goto (tgt := 10) hx hb d_A_oneSecond_58 (by decide) ?_
      exact ih (k + 1) (by omega) (by omega) H locs ls hP hD hS (lv_sub hl [2, 3, 4, 5, 0] rfl)
end
set_option maxHeartbeats 4000000 in
set_option maxRecDepth 100000 in
theorem c_A_oneSecond (l : Launch) {dC : Nat → ClassId} {dI : Nat → Nat → Nat} {cI cL cT : ClassId} {sa : Nat → Nat} (sz : Nat) (g : Nat → Nat) (F : Nat) (aa : Nat → Nat) (wi : Nat) (hF12 : F ≤ 12) (hwi : wi ≤ 50) (haa : ∀ j, 1 ≤ j → j ≤ F → aa j < 2 ^ 31) : Met l y_A_oneSecond (Cond.code y_A_oneSecond b_A_oneSecond 6 none :: gw) ({ frames := 1, cells := 0, slots := 0, locals := 40 } : Room) (wr dC dI cI cL cT sa [.ref (g 11), .int (nI F), .int (nI wi)] [(g 11, .inr (4, [.ref (g 12), .int (nI (sm aa 1 F))])), (g 12, .inl (cI, 13, .inl (fun j => nI (aa j))))] sz) (va_Qv (fun _ : Unit => True) (wB dC dI [(g 11, .inr (4, [.ref (g 12), .int (nI (sm aa 1 F))])), (g 12, .inl (cI, 13, .inl (fun j => nI (aa j))))] [(g 11, .inr (4, [.ref (g 12), .int (nI (sm (stK wi aa F) 1 F))])), (g 12, .inl (cI, 13, .inl (fun j => nI ((stK wi aa F) j))))] sz) (va_A [(g 11, .inr (4, [.ref (g 12), .int (nI (sm aa 1 F))])), (g 12, .inl (cI, 13, .inl (fun j => nI (aa j))))] sz)) 0 0 (va_A [(g 11, .inr (4, [.ref (g 12), .int (nI (sm aa 1 F))])), (g 12, .inl (cI, 13, .inl (fun j => nI (aa j))))] sz) := by
  refine Met.ofW (cc := b_A_oneSecond) (maxL := 6) (ret := none) (by decide) rfl ?_
  intro p e s m args below meth c s₁ B hml hv
  obtain ⟨rfl, hsz, hC, hP, hD0⟩ := hv
  have hx := B.exec
  have hb := B.bytes
  have hr := B.returns
  have hts : ∀ w ∈ gw, w.before ([.ref (g 11), .int (nI F), .int (nI wi)] : List Value).toArray s = true := fun w hw => atoms_spec (ws := Cond.code y_A_oneSecond b_A_oneSecond 6 none :: gw) B.pre w (List.mem_cons_of_mem _ hw)
  have hown : s.vm.findClass R_A = some m.cls := findClass_of_methodNamed B.named
  have hlocks := B.notSynchronized
  have hK := hC.1
  have hfr : 1 ≤ (headSpec (Cond.code y_A_oneSecond b_A_oneSecond 6 none :: gw) ({ frames := 1, cells := 0, slots := 0, locals := 40 } : Room)).room.frames := Nat.le_refl _
  have hlo : 40 ≤ (headSpec (Cond.code y_A_oneSecond b_A_oneSecond 6 none :: gw) ({ frames := 1, cells := 0, slots := 0, locals := 40 } : Room)).room.locals := Nat.le_refl _
  have hce : 0 ≤ (headSpec (Cond.code y_A_oneSecond b_A_oneSecond 6 none :: gw) ({ frames := 1, cells := 0, slots := 0, locals := 40 } : Room)).room.cells := Nat.zero_le _
  have hsl : 0 ≤ (headSpec (Cond.code y_A_oneSecond b_A_oneSecond 6 none :: gw) ({ frames := 1, cells := 0, slots := 0, locals := 40 } : Room)).room.slots := Nat.zero_le _
  subst hsz
  have hD := hD0.self (sz := s.heap.size)
  unfold wB
  generalize hAe : va_A [(g 11, .inr (4, [.ref (g 12), .int (nI (sm aa 1 F))])), (g 12, .inl (cI, 13, .inl (fun j => nI (aa j))))] s.heap.size = A at hD ⊢
  have hA : ∀ q : Nat, s.heap.size ≤ q → A q := fun q h => by rw [← hAe]; exact Or.inr h
  have hS : va_S A s.heap s.heap [] := va_S.rf
  have hl := lv_entry ([.ref (g 11), .int (nI F), .int (nI wi)]) (n := 6) (Nat.le_of_ble_eq_true rfl)
  rw [lg_entry_eq]
  generalize (lg_sl ([.ref (g 11), .int (nI F), .int (nI wi)]) ++ List.replicate (6 - (lg_sl ([.ref (g 11), .int (nI F), .int (nI wi)])).length) Slot.unset).toArray = ls at hl ⊢
  have hl : lv_has ls 6 [(0, .ref (g 11)), (1, .int (nI F)), (2, .int (nI wi))] := hl
  refine lv_aload_n hx hb d_A_oneSecond_0 rfl (lv_at hl 0 rfl) ?_
  refine va_get (D := (dC, dI)) (ci := 4) (v := .ref (g 12)) (C := R_A) (T := F_A) (N := 2) hx hb hts i_A hown hK hP 0 rfl rfl 0 (by decide) (hts _ k_111) (fun _ h9 => h9) rfl d_A_oneSecond_1 ?_
  refine lv_iconst (v := nI 0) hx hb d_A_oneSecond_4 (by decide) ?_
  refine nx_iald hx hb hK hP 1 0 rfl rfl (k := 0) (v := nI (aa 0)) (by omega) (by decide) rfl d_A_oneSecond_5 ?_
  refine lv_istore_n (lv' := [(3, .int (nI (aa 0))), (0, .ref (g 11)), (1, .int (nI F)), (2, .int (nI wi))]) hx hb d_A_oneSecond_6 rfl hl (by decide) rfl (fun ls hl => ?_)
  refine lv_iconst (v := nI 1) hx hb d_A_oneSecond_7 (by decide) ?_
  refine lv_istore (lv' := [(4, .int (nI 1)), (3, .int (nI (aa 0))), (0, .ref (g 11)), (1, .int (nI F)), (2, .int (nI wi))]) hx hb d_A_oneSecond_8 hl (by decide) rfl (fun ls hl => ?_)
  refine l_A_second ⟨hx, hb, hml, hown, hts⟩ hK hF12 hwi haa hfr hlo hce hsl (fun H locs ls hP hD hS hl => ?_) (F + 1) 0 (by omega) (by omega) s.heap [] ls hP hD hS (lv_sub hl [2, 3, 4, 1, 0] rfl)
  obtain ⟨q1, q2, q3⟩ := st_0 (w := wi) (F := F) (a := aa)
  refine lv_aload_n hx hb d_A_oneSecond_61 rfl (lv_at hl 0 rfl) ?_
  refine lv_dup hx hb d_A_oneSecond_62 rfl ?_
  refine va_get (D := (dC, dI)) (ci := 4) (v := .int (nI (sm aa 1 F))) (C := R_A) (T := F_A) (N := 2) hx hb hts i_A hown hK hP 0 rfl rfl 1 (by decide) (hts _ k_113) (fun _ h9 => h9) rfl d_A_oneSecond_63 ?_
  refine lv_aload_n hx hb d_A_oneSecond_66 rfl (lv_at hl 0 rfl) ?_
  refine va_get (D := (dC, dI)) (ci := 4) (v := .ref (g 12)) (C := R_A) (T := F_A) (N := 2) hx hb hts i_A hown hK hP 0 rfl rfl 0 (by decide) (hts _ k_111) (fun _ h9 => h9) rfl d_A_oneSecond_67 ?_
  refine lv_iconst (v := nI 0) hx hb d_A_oneSecond_70 (by decide) ?_
  refine nx_iald hx hb hK hP 1 0 rfl rfl (k := 0) (v := nI ((stK wi aa F) 0)) (by omega) (by decide) rfl d_A_oneSecond_71 ?_
  refine lv_iload_n hx hb d_A_oneSecond_72 rfl (lv_at hl 3 rfl) ?_
  refine nx_isub hx hb d_A_oneSecond_73 q1 ?_
  refine nx_isub hx hb d_A_oneSecond_74 q2 ?_
  refine nx_ieq q3 ?_
  refine va_put (D := (dC, dI)) (ci := 4) (v := .int (nI (sm (stK wi aa F) 1 F))) (ty := (.int)) (C := R_A) (T := F_A) (N := 2) hx hb hts i_A ft_A ft_A_ok n_A hown hK hP hD hS 0 rfl rfl 1 (by decide) (hts _ k_113) (fun _ h9 => h9) rfl (by decide +kernel) rfl rfl (Nat.le_of_ble_eq_true rfl) d_A_oneSecond_75 (fun H locs hP hD hS => ?_)
  have hP : va_P (dC, dI) vwCl [(g 11, .inr (4, [.ref (g 12), .int (nI (sm (stK wi aa F) 1 F))])), (g 12, .inl (cI, 13, .inl (fun j => nI ((stK wi aa F) j))))] H := hP
  have hD : va_D A [(g 11, .inr (4, [.ref (g 12), .int (nI (sm (stK wi aa F) 1 F))])), (g 12, .inl (cI, 13, .inl (fun j => nI ((stK wi aa F) j))))] := hD
  exact W.vret hx hb hr (fun t ht hW => ⟨⟨(), rfl, trivial, by rw [ht]; exact hP, hD⟩, hS.F ht⟩) hS.2.2 d_A_oneSecond_78
