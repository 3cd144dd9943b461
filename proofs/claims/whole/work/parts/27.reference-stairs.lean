section
variable {p : Program} {l : Launch} {e : Env} {R : Room} {s : State} {m : MethodId} {args : Array Value} {below : List Frame} {meth : Method} {c : Code} {cells slots : Nat} {Q : State → Prop} {A : Nat → Prop}
variable {dC : Nat → ClassId} {dI : Nat → Nat → Nat} {cI cL cT : ClassId} {sa : Nat → Nat}
set_option maxHeartbeats 4000000 in
set_option maxRecDepth 100000 in
theorem l_M_begin (hF : CallFix p m c b_M_begin 2 s args gw R_M) (hK : va_K (dC, dI) vwCl (vwTy cI cL cT) s) {q : Nat → Nat} {th : Int32} {F nt : Nat} {ab be : Int64} {pp aa : Nat → Nat} (hF12 : F ≤ 12) (kend : ∀ (H : Heap) (locs : List Loc) (ls : Array Slot), va_P (dC, dI) vwCl [(q 0, .inr (6, (mF q th F nt ab be))), (q 1, .inl (cI, 13, .inl (fun j => nI (pp j)))), (q 16, .inl (cI, 13, .inl (fun j => nI ((bgK pp F aa 13) j))))] H → va_D A [(q 0, .inr (6, (mF q th F nt ab be))), (q 1, .inl (cI, 13, .inl (fun j => nI (pp j)))), (q 16, .inl (cI, 13, .inl (fun j => nI ((bgK pp F aa 13) j))))] → va_S A s.heap H locs → lv_has ls 2 [(0, .ref (q 0)), (1, .int (nI 13))] → W p l e R s m args below meth c H locs cells slots Q (F0 m 42 ls [])) : ∀ j k : Nat, 13 - k < j → k ≤ 13 → ∀ (H : Heap) (locs : List Loc) (ls : Array Slot), va_P (dC, dI) vwCl [(q 0, .inr (6, (mF q th F nt ab be))), (q 1, .inl (cI, 13, .inl (fun j => nI (pp j)))), (q 16, .inl (cI, 13, .inl (fun j => nI ((bgK pp F aa k) j))))] H → va_D A [(q 0, .inr (6, (mF q th F nt ab be))), (q 1, .inl (cI, 13, .inl (fun j => nI (pp j)))), (q 16, .inl (cI, 13, .inl (fun j => nI ((bgK pp F aa k) j))))] → va_S A s.heap H locs → lv_has ls 2 [(0, .ref (q 0)), (1, .int (nI k))] → W p l e R s m args below meth c H locs cells slots Q (F0 m 2 ls []) := by
  obtain ⟨hx, hb, hml, hown, hts⟩ := id hF
  intro j
  induction j with
  | zero => intro k hj; omega
  | succ j ih =>
    intro k hj hk H locs ls hP hD hS hl
    refine lv_iload_n hx hb d_M_begin_2 rfl (lv_at hl 1 rfl) ?_
    refine lv_bipush (v := nI 12) hx hb d_M_begin_3 (by decide) ?_
    refine nx_icmp_gt (tgt := 42) hx hb d_M_begin_5 (by decide) (by omega) (by omega) (fun h => ?_) (fun h => ?_)
    · have hke : k = 13 := by omega
      subst hke
      exact kend H locs ls hP hD hS hl
    · refine lv_aload_n hx hb d_M_begin_8 rfl (lv_at hl 0 rfl) ?_
      refine va_get (D := (dC, dI)) (ci := 6) (v := .ref (q 16)) (C := R_M) (T := F_M) (N := 17) hx hb hts i_M hown hK hP 0 rfl rfl 16 (by decide) (hts _ k_493) (fun _ h9 => h9) rfl d_M_begin_9 ?_
      refine lv_iload_n hx hb d_M_begin_12 rfl (lv_at hl 1 rfl) ?_
      refine lv_iload_n hx hb d_M_begin_13 rfl (lv_at hl 1 rfl) ?_
      refine lv_aload_n hx hb d_M_begin_14 rfl (lv_at hl 0 rfl) ?_
      refine va_get (D := (dC, dI)) (ci := 6) (v := .int (nI F)) (C := R_M) (T := F_M) (N := 17) hx hb hts i_M hown hK hP 0 rfl rfl 3 (by decide) (hts _ k_480) (fun _ h9 => h9) rfl d_M_begin_15 ?_
      refine nx_icmp_gt (tgt := 34) hx hb d_M_begin_18 (by decide) (by omega) (by omega) (fun h1 => ?_) (fun h1 => ?_)
      · refine lv_iconst (v := nI 0) hx hb d_M_begin_34 (by decide) ?_
        refine nx_ieq (b := if k ≤ F ∧ 0 < k then pp k else 0) (by rw [if_neg (by omega)]) ?_
        refine nx_iast hx hb hK hP hD hS 2 0 rfl rfl (k := k) (x := nI (if k ≤ F ∧ 0 < k then pp k else 0)) (by omega) (by decide) d_M_begin_35 (fun H locs hP hD hS => ?_)
        have hP : va_P (dC, dI) vwCl [(q 0, .inr (6, (mF q th F nt ab be))), (q 1, .inl (cI, 13, .inl (fun j => nI (pp j)))), (q 16, .inl (cI, 13, .inl (upd (fun j => nI ((bgK pp F aa k) j)) (k) (nI (if k ≤ F ∧ 0 < k then pp k else 0)))))] H := hP
        have hD : va_D A [(q 0, .inr (6, (mF q th F nt ab be))), (q 1, .inl (cI, 13, .inl (fun j => nI (pp j)))), (q 16, .inl (cI, 13, .inl (upd (fun j => nI ((bgK pp F aa k) j)) (k) (nI (if k ≤ F ∧ 0 < k then pp k else 0)))))] := hD
        rw [up_eq] at hP hD
        refine nx_inc (lv' := [(1, .int (nI (k + 1))), (0, .ref (q 0))]) hx hb d_M_begin_36 hl (k := 1) rfl (by decide) rfl (fun ls hl => ?_)
        refine lv_goto (tgt := 2) hx hb d_M_begin_39 (by decide) ?_
        exact ih (k + 1) (by omega) (by omega) H locs ls hP hD hS (lv_sub hl [1, 0] rfl)
      · refine lv_iload_n hx hb d_M_begin_21 rfl (lv_at hl 1 rfl) ?_
        refine nx_if_le (tgt := 34) hx hb d_M_begin_22 (by decide) (by omega) (fun h2 => ?_) (fun h2 => ?_)
        · refine lv_iconst (v := nI 0) hx hb d_M_begin_34 (by decide) ?_
          refine nx_ieq (b := if k ≤ F ∧ 0 < k then pp k else 0) (by rw [if_neg (by omega)]) ?_
          refine nx_iast hx hb hK hP hD hS 2 0 rfl rfl (k := k) (x := nI (if k ≤ F ∧ 0 < k then pp k else 0)) (by omega) (by decide) d_M_begin_35 (fun H locs hP hD hS => ?_)
          have hP : va_P (dC, dI) vwCl [(q 0, .inr (6, (mF q th F nt ab be))), (q 1, .inl (cI, 13, .inl (fun j => nI (pp j)))), (q 16, .inl (cI, 13, .inl (upd (fun j => nI ((bgK pp F aa k) j)) (k) (nI (if k ≤ F ∧ 0 < k then pp k else 0)))))] H := hP
          have hD : va_D A [(q 0, .inr (6, (mF q th F nt ab be))), (q 1, .inl (cI, 13, .inl (fun j => nI (pp j)))), (q 16, .inl (cI, 13, .inl (upd (fun j => nI ((bgK pp F aa k) j)) (k) (nI (if k ≤ F ∧ 0 < k then pp k else 0)))))] := hD
          rw [up_eq] at hP hD
          refine nx_inc (lv' := [(1, .int (nI (k + 1))), (0, .ref (q 0))]) hx hb d_M_begin_36 hl (k := 1) rfl (by decide) rfl (fun ls hl => ?_)
          refine lv_goto (tgt := 2) hx hb d_M_begin_39 (by decide) ?_
          exact ih (k + 1) (by omega) (by omega) H locs ls hP hD hS (lv_sub hl [1, 0] rfl)
        · refine lv_aload_n hx hb d_M_begin_25 rfl (lv_at hl 0 rfl) ?_
          refine va_get (D := (dC, dI)) (ci := 6) (v := .ref (q 1)) (C := R_M) (T := F_M) (N := 17) hx hb hts i_M hown hK hP 0 rfl rfl 1 (by decide) (hts _ k_478) (fun _ h9 => h9) rfl d_M_begin_26 ?_
          refine lv_iload_n hx hb d_M_begin_29 rfl (lv_at hl 1 rfl) ?_
          refine nx_iald hx hb hK hP 1 0 rfl rfl (k := k) (v := nI (pp k)) (by omega) (by decide) rfl d_M_begin_30 ?_
          refine lv_goto (tgt := 35) hx hb d_M_begin_31 (by decide) ?_
          refine nx_ieq (b := if k ≤ F ∧ 0 < k then pp k else 0) (by rw [if_pos (by omega)]) ?_
          refine nx_iast hx hb hK hP hD hS 2 0 rfl rfl (k := k) (x := nI (if k ≤ F ∧ 0 < k then pp k else 0)) (by omega) (by decide) d_M_begin_35 (fun H locs hP hD hS => ?_)
          have hP : va_P (dC, dI) vwCl [(q 0, .inr (6, (mF q th F nt ab be))), (q 1, .inl (cI, 13, .inl (fun j => nI (pp j)))), (q 16, .inl (cI, 13, .inl (upd (fun j => nI ((bgK pp F aa k) j)) (k) (nI (if k ≤ F ∧ 0 < k then pp k else 0)))))] H := hP
          have hD : va_D A [(q 0, .inr (6, (mF q th F nt ab be))), (q 1, .inl (cI, 13, .inl (fun j => nI (pp j)))), (q 16, .inl (cI, 13, .inl (upd (fun j => nI ((bgK pp F aa k) j)) (k) (nI (if k ≤ F ∧ 0 < k then pp k else 0)))))] := hD
          rw [up_eq] at hP hD
          refine nx_inc (lv' := [(1, .int (nI (k + 1))), (0, .ref (q 0))]) hx hb d_M_begin_36 hl (k := 1) rfl (by decide) rfl (fun ls hl => ?_)
          refine lv_goto (tgt := 2) hx hb d_M_begin_39 (by decide) ?_
          exact ih (k + 1) (by omega) (by omega) H locs ls hP hD hS (lv_sub hl [1, 0] rfl)
end
set_option maxHeartbeats 4000000 in
set_option maxRecDepth 100000 in
theorem c_M_begin (l : Launch) {dC : Nat → ClassId} {dI : Nat → Nat → Nat} {cI cL cT : ClassId} {sa : Nat → Nat} (sz : Nat) (q : Nat → Nat) (th : Int32) (F nt : Nat) (ab be : Int64) (pp aa : Nat → Nat) (hF12 : F ≤ 12) : Met l y_M_begin (Cond.code y_M_begin b_M_begin 2 none :: gw) ({ frames := 0, cells := 0, slots := 0, locals := 0 } : Room) (wr dC dI cI cL cT sa [.ref (q 0)] [(q 0, .inr (6, (mF q th F nt ab be))), (q 1, .inl (cI, 13, .inl (fun j => nI (pp j)))), (q 16, .inl (cI, 13, .inl (fun j => nI (aa j))))] sz) (va_Qv (fun _ : Unit => True) (wB dC dI [(q 0, .inr (6, (mF q th F nt ab be))), (q 1, .inl (cI, 13, .inl (fun j => nI (pp j)))), (q 16, .inl (cI, 13, .inl (fun j => nI (aa j))))] [(q 0, .inr (6, (mF q th F nt ab be))), (q 1, .inl (cI, 13, .inl (fun j => nI (pp j)))), (q 16, .inl (cI, 13, .inl (fun j => nI ((bgK pp F aa 13) j))))] sz) (va_A [(q 0, .inr (6, (mF q th F nt ab be))), (q 1, .inl (cI, 13, .inl (fun j => nI (pp j)))), (q 16, .inl (cI, 13, .inl (fun j => nI (aa j))))] sz)) 0 0 (va_A [(q 0, .inr (6, (mF q th F nt ab be))), (q 1, .inl (cI, 13, .inl (fun j => nI (pp j)))), (q 16, .inl (cI, 13, .inl (fun j => nI (aa j))))] sz) := by
  refine Met.ofW (cc := b_M_begin) (maxL := 2) (ret := none) (by decide) rfl ?_
  intro p e s m args below meth c s₁ B hml hv
  obtain ⟨rfl, hsz, hC, hP, hD0⟩ := hv
  have hx := B.exec
  have hb := B.bytes
  have hr := B.returns
  have hts : ∀ w ∈ gw, w.before ([.ref (q 0)] : List Value).toArray s = true := fun w hw => atoms_spec (ws := Cond.code y_M_begin b_M_begin 2 none :: gw) B.pre w (List.mem_cons_of_mem _ hw)
  have hown : s.vm.findClass R_M = some m.cls := findClass_of_methodNamed B.named
  have hlocks := B.notSynchronized
  have hK := hC.1
  have hfr : 0 ≤ (headSpec (Cond.code y_M_begin b_M_begin 2 none :: gw) ({ frames := 0, cells := 0, slots := 0, locals := 0 } : Room)).room.frames := Nat.le_refl _
  have hlo : 0 ≤ (headSpec (Cond.code y_M_begin b_M_begin 2 none :: gw) ({ frames := 0, cells := 0, slots := 0, locals := 0 } : Room)).room.locals := Nat.le_refl _
  have hce : 0 ≤ (headSpec (Cond.code y_M_begin b_M_begin 2 none :: gw) ({ frames := 0, cells := 0, slots := 0, locals := 0 } : Room)).room.cells := Nat.zero_le _
  have hsl : 0 ≤ (headSpec (Cond.code y_M_begin b_M_begin 2 none :: gw) ({ frames := 0, cells := 0, slots := 0, locals := 0 } : Room)).room.slots := Nat.zero_le _
  subst hsz
  have hD := hD0.self (sz := s.heap.size)
  unfold wB
  generalize hAe : va_A [(q 0, .inr (6, (mF q th F nt ab be))), (q 1, .inl (cI, 13, .inl (fun j => nI (pp j)))), (q 16, .inl (cI, 13, .inl (fun j => nI (aa j))))] s.heap.size = A at hD ⊢
  have hA : ∀ q : Nat, s.heap.size ≤ q → A q := fun q h => by rw [← hAe]; exact Or.inr h
  have hS : va_S A s.heap s.heap [] := va_S.rf
  have hl := lv_entry ([.ref (q 0)]) (n := 2) (Nat.le_of_ble_eq_true rfl)
  rw [lg_entry_eq]
  generalize (lg_sl ([.ref (q 0)]) ++ List.replicate (2 - (lg_sl ([.ref (q 0)])).length) Slot.unset).toArray = ls at hl ⊢
  have hl : lv_has ls 2 [(0, .ref (q 0))] := hl
  refine lv_iconst (v := nI 0) hx hb d_M_begin_0 (by decide) ?_
  refine lv_istore_n (lv' := [(1, .int (nI 0)), (0, .ref (q 0))]) hx hb d_M_begin_1 rfl hl (by decide) rfl (fun ls hl => ?_)
  refine l_M_begin ⟨hx, hb, hml, hown, hts⟩ hK hF12 (fun H locs ls hP hD hS hl => ?_) 14 0 (by omega) (by omega) s.heap [] ls hP hD hS (lv_sub hl [1, 0] rfl)
  exact W.vret hx hb hr (fun t ht hW => ⟨⟨(), rfl, trivial, by rw [ht]; exact hP, hD⟩, hS.F ht⟩) hS.2.2 d_M_begin_42
section
variable {p : Program} {l : Launch} {e : Env} {R : Room} {s : State} {m : MethodId} {args : Array Value} {below : List Frame} {meth : Method} {c : Code} {cells slots : Nat} {Q : State → Prop} {A : Nat → Prop}
variable {dC : Nat → ClassId} {dI : Nat → Nat → Nat} {cI cL cT : ClassId} {sa : Nat → Nat}
set_option maxHeartbeats 4000000 in
set_option maxRecDepth 100000 in
theorem l_M_second (hF : CallFix p m c b_M_second 4 s args gw R_M) (hK : va_K (dC, dI) vwCl (vwTy cI cL cT) s) {q : Nat → Nat} {th : Int32} {F nt : Nat} {ab be : Int64} {aa : Nat → Nat} {wi : Nat} (hF12 : F ≤ 12) (hwi : wi ≤ 50) (haa : ∀ j, 1 ≤ j → j ≤ F → aa j < 2 ^ 31) (kend : ∀ (H : Heap) (locs : List Loc) (ls : Array Slot), va_P (dC, dI) vwCl [(q 0, .inr (6, (mF q th F nt ab be))), (q 16, .inl (cI, 13, .inl (fun j => nI ((stK wi aa F) j))))] H → va_D A [(q 0, .inr (6, (mF q th F nt ab be))), (q 16, .inl (cI, 13, .inl (fun j => nI ((stK wi aa F) j))))] → va_S A s.heap H locs → lv_has ls 4 [(0, .ref (q 0)), (1, .int (nI wi)), (2, .int (nI (1 + F)))] → W p l e R s m args below meth c H locs cells slots Q (F0 m 69 ls [])) : ∀ j k : Nat, F - k < j → k ≤ F → ∀ (H : Heap) (locs : List Loc) (ls : Array Slot), va_P (dC, dI) vwCl [(q 0, .inr (6, (mF q th F nt ab be))), (q 16, .inl (cI, 13, .inl (fun j => nI ((stK wi aa k) j))))] H → va_D A [(q 0, .inr (6, (mF q th F nt ab be))), (q 16, .inl (cI, 13, .inl (fun j => nI ((stK wi aa k) j))))] → va_S A s.heap H locs → lv_has ls 4 [(0, .ref (q 0)), (1, .int (nI wi)), (2, .int (nI (1 + k)))] → W p l e R s m args below meth c H locs cells slots Q (F0 m 2 ls []) := by
  obtain ⟨hx, hb, hml, hown, hts⟩ := id hF
  intro j
  induction j with
  | zero => intro k hj; omega
  | succ j ih =>
    intro k hj hk H locs ls hP hD hS hl
    refine lv_iload_n hx hb d_M_second_2 rfl (lv_at hl 2 rfl) ?_
    refine lv_aload_n hx hb d_M_second_3 rfl (lv_at hl 0 rfl) ?_
    refine va_get (D := (dC, dI)) (ci := 6) (v := .int (nI F)) (C := R_M) (T := F_M) (N := 17) hx hb hts i_M hown hK hP 0 rfl rfl 3 (by decide) (hts _ k_480) (fun _ h9 => h9) rfl d_M_second_4 ?_
    refine nx_icmp_gt (tgt := 69) hx hb d_M_second_7 (by decide) (by omega) (by omega) (fun h => ?_) (fun h => ?_)
    · have hke : k = F := by omega
      subst hke
      exact kend H locs ls hP hD hS hl
    · have ha : stK wi aa k (1 + k) < 2 ^ 31 := by rw [stK_next]; exact haa (1 + k) (by omega) (by omega)
      have hmx := mn_le (a := stK wi aa k (1 + k)) (w := wi)
      refine lv_aload_n hx hb d_M_second_10 rfl (lv_at hl 0 rfl) ?_
      refine va_get (D := (dC, dI)) (ci := 6) (v := .ref (q 16)) (C := R_M) (T := F_M) (N := 17) hx hb hts i_M hown hK hP 0 rfl rfl 16 (by decide) (hts _ k_493) (fun _ h9 => h9) rfl d_M_second_11 ?_
      refine lv_iload_n hx hb d_M_second_14 rfl (lv_at hl 2 rfl) ?_
      refine nx_iald hx hb hK hP 1 0 rfl rfl (k := 1 + k) (v := nI ((stK wi aa k) (1 + k))) (by omega) (by decide) rfl d_M_second_15 ?_
      refine lv_iload_n hx hb d_M_second_16 rfl (lv_at hl 1 rfl) ?_
      refine nx_icmp_ge (tgt := 29) hx hb d_M_second_17 (by decide) ha (by omega) (fun h1 => ?_) (fun h1 => ?_)
      · refine lv_iload_n hx hb d_M_second_29 rfl (lv_at hl 1 rfl) ?_
        refine nx_ieq (mn_ge h1) ?_
        refine lv_istore_n (lv' := [(3, .int (nI (mn (stK wi aa k (1 + k)) wi))), (0, .ref (q 0)), (1, .int (nI wi)), (2, .int (nI (1 + k)))]) hx hb d_M_second_30 rfl hl (by decide) rfl (fun ls hl => ?_)
        refine lv_aload_n hx hb d_M_second_31 rfl (lv_at hl 1 rfl) ?_
        refine va_get (D := (dC, dI)) (ci := 6) (v := .ref (q 16)) (C := R_M) (T := F_M) (N := 17) hx hb hts i_M hown hK hP 0 rfl rfl 16 (by decide) (hts _ k_493) (fun _ h9 => h9) rfl d_M_second_32 ?_
        refine lv_iload_n hx hb d_M_second_35 rfl (lv_at hl 3 rfl) ?_
        refine lv_aload_n hx hb d_M_second_36 rfl (lv_at hl 1 rfl) ?_
        refine va_get (D := (dC, dI)) (ci := 6) (v := .ref (q 16)) (C := R_M) (T := F_M) (N := 17) hx hb hts i_M hown hK hP 0 rfl rfl 16 (by decide) (hts _ k_493) (fun _ h9 => h9) rfl d_M_second_37 ?_
        refine lv_iload_n hx hb d_M_second_40 rfl (lv_at hl 3 rfl) ?_
        refine nx_iald hx hb hK hP 1 0 rfl rfl (k := 1 + k) (v := nI ((stK wi aa k) (1 + k))) (by omega) (by decide) rfl d_M_second_41 ?_
        refine lv_iload_n hx hb d_M_second_42 rfl (lv_at hl 0 rfl) ?_
        refine nx_isub hx hb d_M_second_43 hmx ?_
        refine nx_iast hx hb hK hP hD hS 1 0 rfl rfl (k := 1 + k) (x := nI (((stK wi aa k) (1 + k)) - (mn (stK wi aa k (1 + k)) wi))) (by omega) (by decide) d_M_second_44 (fun H locs hP hD hS => ?_)
        have hP : va_P (dC, dI) vwCl [(q 0, .inr (6, (mF q th F nt ab be))), (q 16, .inl (cI, 13, .inl (upd (fun j => nI ((stK wi aa k) j)) (1 + k) (nI (((stK wi aa k) (1 + k)) - (mn (stK wi aa k (1 + k)) wi))))))] H := hP
        have hD : va_D A [(q 0, .inr (6, (mF q th F nt ab be))), (q 16, .inl (cI, 13, .inl (upd (fun j => nI ((stK wi aa k) j)) (1 + k) (nI (((stK wi aa k) (1 + k)) - (mn (stK wi aa k (1 + k)) wi))))))] := hD
        rw [up_eq] at hP hD
        refine lv_aload_n hx hb d_M_second_45 rfl (lv_at hl 1 rfl) ?_
        refine va_get (D := (dC, dI)) (ci := 6) (v := .ref (q 16)) (C := R_M) (T := F_M) (N := 17) hx hb hts i_M hown hK hP 0 rfl rfl 16 (by decide) (hts _ k_493) (fun _ h9 => h9) rfl d_M_second_46 ?_
        refine lv_iload_n hx hb d_M_second_49 rfl (lv_at hl 3 rfl) ?_
        refine lv_iconst (v := nI 1) hx hb d_M_second_50 (by decide) ?_
        refine nx_isub hx hb d_M_second_51 (by omega) ?_
        refine lv_aload_n hx hb d_M_second_52 rfl (lv_at hl 1 rfl) ?_
        refine va_get (D := (dC, dI)) (ci := 6) (v := .ref (q 16)) (C := R_M) (T := F_M) (N := 17) hx hb hts i_M hown hK hP 0 rfl rfl 16 (by decide) (hts _ k_493) (fun _ h9 => h9) rfl d_M_second_53 ?_
        refine lv_iload_n hx hb d_M_second_56 rfl (lv_at hl 3 rfl) ?_
        refine lv_iconst (v := nI 1) hx hb d_M_second_57 (by decide) ?_
        refine nx_isub hx hb d_M_second_58 (by omega) ?_
        refine nx_iald hx hb hK hP 1 0 rfl rfl (k := (1 + k) - 1) (v := nI ((up (stK wi aa k) (1 + k) (((stK wi aa k) (1 + k)) - (mn (stK wi aa k (1 + k)) wi))) ((1 + k) - 1))) (by omega) (by decide) rfl d_M_second_59 ?_
        refine lv_iload_n hx hb d_M_second_60 rfl (lv_at hl 0 rfl) ?_
        refine nx_iadd hx hb d_M_second_61 ?_
        refine nx_iast hx hb hK hP hD hS 1 0 rfl rfl (k := (1 + k) - 1) (x := nI (((up (stK wi aa k) (1 + k) (((stK wi aa k) (1 + k)) - (mn (stK wi aa k (1 + k)) wi))) ((1 + k) - 1)) + (mn (stK wi aa k (1 + k)) wi))) (by omega) (by decide) d_M_second_62 (fun H locs hP hD hS => ?_)
        have hP : va_P (dC, dI) vwCl [(q 0, .inr (6, (mF q th F nt ab be))), (q 16, .inl (cI, 13, .inl (upd (fun j => nI ((up (stK wi aa k) (1 + k) (((stK wi aa k) (1 + k)) - (mn (stK wi aa k (1 + k)) wi))) j)) ((1 + k) - 1) (nI (((up (stK wi aa k) (1 + k) (((stK wi aa k) (1 + k)) - (mn (stK wi aa k (1 + k)) wi))) ((1 + k) - 1)) + (mn (stK wi aa k (1 + k)) wi))))))] H := hP
        have hD : va_D A [(q 0, .inr (6, (mF q th F nt ab be))), (q 16, .inl (cI, 13, .inl (upd (fun j => nI ((up (stK wi aa k) (1 + k) (((stK wi aa k) (1 + k)) - (mn (stK wi aa k (1 + k)) wi))) j)) ((1 + k) - 1) (nI (((up (stK wi aa k) (1 + k) (((stK wi aa k) (1 + k)) - (mn (stK wi aa k (1 + k)) wi))) ((1 + k) - 1)) + (mn (stK wi aa k (1 + k)) wi))))))] := hD
        rw [up_eq] at hP hD
        refine nx_inc (lv' := [(2, .int (nI (1 + k + 1))), (3, .int (nI (mn (stK wi aa k (1 + k)) wi))), (0, .ref (q 0)), (1, .int (nI wi))]) hx hb d_M_second_63 hl (k := 3) rfl (by decide) rfl (fun ls hl => ?_)
        refine lv_goto (tgt := 2) hx hb d_M_second_66 (by decide) ?_
        exact ih (k + 1) (by omega) (by omega) H locs ls hP hD hS (lv_sub hl [2, 3, 0] rfl)
      · refine lv_aload_n hx hb d_M_second_20 rfl (lv_at hl 0 rfl) ?_
        refine va_get (D := (dC, dI)) (ci := 6) (v := .ref (q 16)) (C := R_M) (T := F_M) (N := 17) hx hb hts i_M hown hK hP 0 rfl rfl 16 (by decide) (hts _ k_493) (fun _ h9 => h9) rfl d_M_second_21 ?_
        refine lv_iload_n hx hb d_M_second_24 rfl (lv_at hl 2 rfl) ?_
        refine nx_iald hx hb hK hP 1 0 rfl rfl (k := 1 + k) (v := nI ((stK wi aa k) (1 + k))) (by omega) (by decide) rfl d_M_second_25 ?_
        refine lv_goto (tgt := 30) hx hb d_M_second_26 (by decide) ?_
        refine nx_ieq (mn_lt h1) ?_
        refine lv_istore_n (lv' := [(3, .int (nI (mn (stK wi aa k (1 + k)) wi))), (0, .ref (q 0)), (1, .int (nI wi)), (2, .int (nI (1 + k)))]) hx hb d_M_second_30 rfl hl (by decide) rfl (fun ls hl => ?_)
        refine lv_aload_n hx hb d_M_second_31 rfl (lv_at hl 1 rfl) ?_
        refine va_get (D := (dC, dI)) (ci := 6) (v := .ref (q 16)) (C := R_M) (T := F_M) (N := 17) hx hb hts i_M hown hK hP 0 rfl rfl 16 (by decide) (hts _ k_493) (fun _ h9 => h9) rfl d_M_second_32 ?_
        refine lv_iload_n hx hb d_M_second_35 rfl (lv_at hl 3 rfl) ?_
        refine lv_aload_n hx hb d_M_second_36 rfl (lv_at hl 1 rfl) ?_
        refine va_get (D := (dC, dI)) (ci := 6) (v := .ref (q 16)) (C := R_M) (T := F_M) (N := 17) hx hb hts i_M hown hK hP 0 rfl rfl 16 (by decide) (hts _ k_493) (fun _ h9 => h9) rfl d_M_second_37 ?_
        refine lv_iload_n hx hb d_M_second_40 rfl (lv_at hl 3 rfl) ?_
        refine nx_iald hx hb hK hP 1 0 rfl rfl (k := 1 + k) (v := nI ((stK wi aa k) (1 + k))) (by omega) (by decide) rfl d_M_second_41 ?_
        refine lv_iload_n hx hb d_M_second_42 rfl (lv_at hl 0 rfl) ?_
        refine nx_isub hx hb d_M_second_43 hmx ?_
        refine nx_iast hx hb hK hP hD hS 1 0 rfl rfl (k := 1 + k) (x := nI (((stK wi aa k) (1 + k)) - (mn (stK wi aa k (1 + k)) wi))) (by omega) (by decide) d_M_second_44 (fun H locs hP hD hS => ?_)
        have hP : va_P (dC, dI) vwCl [(q 0, .inr (6, (mF q th F nt ab be))), (q 16, .inl (cI, 13, .inl (upd (fun j => nI ((stK wi aa k) j)) (1 + k) (nI (((stK wi aa k) (1 + k)) - (mn (stK wi aa k (1 + k)) wi))))))] H := hP
        have hD : va_D A [(q 0, .inr (6, (mF q th F nt ab be))), (q 16, .inl (cI, 13, .inl (upd (fun j => nI ((stK wi aa k) j)) (1 + k) (nI (((stK wi aa k) (1 + k)) - (mn (stK wi aa k (1 + k)) wi))))))] := hD
        rw [up_eq] at hP hD
        refine lv_aload_n hx hb d_M_second_45 rfl (lv_at hl 1 rfl) ?_
        refine va_get (D := (dC, dI)) (ci := 6) (v := .ref (q 16)) (C := R_M) (T := F_M) (N := 17) hx hb hts i_M hown hK hP 0 rfl rfl 16 (by decide) (hts _ k_493) (fun _ h9 => h9) rfl d_M_second_46 ?_
        refine lv_iload_n hx hb d_M_second_49 rfl (lv_at hl 3 rfl) ?_
        refine lv_iconst (v := nI 1) hx hb d_M_second_50 (by decide) ?_
        refine nx_isub hx hb d_M_second_51 (by omega) ?_
        refine lv_aload_n hx hb d_M_second_52 rfl (lv_at hl 1 rfl) ?_
        refine va_get (D := (dC, dI)) (ci := 6) (v := .ref (q 16)) (C := R_M) (T := F_M) (N := 17) hx hb hts i_M hown hK hP 0 rfl rfl 16 (by decide) (hts _ k_493) (fun _ h9 => h9) rfl d_M_second_53 ?_
        refine lv_iload_n hx hb d_M_second_56 rfl (lv_at hl 3 rfl) ?_
        refine lv_iconst (v := nI 1) hx hb d_M_second_57 (by decide) ?_
        refine nx_isub hx hb d_M_second_58 (by omega) ?_
        refine nx_iald hx hb hK hP 1 0 rfl rfl (k := (1 + k) - 1) (v := nI ((up (stK wi aa k) (1 + k) (((stK wi aa k) (1 + k)) - (mn (stK wi aa k (1 + k)) wi))) ((1 + k) - 1))) (by omega) (by decide) rfl d_M_second_59 ?_
        refine lv_iload_n hx hb d_M_second_60 rfl (lv_at hl 0 rfl) ?_
        refine nx_iadd hx hb d_M_second_61 ?_
        refine nx_iast hx hb hK hP hD hS 1 0 rfl rfl (k := (1 + k) - 1) (x := nI (((up (stK wi aa k) (1 + k) (((stK wi aa k) (1 + k)) - (mn (stK wi aa k (1 + k)) wi))) ((1 + k) - 1)) + (mn (stK wi aa k (1 + k)) wi))) (by omega) (by decide) d_M_second_62 (fun H locs hP hD hS => ?_)
        have hP : va_P (dC, dI) vwCl [(q 0, .inr (6, (mF q th F nt ab be))), (q 16, .inl (cI, 13, .inl (upd (fun j => nI ((up (stK wi aa k) (1 + k) (((stK wi aa k) (1 + k)) - (mn (stK wi aa k (1 + k)) wi))) j)) ((1 + k) - 1) (nI (((up (stK wi aa k) (1 + k) (((stK wi aa k) (1 + k)) - (mn (stK wi aa k (1 + k)) wi))) ((1 + k) - 1)) + (mn (stK wi aa k (1 + k)) wi))))))] H := hP
        have hD : va_D A [(q 0, .inr (6, (mF q th F nt ab be))), (q 16, .inl (cI, 13, .inl (upd (fun j => nI ((up (stK wi aa k) (1 + k) (((stK wi aa k) (1 + k)) - (mn (stK wi aa k (1 + k)) wi))) j)) ((1 + k) - 1) (nI (((up (stK wi aa k) (1 + k) (((stK wi aa k) (1 + k)) - (mn (stK wi aa k (1 + k)) wi))) ((1 + k) - 1)) + (mn (stK wi aa k (1 + k)) wi))))))] := hD
        rw [up_eq] at hP hD
        refine nx_inc (lv' := [(2, .int (nI (1 + k + 1))), (3, .int (nI (mn (stK wi aa k (1 + k)) wi))), (0, .ref (q 0)), (1, .int (nI wi))]) hx hb d_M_second_63 hl (k := 3) rfl (by decide) rfl (fun ls hl => ?_)
        refine lv_goto (tgt := 2) hx hb d_M_second_66 (by decide) ?_
        exact ih (k + 1) (by omega) (by omega) H locs ls hP hD hS (lv_sub hl [2, 3, 0] rfl)
end
set_option maxHeartbeats 4000000 in
set_option maxRecDepth 100000 in
theorem c_M_second (l : Launch) {dC : Nat → ClassId} {dI : Nat → Nat → Nat} {cI cL cT : ClassId} {sa : Nat → Nat} (sz : Nat) (q : Nat → Nat) (th : Int32) (F nt : Nat) (ab be : Int64) (aa : Nat → Nat) (wi : Nat) (hF12 : F ≤ 12) (hwi : wi ≤ 50) (haa : ∀ j, 1 ≤ j → j ≤ F → aa j < 2 ^ 31) : Met l y_M_second (Cond.code y_M_second b_M_second 4 none :: gw) ({ frames := 0, cells := 0, slots := 0, locals := 0 } : Room) (wr dC dI cI cL cT sa [.ref (q 0), .int (nI wi)] [(q 0, .inr (6, (mF q th F nt ab be))), (q 16, .inl (cI, 13, .inl (fun j => nI (aa j))))] sz) (va_Qv (fun _ : Unit => True) (wB dC dI [(q 0, .inr (6, (mF q th F nt ab be))), (q 16, .inl (cI, 13, .inl (fun j => nI (aa j))))] [(q 0, .inr (6, (mF q th F nt ab be))), (q 16, .inl (cI, 13, .inl (fun j => nI ((stK wi aa F) j))))] sz) (va_A [(q 0, .inr (6, (mF q th F nt ab be))), (q 16, .inl (cI, 13, .inl (fun j => nI (aa j))))] sz)) 0 0 (va_A [(q 0, .inr (6, (mF q th F nt ab be))), (q 16, .inl (cI, 13, .inl (fun j => nI (aa j))))] sz) := by
  refine Met.ofW (cc := b_M_second) (maxL := 4) (ret := none) (by decide) rfl ?_
  intro p e s m args below meth c s₁ B hml hv
  obtain ⟨rfl, hsz, hC, hP, hD0⟩ := hv
  have hx := B.exec
  have hb := B.bytes
  have hr := B.returns
  have hts : ∀ w ∈ gw, w.before ([.ref (q 0), .int (nI wi)] : List Value).toArray s = true := fun w hw => atoms_spec (ws := Cond.code y_M_second b_M_second 4 none :: gw) B.pre w (List.mem_cons_of_mem _ hw)
  have hown : s.vm.findClass R_M = some m.cls := findClass_of_methodNamed B.named
  have hlocks := B.notSynchronized
  have hK := hC.1
  have hfr : 0 ≤ (headSpec (Cond.code y_M_second b_M_second 4 none :: gw) ({ frames := 0, cells := 0, slots := 0, locals := 0 } : Room)).room.frames := Nat.le_refl _
  have hlo : 0 ≤ (headSpec (Cond.code y_M_second b_M_second 4 none :: gw) ({ frames := 0, cells := 0, slots := 0, locals := 0 } : Room)).room.locals := Nat.le_refl _
  have hce : 0 ≤ (headSpec (Cond.code y_M_second b_M_second 4 none :: gw) ({ frames := 0, cells := 0, slots := 0, locals := 0 } : Room)).room.cells := Nat.zero_le _
  have hsl : 0 ≤ (headSpec (Cond.code y_M_second b_M_second 4 none :: gw) ({ frames := 0, cells := 0, slots := 0, locals := 0 } : Room)).room.slots := Nat.zero_le _
  subst hsz
  have hD := hD0.self (sz := s.heap.size)
  unfold wB
  generalize hAe : va_A [(q 0, .inr (6, (mF q th F nt ab be))), (q 16, .inl (cI, 13, .inl (fun j => nI (aa j))))] s.heap.size = A at hD ⊢
  have hA : ∀ q : Nat, s.heap.size ≤ q → A q := fun q h => by rw [← hAe]; exact Or.inr h
  have hS : va_S A s.heap s.heap [] := va_S.rf
  have hl := lv_entry ([.ref (q 0), .int (nI wi)]) (n := 4) (Nat.le_of_ble_eq_true rfl)
  rw [lg_entry_eq]
  generalize (lg_sl ([.ref (q 0), .int (nI wi)]) ++ List.replicate (4 - (lg_sl ([.ref (q 0), .int (nI wi)])).length) Slot.unset).toArray = ls at hl ⊢
  have hl : lv_has ls 4 [(0, .ref (q 0)), (1, .int (nI wi))] := hl
  refine lv_iconst (v := nI 1) hx hb d_M_second_0 (by decide) ?_
  refine lv_istore_n (lv' := [(2, .int (nI 1)), (0, .ref (q 0)), (1, .int (nI wi))]) hx hb d_M_second_1 rfl hl (by decide) rfl (fun ls hl => ?_)
  refine l_M_second ⟨hx, hb, hml, hown, hts⟩ hK hF12 hwi haa (fun H locs ls hP hD hS hl => ?_) (F + 1) 0 (by omega) (by omega) s.heap [] ls hP hD hS (lv_sub hl [1, 2, 0] rfl)
  exact W.vret hx hb hr (fun t ht hW => ⟨⟨(), rfl, trivial, by rw [ht]; exact hP, hD⟩, hS.F ht⟩) hS.2.2 d_M_second_69
set_option maxHeartbeats 4000000 in
set_option maxRecDepth 100000 in
theorem c_M_out_b1 (l : Launch) {dC : Nat → ClassId} {dI : Nat → Nat → Nat} {cI cL cT : ClassId} {sa : Nat → Nat} (sz : Nat) (q : Nat → Nat) (th : Int32) (F nt : Nat) (ab be : Int64) (pp aa : Nat → Nat) (p0 : Int32) (hF12 : F ≤ 12) (hbad : ¬ (1 ≤ p0.toInt ∧ p0.toInt ≤ 50)) : Met l y_M_out (Cond.code y_M_out b_M_out 3 (some .int) :: gw) ({ frames := 2, cells := 0, slots := 0, locals := 43 } : Room) (wr dC dI cI cL cT sa [.ref (q 0), .int p0] [(q 0, .inr (6, (mF q th F nt ab be))), (q 1, .inl (cI, 13, .inl (fun j => nI (pp j)))), (q 16, .inl (cI, 13, .inl (fun j => nI (aa j))))] sz) (va_Qi (fun r (_ : Unit) => r = nI 0) (wB dC dI [(q 0, .inr (6, (mF q th F nt ab be))), (q 1, .inl (cI, 13, .inl (fun j => nI (pp j)))), (q 16, .inl (cI, 13, .inl (fun j => nI (aa j))))] [(q 0, .inr (6, (mF q (nI 1) F nt ab be))), (q 1, .inl (cI, 13, .inl (fun j => nI (pp j)))), (q 16, .inl (cI, 13, .inl (fun j => nI (aa j))))] sz) (va_A [(q 0, .inr (6, (mF q th F nt ab be))), (q 1, .inl (cI, 13, .inl (fun j => nI (pp j)))), (q 16, .inl (cI, 13, .inl (fun j => nI (aa j))))] sz)) 0 0 (va_A [(q 0, .inr (6, (mF q th F nt ab be))), (q 1, .inl (cI, 13, .inl (fun j => nI (pp j)))), (q 16, .inl (cI, 13, .inl (fun j => nI (aa j))))] sz) := by
  refine Met.ofW (cc := b_M_out) (maxL := 3) (ret := (some .int)) (by decide) rfl ?_
  intro p e s m args below meth c s₁ B hml hv
  obtain ⟨rfl, hsz, hC, hP, hD0⟩ := hv
  have hx := B.exec
  have hb := B.bytes
  have hr := B.returns
  have hts : ∀ w ∈ gw, w.before ([.ref (q 0), .int p0] : List Value).toArray s = true := fun w hw => atoms_spec (ws := Cond.code y_M_out b_M_out 3 (some .int) :: gw) B.pre w (List.mem_cons_of_mem _ hw)
  have hown : s.vm.findClass R_M = some m.cls := findClass_of_methodNamed B.named
  have hlocks := B.notSynchronized
  have hK := hC.1
  have hfr : 2 ≤ (headSpec (Cond.code y_M_out b_M_out 3 (some .int) :: gw) ({ frames := 2, cells := 0, slots := 0, locals := 43 } : Room)).room.frames := Nat.le_refl _
  have hlo : 43 ≤ (headSpec (Cond.code y_M_out b_M_out 3 (some .int) :: gw) ({ frames := 2, cells := 0, slots := 0, locals := 43 } : Room)).room.locals := Nat.le_refl _
  have hce : 0 ≤ (headSpec (Cond.code y_M_out b_M_out 3 (some .int) :: gw) ({ frames := 2, cells := 0, slots := 0, locals := 43 } : Room)).room.cells := Nat.zero_le _
  have hsl : 0 ≤ (headSpec (Cond.code y_M_out b_M_out 3 (some .int) :: gw) ({ frames := 2, cells := 0, slots := 0, locals := 43 } : Room)).room.slots := Nat.zero_le _
  subst hsz
  have hD := hD0.self (sz := s.heap.size)
  unfold wB
  generalize hAe : va_A [(q 0, .inr (6, (mF q th F nt ab be))), (q 1, .inl (cI, 13, .inl (fun j => nI (pp j)))), (q 16, .inl (cI, 13, .inl (fun j => nI (aa j))))] s.heap.size = A at hD ⊢
  have hA : ∀ q : Nat, s.heap.size ≤ q → A q := fun q h => by rw [← hAe]; exact Or.inr h
  have hS : va_S A s.heap s.heap [] := va_S.rf
  have hl := lv_entry ([.ref (q 0), .int p0]) (n := 3) (Nat.le_of_ble_eq_true rfl)
  rw [lg_entry_eq]
  generalize (lg_sl ([.ref (q 0), .int p0]) ++ List.replicate (3 - (lg_sl ([.ref (q 0), .int p0])).length) Slot.unset).toArray = ls at hl ⊢
  have hl : lv_has ls 3 [(0, .ref (q 0)), (1, .int p0)] := hl
  refine lv_aload_n hx hb d_M_out_0 rfl (lv_at hl 0 rfl) ?_
  refine lv_iload_n hx hb d_M_out_1 rfl (lv_at hl 1 rfl) ?_
  refine lv_iconst (v := nI 1) hx hb d_M_out_2 (by decide) ?_
  refine lv_bipush (v := nI 50) hx hb d_M_out_3 (by decide) ?_
  refine ro_calli (va_runS (As := [.int p0, .int (nI 1), .int (nI 50)]) (rest := [.ref (q 0)]) ⟨hx, hb, hml, hown, hts⟩ (c_M_isIn l p0 (nI 1) (nI 50) 1 50 (nI_toInt (by decide)) (nI_toInt (by decide))) (cwS 3 hts (gw_S k_539 k_537 k_538 k_6) rfl rfl rfl (by decide +kernel) ⟨Nat.le_trans (Nat.le_of_ble_eq_true rfl) hfr, Nat.le_trans (Nat.le_of_ble_eq_true rfl) hlo⟩) ⟨pr_blind, pr_at hC (fun k q h => by simp at h)⟩ rfl rfl hl.1 rfl (lv_room (Nat.le_of_ble_eq_true rfl)) d_M_out_5 ⟨hce, hsl⟩) (fun r9 h9 => ?_)
  subst h9
  refine nx_b_ne (tgt := 15) hx hb d_M_out_8 (by decide) (fun h1 => ?_) (fun h1 => ?_)
  · exact absurd h1 hbad
  · refine lv_iconst (v := nI 1) hx hb d_M_out_11 (by decide) ?_
    refine lv_goto (tgt := 16) hx hb d_M_out_12 (by decide) ?_
    refine va_put (D := (dC, dI)) (ci := 6) (v := .int (nI 1)) (ty := (.int)) (C := R_M) (T := F_M) (N := 17) hx hb hts i_M ft_M ft_M_ok n_M hown hK hP hD hS 0 rfl rfl 0 (by decide) (hts _ k_477) (fun _ h9 => h9) rfl (by decide +kernel) rfl rfl (Nat.le_of_ble_eq_true rfl) d_M_out_16 (fun H locs hP hD hS => ?_)
    have hP : va_P (dC, dI) vwCl [(q 0, .inr (6, (mF q (nI 1) F nt ab be))), (q 1, .inl (cI, 13, .inl (fun j => nI (pp j)))), (q 16, .inl (cI, 13, .inl (fun j => nI (aa j))))] H := hP
    have hD : va_D A [(q 0, .inr (6, (mF q (nI 1) F nt ab be))), (q 1, .inl (cI, 13, .inl (fun j => nI (pp j)))), (q 16, .inl (cI, 13, .inl (fun j => nI (aa j))))] := hD
    refine lv_aload_n hx hb d_M_out_19 rfl (lv_at hl 0 rfl) ?_
    refine va_get (D := (dC, dI)) (ci := 6) (v := .int (nI 1)) (C := R_M) (T := F_M) (N := 17) hx hb hts i_M hown hK hP 0 rfl rfl 0 (by decide) (hts _ k_477) (fun _ h9 => h9) rfl d_M_out_20 ?_
    refine nx_if_le (tgt := 28) hx hb d_M_out_23 (by decide) (by omega) (fun h9 => ?_) (fun h9 => ?_)
    · exact absurd h9 (by omega)
    · refine lv_iconst (v := nI 0) hx hb d_M_out_26 (by decide) ?_
      exact W.iret hx hb hr (fun t ht hW => ⟨⟨_, (), rfl, rfl, by rw [ht]; exact hP, hD⟩, hS.F ht⟩) hS.2.2 d_M_out_27
section
variable {p : Program} {l : Launch} {e : Env} {R : Room} {s : State} {m : MethodId} {args : Array Value} {below : List Frame} {meth : Method} {c : Code} {cells slots : Nat} {Q : State → Prop} {A : Nat → Prop}
variable {dC : Nat → ClassId} {dI : Nat → Nat → Nat} {cI cL cT : ClassId} {sa : Nat → Nat}
set_option maxHeartbeats 4000000 in
set_option maxRecDepth 100000 in
theorem l_M_out (hF : CallFix p m c b_M_out 3 s args gw R_M) (hC : CT dC dI cI cL cT sa s) {q : Nat → Nat} {F nt : Nat} {ab be : Int64} {pp a0 : Nat → Nat} {wi : Nat} (hF12 : F ≤ 12) (hwi : wi ≤ 50) (hs2 : sm a0 1 F ≤ 200) {n : Nat} (hn : n ≤ 212) (ho : isOut wi F a0 n) (hfr : 2 ≤ R.frames) (hlo : 43 ≤ R.locals) (hce : cells ≤ R.cells) (hsl : slots ≤ R.slots) (hA : ∀ q : Nat, s.heap.size ≤ q → A q) (kend : ∀ (H : Heap) (locs : List Loc) (ls : Array Slot), va_P (dC, dI) vwCl [(q 0, .inr (6, (mF q (nI 0) F nt ab be))), (q 1, .inl (cI, 13, .inl (fun j => nI (pp j)))), (q 16, .inl (cI, 13, .inl (fun j => nI ((it wi F a0 n) j))))] H → va_D A [(q 0, .inr (6, (mF q (nI 0) F nt ab be))), (q 1, .inl (cI, 13, .inl (fun j => nI (pp j)))), (q 16, .inl (cI, 13, .inl (fun j => nI ((it wi F a0 n) j))))] → va_S A s.heap H locs → lv_has ls 3 [(0, .ref (q 0)), (1, .int (nI wi)), (2, .int (nI n))] → W p l e R s m args below meth c H locs cells slots Q (F0 m 52 ls [])) : ∀ j i : Nat, n - i < j → i ≤ n → ∀ (H : Heap) (locs : List Loc) (ls : Array Slot), va_P (dC, dI) vwCl [(q 0, .inr (6, (mF q (nI 0) F nt ab be))), (q 1, .inl (cI, 13, .inl (fun j => nI (pp j)))), (q 16, .inl (cI, 13, .inl (fun j => nI ((it wi F a0 i) j))))] H → va_D A [(q 0, .inr (6, (mF q (nI 0) F nt ab be))), (q 1, .inl (cI, 13, .inl (fun j => nI (pp j)))), (q 16, .inl (cI, 13, .inl (fun j => nI ((it wi F a0 i) j))))] → va_S A s.heap H locs → lv_has ls 3 [(0, .ref (q 0)), (1, .int (nI wi)), (2, .int (nI i))] → W p l e R s m args below meth c H locs cells slots Q (F0 m 34 ls []) := by
  obtain ⟨hx, hb, hml, hown, hts⟩ := id hF
  have hK := hC.1
  intro j
  induction j with
  | zero => intro i hj; omega
  | succ j ih =>
    intro i hj hi H locs ls hP hD hS hl
    have hle := it_sm_le wi F a0 i
    refine lv_aload_n hx hb d_M_out_34 rfl (lv_at hl 0 rfl) ?_
    refine ro_calli (va_runV (As := []) (rest := []) ⟨hx, hb, hml, hown, hts⟩ (c_M_inside l q (nI 0) F nt ab be (it wi F a0 i) hF12) (cwV 0 hts (gw_V k_644 k_641 k_643 ks_M_inside k_6) rfl rfl rfl (by decide +kernel) ⟨Nat.le_trans (Nat.le_of_ble_eq_true rfl) hfr, Nat.le_trans (Nat.le_of_ble_eq_true rfl) hlo⟩) ⟨pr_blind, va_recv hK hP (ci := 6) (q0 := 0) rfl rfl, pr_at hC (hP.sub (ws' := [(q 0, .inr (6, (mF q (nI 0) F nt ab be))), (q 16, .inl (cI, 13, .inl (fun j => nI ((it wi F a0 i) j))))]) [0, 2] rfl)⟩ rfl rfl hl.1 rfl (lv_room (Nat.le_of_ble_eq_true rfl)) d_M_out_35 ⟨hce, hsl⟩) (fun r9 h9 => ?_)
    subst h9
    refine nx_if_le (tgt := 52) hx hb d_M_out_38 (by decide) (by omega) (fun h1 => ?_) (fun h1 => ?_)
    · have hie : i = n := Classical.byContradiction fun z => ho.2 i (by omega) h1
      subst hie
      exact kend H locs ls hP hD hS hl
    · have hlt : i < n := isOut_lt ho hi h1
      refine lv_aload_n hx hb d_M_out_41 rfl (lv_at hl 0 rfl) ?_
      refine lv_iload_n hx hb d_M_out_42 rfl (lv_at hl 1 rfl) ?_
      have hPc := hP.sub (ws' := [(q 0, .inr (6, (mF q (nI 0) F nt ab be))), (q 16, .inl (cI, 13, .inl (fun j => nI ((it wi F a0 i) j))))]) [0, 2] rfl
      have hDc := hD.sub (ws' := [(q 0, .inr (6, (mF q (nI 0) F nt ab be))), (q 16, .inl (cI, 13, .inl (fun j => nI ((it wi F a0 i) j))))]) [0, 2] (by decide) rfl
      have hFc := va_free (wc := [(q 0, .inr (6, (mF q (nI 0) F nt ab be))), (q 16, .inl (cI, 13, .inl (fun j => nI ((it wi F a0 i) j))))]) hD hS hA [0, 2] rfl
      refine va_callv (va_runV (As := [.int (nI wi)]) (rest := []) ⟨hx, hb, hml, hown, hts⟩ (c_M_second l _ q (nI 0) F nt ab be (it wi F a0 i) wi hF12 hwi (fun j h1 h2 => Nat.lt_of_le_of_lt (it_le h1 h2) (by omega))) (cwV 1 hts (gw_V k_648 k_645 k_647 ks_M_second k_6) rfl rfl rfl (by decide +kernel) ⟨Nat.le_trans (Nat.le_of_ble_eq_true rfl) hfr, Nat.le_trans (Nat.le_of_ble_eq_true rfl) hlo⟩) ⟨wr_blind, va_recv hK hP (ci := 6) (q0 := 0) rfl rfl, wr_at hC hPc hDc⟩ rfl rfl hl.1 rfl (lv_room (Nat.le_of_ble_eq_true rfl)) d_M_out_43 ⟨hce, hsl⟩) hS (fun q _ h => hFc q h) hFc (fun u t H1 locs ht hvm hw hB hz1 hk1 hS => ?_)
      obtain ⟨hP1, hD1⟩ := hB
      rw [ht] at hP1
      obtain ⟨hP, hD⟩ := va_join (wr := [(q 1, .inl (cI, 13, .inl (fun j => nI (pp j))))]) (w1 := [(q 0, .inr (6, (mF q (nI 0) F nt ab be))), (q 16, .inl (cI, 13, .inl (fun j => nI ((it wi F a0 (i + 1)) j))))]) hP hD [0, 2] [1] rfl rfl (by decide) (by decide) hk1 hFc hP1 hD1
      generalize H1 = H at hP hS ⊢
      have hP := hP.sub (ws' := [(q 0, .inr (6, (mF q (nI 0) F nt ab be))), (q 1, .inl (cI, 13, .inl (fun j => nI (pp j)))), (q 16, .inl (cI, 13, .inl (fun j => nI ((it wi F a0 (i + 1)) j))))]) [1, 0, 2] rfl
      have hD := hD.sub (ws' := [(q 0, .inr (6, (mF q (nI 0) F nt ab be))), (q 1, .inl (cI, 13, .inl (fun j => nI (pp j)))), (q 16, .inl (cI, 13, .inl (fun j => nI ((it wi F a0 (i + 1)) j))))]) [1, 0, 2] (by decide) rfl
      refine nx_inc (lv' := [(2, .int (nI (i + 1))), (0, .ref (q 0)), (1, .int (nI wi))]) hx hb d_M_out_46 hl (k := 2) rfl (by decide) rfl (fun ls hl => ?_)
      refine lv_goto (tgt := 34) hx hb d_M_out_49 (by decide) ?_
      exact ih (i + 1) (by omega) (by omega) H locs ls hP hD hS (lv_sub hl [1, 2, 0] rfl)
end
set_option maxHeartbeats 4000000 in
set_option maxRecDepth 100000 in
theorem c_M_out (l : Launch) {dC : Nat → ClassId} {dI : Nat → Nat → Nat} {cI cL cT : ClassId} {sa : Nat → Nat} (sz : Nat) (q : Nat → Nat) (th : Int32) (F nt : Nat) (ab be : Int64) (pp aa : Nat → Nat) (wi n : Nat) (hF12 : F ≤ 12) (hw1 : 1 ≤ wi) (hwi : wi ≤ 50) (hE : sm pp 1 F ≤ 200) (hn : n ≤ 212) (ho : isOut wi F (bgK pp F aa 13) n) : Met l y_M_out (Cond.code y_M_out b_M_out 3 (some .int) :: gw) ({ frames := 2, cells := 0, slots := 0, locals := 43 } : Room) (wr dC dI cI cL cT sa [.ref (q 0), .int (nI wi)] [(q 0, .inr (6, (mF q th F nt ab be))), (q 1, .inl (cI, 13, .inl (fun j => nI (pp j)))), (q 16, .inl (cI, 13, .inl (fun j => nI (aa j))))] sz) (va_Qi (fun r (_ : Unit) => r = nI n) (wB dC dI [(q 0, .inr (6, (mF q th F nt ab be))), (q 1, .inl (cI, 13, .inl (fun j => nI (pp j)))), (q 16, .inl (cI, 13, .inl (fun j => nI (aa j))))] [(q 0, .inr (6, (mF q (nI 0) F nt ab be))), (q 1, .inl (cI, 13, .inl (fun j => nI (pp j)))), (q 16, .inl (cI, 13, .inl (fun j => nI ((it wi F (bgK pp F aa 13) n) j))))] sz) (va_A [(q 0, .inr (6, (mF q th F nt ab be))), (q 1, .inl (cI, 13, .inl (fun j => nI (pp j)))), (q 16, .inl (cI, 13, .inl (fun j => nI (aa j))))] sz)) 0 0 (va_A [(q 0, .inr (6, (mF q th F nt ab be))), (q 1, .inl (cI, 13, .inl (fun j => nI (pp j)))), (q 16, .inl (cI, 13, .inl (fun j => nI (aa j))))] sz) := by
  refine Met.ofW (cc := b_M_out) (maxL := 3) (ret := (some .int)) (by decide) rfl ?_
  intro p e s m args below meth c s₁ B hml hv
  obtain ⟨rfl, hsz, hC, hP, hD0⟩ := hv
  have hx := B.exec
  have hb := B.bytes
  have hr := B.returns
  have hts : ∀ w ∈ gw, w.before ([.ref (q 0), .int (nI wi)] : List Value).toArray s = true := fun w hw => atoms_spec (ws := Cond.code y_M_out b_M_out 3 (some .int) :: gw) B.pre w (List.mem_cons_of_mem _ hw)
  have hown : s.vm.findClass R_M = some m.cls := findClass_of_methodNamed B.named
  have hlocks := B.notSynchronized
  have hK := hC.1
  have hfr : 2 ≤ (headSpec (Cond.code y_M_out b_M_out 3 (some .int) :: gw) ({ frames := 2, cells := 0, slots := 0, locals := 43 } : Room)).room.frames := Nat.le_refl _
  have hlo : 43 ≤ (headSpec (Cond.code y_M_out b_M_out 3 (some .int) :: gw) ({ frames := 2, cells := 0, slots := 0, locals := 43 } : Room)).room.locals := Nat.le_refl _
  have hce : 0 ≤ (headSpec (Cond.code y_M_out b_M_out 3 (some .int) :: gw) ({ frames := 2, cells := 0, slots := 0, locals := 43 } : Room)).room.cells := Nat.zero_le _
  have hsl : 0 ≤ (headSpec (Cond.code y_M_out b_M_out 3 (some .int) :: gw) ({ frames := 2, cells := 0, slots := 0, locals := 43 } : Room)).room.slots := Nat.zero_le _
  subst hsz
  have hD := hD0.self (sz := s.heap.size)
  unfold wB
  generalize hAe : va_A [(q 0, .inr (6, (mF q th F nt ab be))), (q 1, .inl (cI, 13, .inl (fun j => nI (pp j)))), (q 16, .inl (cI, 13, .inl (fun j => nI (aa j))))] s.heap.size = A at hD ⊢
  have hA : ∀ q : Nat, s.heap.size ≤ q → A q := fun q h => by rw [← hAe]; exact Or.inr h
  have hS : va_S A s.heap s.heap [] := va_S.rf
  have hl := lv_entry ([.ref (q 0), .int (nI wi)]) (n := 3) (Nat.le_of_ble_eq_true rfl)
  rw [lg_entry_eq]
  generalize (lg_sl ([.ref (q 0), .int (nI wi)]) ++ List.replicate (3 - (lg_sl ([.ref (q 0), .int (nI wi)])).length) Slot.unset).toArray = ls at hl ⊢
  have hl : lv_has ls 3 [(0, .ref (q 0)), (1, .int (nI wi))] := hl
  have hs2 : sm (bgK pp F aa 13) 1 F ≤ 200 := by rw [bg_sm hF12]; exact hE
  refine lv_aload_n hx hb d_M_out_0 rfl (lv_at hl 0 rfl) ?_
  refine lv_iload_n hx hb d_M_out_1 rfl (lv_at hl 1 rfl) ?_
  refine lv_iconst (v := nI 1) hx hb d_M_out_2 (by decide) ?_
  refine lv_bipush (v := nI 50) hx hb d_M_out_3 (by decide) ?_
  refine ro_calli (va_runS (As := [.int (nI wi), .int (nI 1), .int (nI 50)]) (rest := [.ref (q 0)]) ⟨hx, hb, hml, hown, hts⟩ (c_M_isInN l wi 1 50 (by omega) (by decide) (by decide)) (cwS 3 hts (gw_S k_539 k_537 k_538 k_6) rfl rfl rfl (by decide +kernel) ⟨Nat.le_trans (Nat.le_of_ble_eq_true rfl) hfr, Nat.le_trans (Nat.le_of_ble_eq_true rfl) hlo⟩) ⟨pr_blind, pr_at hC (fun k q h => by simp at h)⟩ rfl rfl hl.1 rfl (lv_room (Nat.le_of_ble_eq_true rfl)) d_M_out_5 ⟨hce, hsl⟩) (fun r9 h9 => ?_)
  subst h9
  refine nx_b_ne (tgt := 15) hx hb d_M_out_8 (by decide) (fun h1 => ?_) (fun h1 => ?_)
  · refine lv_iconst (v := nI 0) hx hb d_M_out_15 (by decide) ?_
    refine va_put (D := (dC, dI)) (ci := 6) (v := .int (nI 0)) (ty := (.int)) (C := R_M) (T := F_M) (N := 17) hx hb hts i_M ft_M ft_M_ok n_M hown hK hP hD hS 0 rfl rfl 0 (by decide) (hts _ k_477) (fun _ h9 => h9) rfl (by decide +kernel) rfl rfl (Nat.le_of_ble_eq_true rfl) d_M_out_16 (fun H locs hP hD hS => ?_)
    have hP : va_P (dC, dI) vwCl [(q 0, .inr (6, (mF q (nI 0) F nt ab be))), (q 1, .inl (cI, 13, .inl (fun j => nI (pp j)))), (q 16, .inl (cI, 13, .inl (fun j => nI (aa j))))] H := hP
    have hD : va_D A [(q 0, .inr (6, (mF q (nI 0) F nt ab be))), (q 1, .inl (cI, 13, .inl (fun j => nI (pp j)))), (q 16, .inl (cI, 13, .inl (fun j => nI (aa j))))] := hD
    refine lv_aload_n hx hb d_M_out_19 rfl (lv_at hl 0 rfl) ?_
    refine va_get (D := (dC, dI)) (ci := 6) (v := .int (nI 0)) (C := R_M) (T := F_M) (N := 17) hx hb hts i_M hown hK hP 0 rfl rfl 0 (by decide) (hts _ k_477) (fun _ h9 => h9) rfl d_M_out_20 ?_
    refine nx_if_le (tgt := 28) hx hb d_M_out_23 (by decide) (by omega) (fun h9 => ?_) (fun h9 => ?_)
    · refine lv_aload_n hx hb d_M_out_28 rfl (lv_at hl 0 rfl) ?_
      have hPc := hP.sub (ws' := [(q 0, .inr (6, (mF q (nI 0) F nt ab be))), (q 1, .inl (cI, 13, .inl (fun j => nI (pp j)))), (q 16, .inl (cI, 13, .inl (fun j => nI (aa j))))]) [0, 1, 2] rfl
      have hDc := hD.sub (ws' := [(q 0, .inr (6, (mF q (nI 0) F nt ab be))), (q 1, .inl (cI, 13, .inl (fun j => nI (pp j)))), (q 16, .inl (cI, 13, .inl (fun j => nI (aa j))))]) [0, 1, 2] (by decide) rfl
      have hFc := va_free (wc := [(q 0, .inr (6, (mF q (nI 0) F nt ab be))), (q 1, .inl (cI, 13, .inl (fun j => nI (pp j)))), (q 16, .inl (cI, 13, .inl (fun j => nI (aa j))))]) hD hS hA [0, 1, 2] rfl
      refine va_callv (va_runV (As := []) (rest := []) ⟨hx, hb, hml, hown, hts⟩ (c_M_begin l _ q (nI 0) F nt ab be pp aa hF12) (cwV 0 hts (gw_V k_640 k_637 k_639 ks_M_begin k_6) rfl rfl rfl (by decide +kernel) ⟨Nat.le_trans (Nat.le_of_ble_eq_true rfl) hfr, Nat.le_trans (Nat.le_of_ble_eq_true rfl) hlo⟩) ⟨wr_blind, va_recv hK hP (ci := 6) (q0 := 0) rfl rfl, wr_at hC hPc hDc⟩ rfl rfl hl.1 rfl (lv_room (Nat.le_of_ble_eq_true rfl)) d_M_out_29 ⟨hce, hsl⟩) hS (fun q _ h => hFc q h) hFc (fun u t H1 locs ht hvm hw hB hz1 hk1 hS => ?_)
      obtain ⟨hP1, hD1⟩ := hB
      rw [ht] at hP1
      obtain ⟨hP, hD⟩ := va_join (wr := []) (w1 := [(q 0, .inr (6, (mF q (nI 0) F nt ab be))), (q 1, .inl (cI, 13, .inl (fun j => nI (pp j)))), (q 16, .inl (cI, 13, .inl (fun j => nI ((bgK pp F aa 13) j))))]) hP hD [0, 1, 2] [] rfl rfl (by decide) (by decide) hk1 hFc hP1 hD1
      generalize H1 = H at hP hS ⊢
      have hP := hP.sub (ws' := [(q 0, .inr (6, (mF q (nI 0) F nt ab be))), (q 1, .inl (cI, 13, .inl (fun j => nI (pp j)))), (q 16, .inl (cI, 13, .inl (fun j => nI ((bgK pp F aa 13) j))))]) [0, 1, 2] rfl
      have hD := hD.sub (ws' := [(q 0, .inr (6, (mF q (nI 0) F nt ab be))), (q 1, .inl (cI, 13, .inl (fun j => nI (pp j)))), (q 16, .inl (cI, 13, .inl (fun j => nI ((bgK pp F aa 13) j))))]) [0, 1, 2] (by decide) rfl
      refine lv_iconst (v := nI 0) hx hb d_M_out_32 (by decide) ?_
      refine lv_istore_n (lv' := [(2, .int (nI 0)), (0, .ref (q 0)), (1, .int (nI wi))]) hx hb d_M_out_33 rfl hl (by decide) rfl (fun ls hl => ?_)
      refine l_M_out ⟨hx, hb, hml, hown, hts⟩ hC hF12 hwi hs2 hn ho hfr hlo hce hsl hA (fun H locs ls hP hD hS hl => ?_) (n + 1) 0 (by omega) (by omega) H locs ls hP hD hS (lv_sub hl [1, 2, 0] rfl)
      refine lv_iload_n hx hb d_M_out_52 rfl (lv_at hl 2 rfl) ?_
      exact W.iret hx hb hr (fun t ht hW => ⟨⟨_, (), rfl, rfl, by rw [ht]; exact hP, hD⟩, hS.F ht⟩) hS.2.2 d_M_out_53
    · exact absurd h9 (by omega)
  · exact absurd (show 1 ≤ wi ∧ wi ≤ 50 by omega) h1
set_option maxHeartbeats 4000000 in
set_option maxRecDepth 100000 in
theorem c_M_there_b1 (l : Launch) {dC : Nat → ClassId} {dI : Nat → Nat → Nat} {cI cL cT : ClassId} {sa : Nat → Nat} (sz : Nat) (q : Nat → Nat) (th : Int32) (F nt : Nat) (ab be : Int64) (pp aa : Nat → Nat) (p0 p1 p2 : Int32) (hF12 : F ≤ 12) (hbad : ¬ ((1 ≤ p0.toInt ∧ p0.toInt ≤ 50) ∧ okFl F p1 ∧ (0 ≤ p2.toInt ∧ p2.toInt ≤ 1000))) : Met l y_M_there (Cond.code y_M_there b_M_there 5 (some .int) :: gw) ({ frames := 2, cells := 0, slots := 0, locals := 43 } : Room) (wr dC dI cI cL cT sa [.ref (q 0), .int p0, .int p1, .int p2] [(q 0, .inr (6, (mF q th F nt ab be))), (q 1, .inl (cI, 13, .inl (fun j => nI (pp j)))), (q 16, .inl (cI, 13, .inl (fun j => nI (aa j))))] sz) (va_Qi (fun r (_ : Unit) => r = nI 0) (wB dC dI [(q 0, .inr (6, (mF q th F nt ab be))), (q 1, .inl (cI, 13, .inl (fun j => nI (pp j)))), (q 16, .inl (cI, 13, .inl (fun j => nI (aa j))))] [(q 0, .inr (6, (mF q (nI 1) F nt ab be))), (q 1, .inl (cI, 13, .inl (fun j => nI (pp j)))), (q 16, .inl (cI, 13, .inl (fun j => nI (aa j))))] sz) (va_A [(q 0, .inr (6, (mF q th F nt ab be))), (q 1, .inl (cI, 13, .inl (fun j => nI (pp j)))), (q 16, .inl (cI, 13, .inl (fun j => nI (aa j))))] sz)) 0 0 (va_A [(q 0, .inr (6, (mF q th F nt ab be))), (q 1, .inl (cI, 13, .inl (fun j => nI (pp j)))), (q 16, .inl (cI, 13, .inl (fun j => nI (aa j))))] sz) := by
  refine Met.ofW (cc := b_M_there) (maxL := 5) (ret := (some .int)) (by decide) rfl ?_
  intro p e s m args below meth c s₁ B hml hv
  obtain ⟨rfl, hsz, hC, hP, hD0⟩ := hv
  have hx := B.exec
  have hb := B.bytes
  have hr := B.returns
  have hts : ∀ w ∈ gw, w.before ([.ref (q 0), .int p0, .int p1, .int p2] : List Value).toArray s = true := fun w hw => atoms_spec (ws := Cond.code y_M_there b_M_there 5 (some .int) :: gw) B.pre w (List.mem_cons_of_mem _ hw)
  have hown : s.vm.findClass R_M = some m.cls := findClass_of_methodNamed B.named
  have hlocks := B.notSynchronized
  have hK := hC.1
  have hfr : 2 ≤ (headSpec (Cond.code y_M_there b_M_there 5 (some .int) :: gw) ({ frames := 2, cells := 0, slots := 0, locals := 43 } : Room)).room.frames := Nat.le_refl _
  have hlo : 43 ≤ (headSpec (Cond.code y_M_there b_M_there 5 (some .int) :: gw) ({ frames := 2, cells := 0, slots := 0, locals := 43 } : Room)).room.locals := Nat.le_refl _
  have hce : 0 ≤ (headSpec (Cond.code y_M_there b_M_there 5 (some .int) :: gw) ({ frames := 2, cells := 0, slots := 0, locals := 43 } : Room)).room.cells := Nat.zero_le _
  have hsl : 0 ≤ (headSpec (Cond.code y_M_there b_M_there 5 (some .int) :: gw) ({ frames := 2, cells := 0, slots := 0, locals := 43 } : Room)).room.slots := Nat.zero_le _
  subst hsz
  have hD := hD0.self (sz := s.heap.size)
  unfold wB
  generalize hAe : va_A [(q 0, .inr (6, (mF q th F nt ab be))), (q 1, .inl (cI, 13, .inl (fun j => nI (pp j)))), (q 16, .inl (cI, 13, .inl (fun j => nI (aa j))))] s.heap.size = A at hD ⊢
  have hA : ∀ q : Nat, s.heap.size ≤ q → A q := fun q h => by rw [← hAe]; exact Or.inr h
  have hS : va_S A s.heap s.heap [] := va_S.rf
  have hl := lv_entry ([.ref (q 0), .int p0, .int p1, .int p2]) (n := 5) (Nat.le_of_ble_eq_true rfl)
  rw [lg_entry_eq]
  generalize (lg_sl ([.ref (q 0), .int p0, .int p1, .int p2]) ++ List.replicate (5 - (lg_sl ([.ref (q 0), .int p0, .int p1, .int p2])).length) Slot.unset).toArray = ls at hl ⊢
  have hl : lv_has ls 5 [(0, .ref (q 0)), (1, .int p0), (2, .int p1), (3, .int p2)] := hl
  refine lv_aload_n hx hb d_M_there_0 rfl (lv_at hl 0 rfl) ?_
  refine lv_iload_n hx hb d_M_there_1 rfl (lv_at hl 1 rfl) ?_
  refine lv_iconst (v := nI 1) hx hb d_M_there_2 (by decide) ?_
  refine lv_bipush (v := nI 50) hx hb d_M_there_3 (by decide) ?_
  refine ro_calli (va_runS (As := [.int p0, .int (nI 1), .int (nI 50)]) (rest := [.ref (q 0)]) ⟨hx, hb, hml, hown, hts⟩ (c_M_isIn l p0 (nI 1) (nI 50) 1 50 (nI_toInt (by decide)) (nI_toInt (by decide))) (cwS 3 hts (gw_S k_539 k_537 k_538 k_6) rfl rfl rfl (by decide +kernel) ⟨Nat.le_trans (Nat.le_of_ble_eq_true rfl) hfr, Nat.le_trans (Nat.le_of_ble_eq_true rfl) hlo⟩) ⟨pr_blind, pr_at hC (fun k q h => by simp at h)⟩ rfl rfl hl.1 rfl (lv_room (Nat.le_of_ble_eq_true rfl)) d_M_there_5 ⟨hce, hsl⟩) (fun r9 h9 => ?_)
  subst h9
  refine nx_b_eq (tgt := 30) hx hb d_M_there_8 (by decide) (fun h1 => ?_) (fun h1 => ?_)
  · refine lv_iconst (v := nI 1) hx hb d_M_there_30 (by decide) ?_
    refine lv_goto (tgt := 35) hx hb d_M_there_31 (by decide) ?_
    refine va_put (D := (dC, dI)) (ci := 6) (v := .int (nI 1)) (ty := (.int)) (C := R_M) (T := F_M) (N := 17) hx hb hts i_M ft_M ft_M_ok n_M hown hK hP hD hS 0 rfl rfl 0 (by decide) (hts _ k_477) (fun _ h9 => h9) rfl (by decide +kernel) rfl rfl (Nat.le_of_ble_eq_true rfl) d_M_there_35 (fun H locs hP hD hS => ?_)
    have hP : va_P (dC, dI) vwCl [(q 0, .inr (6, (mF q (nI 1) F nt ab be))), (q 1, .inl (cI, 13, .inl (fun j => nI (pp j)))), (q 16, .inl (cI, 13, .inl (fun j => nI (aa j))))] H := hP
    have hD : va_D A [(q 0, .inr (6, (mF q (nI 1) F nt ab be))), (q 1, .inl (cI, 13, .inl (fun j => nI (pp j)))), (q 16, .inl (cI, 13, .inl (fun j => nI (aa j))))] := hD
    refine lv_aload_n hx hb d_M_there_38 rfl (lv_at hl 0 rfl) ?_
    refine va_get (D := (dC, dI)) (ci := 6) (v := .int (nI 1)) (C := R_M) (T := F_M) (N := 17) hx hb hts i_M hown hK hP 0 rfl rfl 0 (by decide) (hts _ k_477) (fun _ h9 => h9) rfl d_M_there_39 ?_
    refine nx_if_le (tgt := 47) hx hb d_M_there_42 (by decide) (by omega) (fun h9 => ?_) (fun h9 => ?_)
    · exact absurd h9 (by omega)
    · refine lv_iconst (v := nI 0) hx hb d_M_there_45 (by decide) ?_
      exact W.iret hx hb hr (fun t ht hW => ⟨⟨_, (), rfl, rfl, by rw [ht]; exact hP, hD⟩, hS.F ht⟩) hS.2.2 d_M_there_46
  · refine lv_aload_n hx hb d_M_there_11 rfl (lv_at hl 0 rfl) ?_
    refine lv_iload_n hx hb d_M_there_12 rfl (lv_at hl 2 rfl) ?_
    refine ro_calli (va_runV (As := [.int p1]) (rest := [.ref (q 0)]) ⟨hx, hb, hml, hown, hts⟩ (c_M_noFloor l q th F nt ab be p1 hF12) (cwV 1 hts (gw_V k_551 k_548 k_550 ks_M_noFloor k_6) rfl rfl rfl (by decide +kernel) ⟨Nat.le_trans (Nat.le_of_ble_eq_true rfl) hfr, Nat.le_trans (Nat.le_of_ble_eq_true rfl) hlo⟩) ⟨pr_blind, va_recv hK hP (ci := 6) (q0 := 0) rfl rfl, pr_at hC (hP.sub (ws' := [(q 0, .inr (6, (mF q th F nt ab be)))]) [0] rfl)⟩ rfl rfl hl.1 rfl (lv_room (Nat.le_of_ble_eq_true rfl)) d_M_there_13 ⟨hce, hsl⟩) (fun r9 h9 => ?_)
    subst h9
    refine nx_b_ne (tgt := 30) hx hb d_M_there_16 (by decide) (fun h2 => ?_) (fun h2 => ?_)
    · refine lv_iconst (v := nI 1) hx hb d_M_there_30 (by decide) ?_
      refine lv_goto (tgt := 35) hx hb d_M_there_31 (by decide) ?_
      refine va_put (D := (dC, dI)) (ci := 6) (v := .int (nI 1)) (ty := (.int)) (C := R_M) (T := F_M) (N := 17) hx hb hts i_M ft_M ft_M_ok n_M hown hK hP hD hS 0 rfl rfl 0 (by decide) (hts _ k_477) (fun _ h9 => h9) rfl (by decide +kernel) rfl rfl (Nat.le_of_ble_eq_true rfl) d_M_there_35 (fun H locs hP hD hS => ?_)
      have hP : va_P (dC, dI) vwCl [(q 0, .inr (6, (mF q (nI 1) F nt ab be))), (q 1, .inl (cI, 13, .inl (fun j => nI (pp j)))), (q 16, .inl (cI, 13, .inl (fun j => nI (aa j))))] H := hP
      have hD : va_D A [(q 0, .inr (6, (mF q (nI 1) F nt ab be))), (q 1, .inl (cI, 13, .inl (fun j => nI (pp j)))), (q 16, .inl (cI, 13, .inl (fun j => nI (aa j))))] := hD
      refine lv_aload_n hx hb d_M_there_38 rfl (lv_at hl 0 rfl) ?_
      refine va_get (D := (dC, dI)) (ci := 6) (v := .int (nI 1)) (C := R_M) (T := F_M) (N := 17) hx hb hts i_M hown hK hP 0 rfl rfl 0 (by decide) (hts _ k_477) (fun _ h9 => h9) rfl d_M_there_39 ?_
      refine nx_if_le (tgt := 47) hx hb d_M_there_42 (by decide) (by omega) (fun h9 => ?_) (fun h9 => ?_)
      · exact absurd h9 (by omega)
      · refine lv_iconst (v := nI 0) hx hb d_M_there_45 (by decide) ?_
        exact W.iret hx hb hr (fun t ht hW => ⟨⟨_, (), rfl, rfl, by rw [ht]; exact hP, hD⟩, hS.F ht⟩) hS.2.2 d_M_there_46
    · refine lv_iload_n hx hb d_M_there_19 rfl (lv_at hl 3 rfl) ?_
      refine lv_iconst (v := nI 0) hx hb d_M_there_20 (by decide) ?_
      refine lv_sipush (v := nI 1000) hx hb d_M_there_21 (by decide) ?_
      refine ro_calli (va_runS (As := [.int p2, .int (nI 0), .int (nI 1000)]) (rest := [.ref (q 0)]) ⟨hx, hb, hml, hown, hts⟩ (c_M_isIn l p2 (nI 0) (nI 1000) 0 1000 (nI_toInt (by decide)) (nI_toInt (by decide))) (cwS 3 hts (gw_S k_539 k_537 k_538 k_6) rfl rfl rfl (by decide +kernel) ⟨Nat.le_trans (Nat.le_of_ble_eq_true rfl) hfr, Nat.le_trans (Nat.le_of_ble_eq_true rfl) hlo⟩) ⟨pr_blind, pr_at hC (fun k q h => by simp at h)⟩ rfl rfl hl.1 rfl (lv_room (Nat.le_of_ble_eq_true rfl)) d_M_there_24 ⟨hce, hsl⟩) (fun r9 h9 => ?_)
      subst h9
      refine nx_b_ne (tgt := 34) hx hb d_M_there_27 (by decide) (fun h3 => ?_) (fun h3 => ?_)
      · exact absurd ⟨h1, Classical.not_not.mp h2, h3⟩ hbad
      · refine lv_iconst (v := nI 1) hx hb d_M_there_30 (by decide) ?_
        refine lv_goto (tgt := 35) hx hb d_M_there_31 (by decide) ?_
        refine va_put (D := (dC, dI)) (ci := 6) (v := .int (nI 1)) (ty := (.int)) (C := R_M) (T := F_M) (N := 17) hx hb hts i_M ft_M ft_M_ok n_M hown hK hP hD hS 0 rfl rfl 0 (by decide) (hts _ k_477) (fun _ h9 => h9) rfl (by decide +kernel) rfl rfl (Nat.le_of_ble_eq_true rfl) d_M_there_35 (fun H locs hP hD hS => ?_)
        have hP : va_P (dC, dI) vwCl [(q 0, .inr (6, (mF q (nI 1) F nt ab be))), (q 1, .inl (cI, 13, .inl (fun j => nI (pp j)))), (q 16, .inl (cI, 13, .inl (fun j => nI (aa j))))] H := hP
        have hD : va_D A [(q 0, .inr (6, (mF q (nI 1) F nt ab be))), (q 1, .inl (cI, 13, .inl (fun j => nI (pp j)))), (q 16, .inl (cI, 13, .inl (fun j => nI (aa j))))] := hD
        refine lv_aload_n hx hb d_M_there_38 rfl (lv_at hl 0 rfl) ?_
        refine va_get (D := (dC, dI)) (ci := 6) (v := .int (nI 1)) (C := R_M) (T := F_M) (N := 17) hx hb hts i_M hown hK hP 0 rfl rfl 0 (by decide) (hts _ k_477) (fun _ h9 => h9) rfl d_M_there_39 ?_
        refine nx_if_le (tgt := 47) hx hb d_M_there_42 (by decide) (by omega) (fun h9 => ?_) (fun h9 => ?_)
        · exact absurd h9 (by omega)
        · refine lv_iconst (v := nI 0) hx hb d_M_there_45 (by decide) ?_
          exact W.iret hx hb hr (fun t ht hW => ⟨⟨_, (), rfl, rfl, by rw [ht]; exact hP, hD⟩, hS.F ht⟩) hS.2.2 d_M_there_46
section
variable {p : Program} {l : Launch} {e : Env} {R : Room} {s : State} {m : MethodId} {args : Array Value} {below : List Frame} {meth : Method} {c : Code} {cells slots : Nat} {Q : State → Prop} {A : Nat → Prop}
variable {dC : Nat → ClassId} {dI : Nat → Nat → Nat} {cI cL cT : ClassId} {sa : Nat → Nat}
set_option maxHeartbeats 4000000 in
set_option maxRecDepth 100000 in
theorem l_M_there (hF : CallFix p m c b_M_there 5 s args gw R_M) (hC : CT dC dI cI cL cT sa s) {q : Nat → Nat} {F nt : Nat} {ab be : Int64} {pp a0 : Nat → Nat} {wi : Nat} {fl sc : Nat} (hsc : sc ≤ 1000) (hF12 : F ≤ 12) (hwi : wi ≤ 50) (hs2 : sm a0 1 F ≤ 200) (hfr : 2 ≤ R.frames) (hlo : 43 ≤ R.locals) (hce : cells ≤ R.cells) (hsl : slots ≤ R.slots) (hA : ∀ q : Nat, s.heap.size ≤ q → A q) (kend : ∀ (H : Heap) (locs : List Loc) (ls : Array Slot), va_P (dC, dI) vwCl [(q 0, .inr (6, (mF q (nI 0) F nt ab be))), (q 1, .inl (cI, 13, .inl (fun j => nI (pp j)))), (q 16, .inl (cI, 13, .inl (fun j => nI ((it wi F a0 sc) j))))] H → va_D A [(q 0, .inr (6, (mF q (nI 0) F nt ab be))), (q 1, .inl (cI, 13, .inl (fun j => nI (pp j)))), (q 16, .inl (cI, 13, .inl (fun j => nI ((it wi F a0 sc) j))))] → va_S A s.heap H locs → lv_has ls 5 [(0, .ref (q 0)), (1, .int (nI wi)), (2, .int (nI fl)), (3, .int (nI sc)), (4, .int (nI sc))] → W p l e R s m args below meth c H locs cells slots Q (F0 m 71 ls [])) : ∀ j i : Nat, sc - i < j → i ≤ sc → ∀ (H : Heap) (locs : List Loc) (ls : Array Slot), va_P (dC, dI) vwCl [(q 0, .inr (6, (mF q (nI 0) F nt ab be))), (q 1, .inl (cI, 13, .inl (fun j => nI (pp j)))), (q 16, .inl (cI, 13, .inl (fun j => nI ((it wi F a0 i) j))))] H → va_D A [(q 0, .inr (6, (mF q (nI 0) F nt ab be))), (q 1, .inl (cI, 13, .inl (fun j => nI (pp j)))), (q 16, .inl (cI, 13, .inl (fun j => nI ((it wi F a0 i) j))))] → va_S A s.heap H locs → lv_has ls 5 [(0, .ref (q 0)), (1, .int (nI wi)), (2, .int (nI fl)), (3, .int (nI sc)), (4, .int (nI i))] → W p l e R s m args below meth c H locs cells slots Q (F0 m 54 ls []) := by
  obtain ⟨hx, hb, hml, hown, hts⟩ := id hF
  have hK := hC.1
  intro j
  induction j with
  | zero => intro i hj; omega
  | succ j ih =>
    intro i hj hi H locs ls hP hD hS hl
    refine lv_iload hx hb d_M_there_54 (lv_at hl 4 rfl) ?_
    refine lv_iload_n hx hb d_M_there_56 rfl (lv_at hl 3 rfl) ?_
    refine nx_icmp_ge (tgt := 71) hx hb d_M_there_57 (by decide) (by omega) (by omega) (fun h1 => ?_) (fun h1 => ?_)
    · have hie : i = sc := by omega
      subst hie
      exact kend H locs ls hP hD hS hl
    · refine lv_aload_n hx hb d_M_there_60 rfl (lv_at hl 0 rfl) ?_
      refine lv_iload_n hx hb d_M_there_61 rfl (lv_at hl 1 rfl) ?_
      have hPc := hP.sub (ws' := [(q 0, .inr (6, (mF q (nI 0) F nt ab be))), (q 16, .inl (cI, 13, .inl (fun j => nI ((it wi F a0 i) j))))]) [0, 2] rfl
      have hDc := hD.sub (ws' := [(q 0, .inr (6, (mF q (nI 0) F nt ab be))), (q 16, .inl (cI, 13, .inl (fun j => nI ((it wi F a0 i) j))))]) [0, 2] (by decide) rfl
      have hFc := va_free (wc := [(q 0, .inr (6, (mF q (nI 0) F nt ab be))), (q 16, .inl (cI, 13, .inl (fun j => nI ((it wi F a0 i) j))))]) hD hS hA [0, 2] rfl
      refine va_callv (va_runV (As := [.int (nI wi)]) (rest := []) ⟨hx, hb, hml, hown, hts⟩ (c_M_second l _ q (nI 0) F nt ab be (it wi F a0 i) wi hF12 hwi (fun j h1 h2 => Nat.lt_of_le_of_lt (it_le h1 h2) (by omega))) (cwV 1 hts (gw_V k_648 k_645 k_647 ks_M_second k_6) rfl rfl rfl (by decide +kernel) ⟨Nat.le_trans (Nat.le_of_ble_eq_true rfl) hfr, Nat.le_trans (Nat.le_of_ble_eq_true rfl) hlo⟩) ⟨wr_blind, va_recv hK hP (ci := 6) (q0 := 0) rfl rfl, wr_at hC hPc hDc⟩ rfl rfl hl.1 rfl (lv_room (Nat.le_of_ble_eq_true rfl)) d_M_there_62 ⟨hce, hsl⟩) hS (fun q _ h => hFc q h) hFc (fun u t H1 locs ht hvm hw hB hz1 hk1 hS => ?_)
      obtain ⟨hP1, hD1⟩ := hB
      rw [ht] at hP1
      obtain ⟨hP, hD⟩ := va_join (wr := [(q 1, .inl (cI, 13, .inl (fun j => nI (pp j))))]) (w1 := [(q 0, .inr (6, (mF q (nI 0) F nt ab be))), (q 16, .inl (cI, 13, .inl (fun j => nI ((it wi F a0 (i + 1)) j))))]) hP hD [0, 2] [1] rfl rfl (by decide) (by decide) hk1 hFc hP1 hD1
      generalize H1 = H at hP hS ⊢
      have hP := hP.sub (ws' := [(q 0, .inr (6, (mF q (nI 0) F nt ab be))), (q 1, .inl (cI, 13, .inl (fun j => nI (pp j)))), (q 16, .inl (cI, 13, .inl (fun j => nI ((it wi F a0 (i + 1)) j))))]) [1, 0, 2] rfl
      have hD := hD.sub (ws' := [(q 0, .inr (6, (mF q (nI 0) F nt ab be))), (q 1, .inl (cI, 13, .inl (fun j => nI (pp j)))), (q 16, .inl (cI, 13, .inl (fun j => nI ((it wi F a0 (i + 1)) j))))]) [1, 0, 2] (by decide) rfl
      refine nx_inc (lv' := [(4, .int (nI (i + 1))), (0, .ref (q 0)), (1, .int (nI wi)), (2, .int (nI fl)), (3, .int (nI sc))]) hx hb d_M_there_65 hl (k := 4) rfl (by decide) rfl (fun ls hl => ?_)
      refine lv_goto (tgt := 54) hx hb d_M_there_68 (by decide) ?_
      exact ih (i + 1) (by omega) (by omega) H locs ls hP hD hS (lv_sub hl [1, 2, 3, 4, 0] rfl)
end
set_option maxHeartbeats 4000000 in
set_option maxRecDepth 100000 in
theorem c_M_there (l : Launch) {dC : Nat → ClassId} {dI : Nat → Nat → Nat} {cI cL cT : ClassId} {sa : Nat → Nat} (sz : Nat) (q : Nat → Nat) (th : Int32) (F nt : Nat) (ab be : Int64) (pp aa : Nat → Nat) (wi fl sc : Nat) (hF12 : F ≤ 12) (hw1 : 1 ≤ wi) (hwi : wi ≤ 50) (hE : sm pp 1 F ≤ 200) (hf1 : 1 ≤ fl) (hfF : fl ≤ F) (hsc : sc ≤ 1000) : Met l y_M_there (Cond.code y_M_there b_M_there 5 (some .int) :: gw) ({ frames := 2, cells := 0, slots := 0, locals := 43 } : Room) (wr dC dI cI cL cT sa [.ref (q 0), .int (nI wi), .int (nI fl), .int (nI sc)] [(q 0, .inr (6, (mF q th F nt ab be))), (q 1, .inl (cI, 13, .inl (fun j => nI (pp j)))), (q 16, .inl (cI, 13, .inl (fun j => nI (aa j))))] sz) (va_Qi (fun r (_ : Unit) => r = nI (it wi F (bgK pp F aa 13) sc fl)) (wB dC dI [(q 0, .inr (6, (mF q th F nt ab be))), (q 1, .inl (cI, 13, .inl (fun j => nI (pp j)))), (q 16, .inl (cI, 13, .inl (fun j => nI (aa j))))] [(q 0, .inr (6, (mF q (nI 0) F nt ab be))), (q 1, .inl (cI, 13, .inl (fun j => nI (pp j)))), (q 16, .inl (cI, 13, .inl (fun j => nI ((it wi F (bgK pp F aa 13) sc) j))))] sz) (va_A [(q 0, .inr (6, (mF q th F nt ab be))), (q 1, .inl (cI, 13, .inl (fun j => nI (pp j)))), (q 16, .inl (cI, 13, .inl (fun j => nI (aa j))))] sz)) 0 0 (va_A [(q 0, .inr (6, (mF q th F nt ab be))), (q 1, .inl (cI, 13, .inl (fun j => nI (pp j)))), (q 16, .inl (cI, 13, .inl (fun j => nI (aa j))))] sz) := by
  refine Met.ofW (cc := b_M_there) (maxL := 5) (ret := (some .int)) (by decide) rfl ?_
  intro p e s m args below meth c s₁ B hml hv
  obtain ⟨rfl, hsz, hC, hP, hD0⟩ := hv
  have hx := B.exec
  have hb := B.bytes
  have hr := B.returns
  have hts : ∀ w ∈ gw, w.before ([.ref (q 0), .int (nI wi), .int (nI fl), .int (nI sc)] : List Value).toArray s = true := fun w hw => atoms_spec (ws := Cond.code y_M_there b_M_there 5 (some .int) :: gw) B.pre w (List.mem_cons_of_mem _ hw)
  have hown : s.vm.findClass R_M = some m.cls := findClass_of_methodNamed B.named
  have hlocks := B.notSynchronized
  have hK := hC.1
  have hfr : 2 ≤ (headSpec (Cond.code y_M_there b_M_there 5 (some .int) :: gw) ({ frames := 2, cells := 0, slots := 0, locals := 43 } : Room)).room.frames := Nat.le_refl _
  have hlo : 43 ≤ (headSpec (Cond.code y_M_there b_M_there 5 (some .int) :: gw) ({ frames := 2, cells := 0, slots := 0, locals := 43 } : Room)).room.locals := Nat.le_refl _
  have hce : 0 ≤ (headSpec (Cond.code y_M_there b_M_there 5 (some .int) :: gw) ({ frames := 2, cells := 0, slots := 0, locals := 43 } : Room)).room.cells := Nat.zero_le _
  have hsl : 0 ≤ (headSpec (Cond.code y_M_there b_M_there 5 (some .int) :: gw) ({ frames := 2, cells := 0, slots := 0, locals := 43 } : Room)).room.slots := Nat.zero_le _
  subst hsz
  have hD := hD0.self (sz := s.heap.size)
  unfold wB
  generalize hAe : va_A [(q 0, .inr (6, (mF q th F nt ab be))), (q 1, .inl (cI, 13, .inl (fun j => nI (pp j)))), (q 16, .inl (cI, 13, .inl (fun j => nI (aa j))))] s.heap.size = A at hD ⊢
  have hA : ∀ q : Nat, s.heap.size ≤ q → A q := fun q h => by rw [← hAe]; exact Or.inr h
  have hS : va_S A s.heap s.heap [] := va_S.rf
  have hl := lv_entry ([.ref (q 0), .int (nI wi), .int (nI fl), .int (nI sc)]) (n := 5) (Nat.le_of_ble_eq_true rfl)
  rw [lg_entry_eq]
  generalize (lg_sl ([.ref (q 0), .int (nI wi), .int (nI fl), .int (nI sc)]) ++ List.replicate (5 - (lg_sl ([.ref (q 0), .int (nI wi), .int (nI fl), .int (nI sc)])).length) Slot.unset).toArray = ls at hl ⊢
  have hl : lv_has ls 5 [(0, .ref (q 0)), (1, .int (nI wi)), (2, .int (nI fl)), (3, .int (nI sc))] := hl
  have hs2 : sm (bgK pp F aa 13) 1 F ≤ 200 := by rw [bg_sm hF12]; exact hE
  have hok : okFl F (nI fl) := okFl_N hf1 hfF hF12
  refine lv_aload_n hx hb d_M_there_0 rfl (lv_at hl 0 rfl) ?_
  refine lv_iload_n hx hb d_M_there_1 rfl (lv_at hl 1 rfl) ?_
  refine lv_iconst (v := nI 1) hx hb d_M_there_2 (by decide) ?_
  refine lv_bipush (v := nI 50) hx hb d_M_there_3 (by decide) ?_
  refine ro_calli (va_runS (As := [.int (nI wi), .int (nI 1), .int (nI 50)]) (rest := [.ref (q 0)]) ⟨hx, hb, hml, hown, hts⟩ (c_M_isInN l wi 1 50 (by omega) (by decide) (by decide)) (cwS 3 hts (gw_S k_539 k_537 k_538 k_6) rfl rfl rfl (by decide +kernel) ⟨Nat.le_trans (Nat.le_of_ble_eq_true rfl) hfr, Nat.le_trans (Nat.le_of_ble_eq_true rfl) hlo⟩) ⟨pr_blind, pr_at hC (fun k q h => by simp at h)⟩ rfl rfl hl.1 rfl (lv_room (Nat.le_of_ble_eq_true rfl)) d_M_there_5 ⟨hce, hsl⟩) (fun r9 h9 => ?_)
  subst h9
  refine nx_b_eq (tgt := 30) hx hb d_M_there_8 (by decide) (fun h1 => ?_) (fun h1 => ?_)
  · exact absurd (show 1 ≤ wi ∧ wi ≤ 50 by omega) h1
  · refine lv_aload_n hx hb d_M_there_11 rfl (lv_at hl 0 rfl) ?_
    refine lv_iload_n hx hb d_M_there_12 rfl (lv_at hl 2 rfl) ?_
    refine ro_calli (va_runV (As := [.int (nI fl)]) (rest := [.ref (q 0)]) ⟨hx, hb, hml, hown, hts⟩ (c_M_noFloor l q th F nt ab be (nI fl) hF12) (cwV 1 hts (gw_V k_551 k_548 k_550 ks_M_noFloor k_6) rfl rfl rfl (by decide +kernel) ⟨Nat.le_trans (Nat.le_of_ble_eq_true rfl) hfr, Nat.le_trans (Nat.le_of_ble_eq_true rfl) hlo⟩) ⟨pr_blind, va_recv hK hP (ci := 6) (q0 := 0) rfl rfl, pr_at hC (hP.sub (ws' := [(q 0, .inr (6, (mF q th F nt ab be)))]) [0] rfl)⟩ rfl rfl hl.1 rfl (lv_room (Nat.le_of_ble_eq_true rfl)) d_M_there_13 ⟨hce, hsl⟩) (fun r9 h9 => ?_)
    subst h9
    refine nx_b_ne (tgt := 30) hx hb d_M_there_16 (by decide) (fun h2 => ?_) (fun h2 => ?_)
    · exact absurd hok h2
    · refine lv_iload_n hx hb d_M_there_19 rfl (lv_at hl 3 rfl) ?_
      refine lv_iconst (v := nI 0) hx hb d_M_there_20 (by decide) ?_
      refine lv_sipush (v := nI 1000) hx hb d_M_there_21 (by decide) ?_
      refine ro_calli (va_runS (As := [.int (nI sc), .int (nI 0), .int (nI 1000)]) (rest := [.ref (q 0)]) ⟨hx, hb, hml, hown, hts⟩ (c_M_isInN l sc 0 1000 (by omega) (by decide) (by decide)) (cwS 3 hts (gw_S k_539 k_537 k_538 k_6) rfl rfl rfl (by decide +kernel) ⟨Nat.le_trans (Nat.le_of_ble_eq_true rfl) hfr, Nat.le_trans (Nat.le_of_ble_eq_true rfl) hlo⟩) ⟨pr_blind, pr_at hC (fun k q h => by simp at h)⟩ rfl rfl hl.1 rfl (lv_room (Nat.le_of_ble_eq_true rfl)) d_M_there_24 ⟨hce, hsl⟩) (fun r9 h9 => ?_)
      subst h9
      refine nx_b_ne (tgt := 34) hx hb d_M_there_27 (by decide) (fun h3 => ?_) (fun h3 => ?_)
      · refine lv_iconst (v := nI 0) hx hb d_M_there_34 (by decide) ?_
        refine va_put (D := (dC, dI)) (ci := 6) (v := .int (nI 0)) (ty := (.int)) (C := R_M) (T := F_M) (N := 17) hx hb hts i_M ft_M ft_M_ok n_M hown hK hP hD hS 0 rfl rfl 0 (by decide) (hts _ k_477) (fun _ h9 => h9) rfl (by decide +kernel) rfl rfl (Nat.le_of_ble_eq_true rfl) d_M_there_35 (fun H locs hP hD hS => ?_)
        have hP : va_P (dC, dI) vwCl [(q 0, .inr (6, (mF q (nI 0) F nt ab be))), (q 1, .inl (cI, 13, .inl (fun j => nI (pp j)))), (q 16, .inl (cI, 13, .inl (fun j => nI (aa j))))] H := hP
        have hD : va_D A [(q 0, .inr (6, (mF q (nI 0) F nt ab be))), (q 1, .inl (cI, 13, .inl (fun j => nI (pp j)))), (q 16, .inl (cI, 13, .inl (fun j => nI (aa j))))] := hD
        refine lv_aload_n hx hb d_M_there_38 rfl (lv_at hl 0 rfl) ?_
        refine va_get (D := (dC, dI)) (ci := 6) (v := .int (nI 0)) (C := R_M) (T := F_M) (N := 17) hx hb hts i_M hown hK hP 0 rfl rfl 0 (by decide) (hts _ k_477) (fun _ h9 => h9) rfl d_M_there_39 ?_
        refine nx_if_le (tgt := 47) hx hb d_M_there_42 (by decide) (by omega) (fun h9 => ?_) (fun h9 => ?_)
        · refine lv_aload_n hx hb d_M_there_47 rfl (lv_at hl 0 rfl) ?_
          have hPc := hP.sub (ws' := [(q 0, .inr (6, (mF q (nI 0) F nt ab be))), (q 1, .inl (cI, 13, .inl (fun j => nI (pp j)))), (q 16, .inl (cI, 13, .inl (fun j => nI (aa j))))]) [0, 1, 2] rfl
          have hDc := hD.sub (ws' := [(q 0, .inr (6, (mF q (nI 0) F nt ab be))), (q 1, .inl (cI, 13, .inl (fun j => nI (pp j)))), (q 16, .inl (cI, 13, .inl (fun j => nI (aa j))))]) [0, 1, 2] (by decide) rfl
          have hFc := va_free (wc := [(q 0, .inr (6, (mF q (nI 0) F nt ab be))), (q 1, .inl (cI, 13, .inl (fun j => nI (pp j)))), (q 16, .inl (cI, 13, .inl (fun j => nI (aa j))))]) hD hS hA [0, 1, 2] rfl
          refine va_callv (va_runV (As := []) (rest := []) ⟨hx, hb, hml, hown, hts⟩ (c_M_begin l _ q (nI 0) F nt ab be pp aa hF12) (cwV 0 hts (gw_V k_640 k_637 k_639 ks_M_begin k_6) rfl rfl rfl (by decide +kernel) ⟨Nat.le_trans (Nat.le_of_ble_eq_true rfl) hfr, Nat.le_trans (Nat.le_of_ble_eq_true rfl) hlo⟩) ⟨wr_blind, va_recv hK hP (ci := 6) (q0 := 0) rfl rfl, wr_at hC hPc hDc⟩ rfl rfl hl.1 rfl (lv_room (Nat.le_of_ble_eq_true rfl)) d_M_there_48 ⟨hce, hsl⟩) hS (fun q _ h => hFc q h) hFc (fun u t H1 locs ht hvm hw hB hz1 hk1 hS => ?_)
          obtain ⟨hP1, hD1⟩ := hB
          rw [ht] at hP1
          obtain ⟨hP, hD⟩ := va_join (wr := []) (w1 := [(q 0, .inr (6, (mF q (nI 0) F nt ab be))), (q 1, .inl (cI, 13, .inl (fun j => nI (pp j)))), (q 16, .inl (cI, 13, .inl (fun j => nI ((bgK pp F aa 13) j))))]) hP hD [0, 1, 2] [] rfl rfl (by decide) (by decide) hk1 hFc hP1 hD1
          generalize H1 = H at hP hS ⊢
          have hP := hP.sub (ws' := [(q 0, .inr (6, (mF q (nI 0) F nt ab be))), (q 1, .inl (cI, 13, .inl (fun j => nI (pp j)))), (q 16, .inl (cI, 13, .inl (fun j => nI ((bgK pp F aa 13) j))))]) [0, 1, 2] rfl
          have hD := hD.sub (ws' := [(q 0, .inr (6, (mF q (nI 0) F nt ab be))), (q 1, .inl (cI, 13, .inl (fun j => nI (pp j)))), (q 16, .inl (cI, 13, .inl (fun j => nI ((bgK pp F aa 13) j))))]) [0, 1, 2] (by decide) rfl
          refine lv_iconst (v := nI 0) hx hb d_M_there_51 (by decide) ?_
          refine lv_istore (lv' := [(4, .int (nI 0)), (0, .ref (q 0)), (1, .int (nI wi)), (2, .int (nI fl)), (3, .int (nI sc))]) hx hb d_M_there_52 hl (by decide) rfl (fun ls hl => ?_)
          refine l_M_there ⟨hx, hb, hml, hown, hts⟩ hC hsc hF12 hwi hs2 hfr hlo hce hsl hA (fun H locs ls hP hD hS hl => ?_) (sc + 1) 0 (by omega) (by omega) H locs ls hP hD hS (lv_sub hl [1, 2, 3, 4, 0] rfl)
          refine lv_aload_n hx hb d_M_there_71 rfl (lv_at hl 0 rfl) ?_
          refine va_get (D := (dC, dI)) (ci := 6) (v := .ref (q 16)) (C := R_M) (T := F_M) (N := 17) hx hb hts i_M hown hK hP 0 rfl rfl 16 (by decide) (hts _ k_493) (fun _ h9 => h9) rfl d_M_there_72 ?_
          refine lv_iload_n hx hb d_M_there_75 rfl (lv_at hl 2 rfl) ?_
          refine nx_iald hx hb hK hP 2 0 rfl rfl (k := fl) (v := nI ((it wi F (bgK pp F aa 13) sc) fl)) (by omega) (by decide) rfl d_M_there_76 ?_
          exact W.iret hx hb hr (fun t ht hW => ⟨⟨_, (), rfl, rfl, by rw [ht]; exact hP, hD⟩, hS.F ht⟩) hS.2.2 d_M_there_77
        · exact absurd h9 (by omega)
      · exact absurd (show 0 ≤ sc ∧ sc ≤ 1000 by omega) h3
set_option maxHeartbeats 4000000 in
set_option maxRecDepth 100000 in
theorem c_M_crowd_b1 (l : Launch) {dC : Nat → ClassId} {dI : Nat → Nat → Nat} {cI cL cT : ClassId} {sa : Nat → Nat} (sz : Nat) (q : Nat → Nat) (th : Int32) (F nt : Nat) (ab be : Int64) (pp aa : Nat → Nat) (p0 p1 : Int32) (hF12 : F ≤ 12) (hbad : ¬ ((1 ≤ p0.toInt ∧ p0.toInt ≤ 50) ∧ okFl F p1)) : Met l y_M_crowd (Cond.code y_M_crowd b_M_crowd 4 (some .int) :: gw) ({ frames := 2, cells := 0, slots := 0, locals := 43 } : Room) (wr dC dI cI cL cT sa [.ref (q 0), .int p0, .int p1] [(q 0, .inr (6, (mF q th F nt ab be))), (q 1, .inl (cI, 13, .inl (fun j => nI (pp j)))), (q 16, .inl (cI, 13, .inl (fun j => nI (aa j))))] sz) (va_Qi (fun r (_ : Unit) => r = nI 0) (wB dC dI [(q 0, .inr (6, (mF q th F nt ab be))), (q 1, .inl (cI, 13, .inl (fun j => nI (pp j)))), (q 16, .inl (cI, 13, .inl (fun j => nI (aa j))))] [(q 0, .inr (6, (mF q (nI 1) F nt ab be))), (q 1, .inl (cI, 13, .inl (fun j => nI (pp j)))), (q 16, .inl (cI, 13, .inl (fun j => nI (aa j))))] sz) (va_A [(q 0, .inr (6, (mF q th F nt ab be))), (q 1, .inl (cI, 13, .inl (fun j => nI (pp j)))), (q 16, .inl (cI, 13, .inl (fun j => nI (aa j))))] sz)) 0 0 (va_A [(q 0, .inr (6, (mF q th F nt ab be))), (q 1, .inl (cI, 13, .inl (fun j => nI (pp j)))), (q 16, .inl (cI, 13, .inl (fun j => nI (aa j))))] sz) := by
  refine Met.ofW (cc := b_M_crowd) (maxL := 4) (ret := (some .int)) (by decide) rfl ?_
  intro p e s m args below meth c s₁ B hml hv
  obtain ⟨rfl, hsz, hC, hP, hD0⟩ := hv
  have hx := B.exec
  have hb := B.bytes
  have hr := B.returns
  have hts : ∀ w ∈ gw, w.before ([.ref (q 0), .int p0, .int p1] : List Value).toArray s = true := fun w hw => atoms_spec (ws := Cond.code y_M_crowd b_M_crowd 4 (some .int) :: gw) B.pre w (List.mem_cons_of_mem _ hw)
  have hown : s.vm.findClass R_M = some m.cls := findClass_of_methodNamed B.named
  have hlocks := B.notSynchronized
  have hK := hC.1
  have hfr : 2 ≤ (headSpec (Cond.code y_M_crowd b_M_crowd 4 (some .int) :: gw) ({ frames := 2, cells := 0, slots := 0, locals := 43 } : Room)).room.frames := Nat.le_refl _
  have hlo : 43 ≤ (headSpec (Cond.code y_M_crowd b_M_crowd 4 (some .int) :: gw) ({ frames := 2, cells := 0, slots := 0, locals := 43 } : Room)).room.locals := Nat.le_refl _
  have hce : 0 ≤ (headSpec (Cond.code y_M_crowd b_M_crowd 4 (some .int) :: gw) ({ frames := 2, cells := 0, slots := 0, locals := 43 } : Room)).room.cells := Nat.zero_le _
  have hsl : 0 ≤ (headSpec (Cond.code y_M_crowd b_M_crowd 4 (some .int) :: gw) ({ frames := 2, cells := 0, slots := 0, locals := 43 } : Room)).room.slots := Nat.zero_le _
  subst hsz
  have hD := hD0.self (sz := s.heap.size)
  unfold wB
  generalize hAe : va_A [(q 0, .inr (6, (mF q th F nt ab be))), (q 1, .inl (cI, 13, .inl (fun j => nI (pp j)))), (q 16, .inl (cI, 13, .inl (fun j => nI (aa j))))] s.heap.size = A at hD ⊢
  have hA : ∀ q : Nat, s.heap.size ≤ q → A q := fun q h => by rw [← hAe]; exact Or.inr h
  have hS : va_S A s.heap s.heap [] := va_S.rf
  have hl := lv_entry ([.ref (q 0), .int p0, .int p1]) (n := 4) (Nat.le_of_ble_eq_true rfl)
  rw [lg_entry_eq]
  generalize (lg_sl ([.ref (q 0), .int p0, .int p1]) ++ List.replicate (4 - (lg_sl ([.ref (q 0), .int p0, .int p1])).length) Slot.unset).toArray = ls at hl ⊢
  have hl : lv_has ls 4 [(0, .ref (q 0)), (1, .int p0), (2, .int p1)] := hl
  refine lv_aload_n hx hb d_M_crowd_0 rfl (lv_at hl 0 rfl) ?_
  refine lv_iload_n hx hb d_M_crowd_1 rfl (lv_at hl 1 rfl) ?_
  refine lv_iconst (v := nI 1) hx hb d_M_crowd_2 (by decide) ?_
  refine lv_bipush (v := nI 50) hx hb d_M_crowd_3 (by decide) ?_
  refine ro_calli (va_runS (As := [.int p0, .int (nI 1), .int (nI 50)]) (rest := [.ref (q 0)]) ⟨hx, hb, hml, hown, hts⟩ (c_M_isIn l p0 (nI 1) (nI 50) 1 50 (nI_toInt (by decide)) (nI_toInt (by decide))) (cwS 3 hts (gw_S k_539 k_537 k_538 k_6) rfl rfl rfl (by decide +kernel) ⟨Nat.le_trans (Nat.le_of_ble_eq_true rfl) hfr, Nat.le_trans (Nat.le_of_ble_eq_true rfl) hlo⟩) ⟨pr_blind, pr_at hC (fun k q h => by simp at h)⟩ rfl rfl hl.1 rfl (lv_room (Nat.le_of_ble_eq_true rfl)) d_M_crowd_5 ⟨hce, hsl⟩) (fun r9 h9 => ?_)
  subst h9
  refine nx_b_eq (tgt := 19) hx hb d_M_crowd_8 (by decide) (fun h1 => ?_) (fun h1 => ?_)
  · refine lv_iconst (v := nI 1) hx hb d_M_crowd_19 (by decide) ?_
    refine lv_goto (tgt := 24) hx hb d_M_crowd_20 (by decide) ?_
    refine va_put (D := (dC, dI)) (ci := 6) (v := .int (nI 1)) (ty := (.int)) (C := R_M) (T := F_M) (N := 17) hx hb hts i_M ft_M ft_M_ok n_M hown hK hP hD hS 0 rfl rfl 0 (by decide) (hts _ k_477) (fun _ h9 => h9) rfl (by decide +kernel) rfl rfl (Nat.le_of_ble_eq_true rfl) d_M_crowd_24 (fun H locs hP hD hS => ?_)
    have hP : va_P (dC, dI) vwCl [(q 0, .inr (6, (mF q (nI 1) F nt ab be))), (q 1, .inl (cI, 13, .inl (fun j => nI (pp j)))), (q 16, .inl (cI, 13, .inl (fun j => nI (aa j))))] H := hP
    have hD : va_D A [(q 0, .inr (6, (mF q (nI 1) F nt ab be))), (q 1, .inl (cI, 13, .inl (fun j => nI (pp j)))), (q 16, .inl (cI, 13, .inl (fun j => nI (aa j))))] := hD
    refine lv_aload_n hx hb d_M_crowd_27 rfl (lv_at hl 0 rfl) ?_
    refine va_get (D := (dC, dI)) (ci := 6) (v := .int (nI 1)) (C := R_M) (T := F_M) (N := 17) hx hb hts i_M hown hK hP 0 rfl rfl 0 (by decide) (hts _ k_477) (fun _ h9 => h9) rfl d_M_crowd_28 ?_
    refine nx_if_le (tgt := 36) hx hb d_M_crowd_31 (by decide) (by omega) (fun h9 => ?_) (fun h9 => ?_)
    · exact absurd h9 (by omega)
    · refine lv_iconst (v := nI 0) hx hb d_M_crowd_34 (by decide) ?_
      exact W.iret hx hb hr (fun t ht hW => ⟨⟨_, (), rfl, rfl, by rw [ht]; exact hP, hD⟩, hS.F ht⟩) hS.2.2 d_M_crowd_35
  · refine lv_aload_n hx hb d_M_crowd_11 rfl (lv_at hl 0 rfl) ?_
    refine lv_iload_n hx hb d_M_crowd_12 rfl (lv_at hl 2 rfl) ?_
    refine ro_calli (va_runV (As := [.int p1]) (rest := [.ref (q 0)]) ⟨hx, hb, hml, hown, hts⟩ (c_M_noFloor l q th F nt ab be p1 hF12) (cwV 1 hts (gw_V k_551 k_548 k_550 ks_M_noFloor k_6) rfl rfl rfl (by decide +kernel) ⟨Nat.le_trans (Nat.le_of_ble_eq_true rfl) hfr, Nat.le_trans (Nat.le_of_ble_eq_true rfl) hlo⟩) ⟨pr_blind, va_recv hK hP (ci := 6) (q0 := 0) rfl rfl, pr_at hC (hP.sub (ws' := [(q 0, .inr (6, (mF q th F nt ab be)))]) [0] rfl)⟩ rfl rfl hl.1 rfl (lv_room (Nat.le_of_ble_eq_true rfl)) d_M_crowd_13 ⟨hce, hsl⟩) (fun r9 h9 => ?_)
    subst h9
    refine nx_b_eq (tgt := 23) hx hb d_M_crowd_16 (by decide) (fun h2 => ?_) (fun h2 => ?_)
    · exact absurd ⟨h1, Classical.not_not.mp h2⟩ hbad
    · refine lv_iconst (v := nI 1) hx hb d_M_crowd_19 (by decide) ?_
      refine lv_goto (tgt := 24) hx hb d_M_crowd_20 (by decide) ?_
      refine va_put (D := (dC, dI)) (ci := 6) (v := .int (nI 1)) (ty := (.int)) (C := R_M) (T := F_M) (N := 17) hx hb hts i_M ft_M ft_M_ok n_M hown hK hP hD hS 0 rfl rfl 0 (by decide) (hts _ k_477) (fun _ h9 => h9) rfl (by decide +kernel) rfl rfl (Nat.le_of_ble_eq_true rfl) d_M_crowd_24 (fun H locs hP hD hS => ?_)
      have hP : va_P (dC, dI) vwCl [(q 0, .inr (6, (mF q (nI 1) F nt ab be))), (q 1, .inl (cI, 13, .inl (fun j => nI (pp j)))), (q 16, .inl (cI, 13, .inl (fun j => nI (aa j))))] H := hP
      have hD : va_D A [(q 0, .inr (6, (mF q (nI 1) F nt ab be))), (q 1, .inl (cI, 13, .inl (fun j => nI (pp j)))), (q 16, .inl (cI, 13, .inl (fun j => nI (aa j))))] := hD
      refine lv_aload_n hx hb d_M_crowd_27 rfl (lv_at hl 0 rfl) ?_
      refine va_get (D := (dC, dI)) (ci := 6) (v := .int (nI 1)) (C := R_M) (T := F_M) (N := 17) hx hb hts i_M hown hK hP 0 rfl rfl 0 (by decide) (hts _ k_477) (fun _ h9 => h9) rfl d_M_crowd_28 ?_
      refine nx_if_le (tgt := 36) hx hb d_M_crowd_31 (by decide) (by omega) (fun h9 => ?_) (fun h9 => ?_)
      · exact absurd h9 (by omega)
      · refine lv_iconst (v := nI 0) hx hb d_M_crowd_34 (by decide) ?_
        exact W.iret hx hb hr (fun t ht hW => ⟨⟨_, (), rfl, rfl, by rw [ht]; exact hP, hD⟩, hS.F ht⟩) hS.2.2 d_M_crowd_35
section
variable {p : Program} {l : Launch} {e : Env} {R : Room} {s : State} {m : MethodId} {args : Array Value} {below : List Frame} {meth : Method} {c : Code} {cells slots : Nat} {Q : State → Prop} {A : Nat → Prop}
variable {dC : Nat → ClassId} {dI : Nat → Nat → Nat} {cI cL cT : ClassId} {sa : Nat → Nat}
set_option maxHeartbeats 4000000 in
set_option maxRecDepth 100000 in
theorem l_M_crowd (hF : CallFix p m c b_M_crowd 4 s args gw R_M) (hC : CT dC dI cI cL cT sa s) {q : Nat → Nat} {F nt : Nat} {ab be : Int64} {pp a0 : Nat → Nat} {wi : Nat} {fl : Nat} (hf1 : 1 ≤ fl) (hfF : fl ≤ F) (hF12 : F ≤ 12) (hwi : wi ≤ 50) (hs2 : sm a0 1 F ≤ 200) {n : Nat} (hn : n ≤ 212) (ho : isOut wi F a0 n) (hfr : 2 ≤ R.frames) (hlo : 43 ≤ R.locals) (hce : cells ≤ R.cells) (hsl : slots ≤ R.slots) (hA : ∀ q : Nat, s.heap.size ≤ q → A q) (kend : ∀ (H : Heap) (locs : List Loc) (ls : Array Slot), va_P (dC, dI) vwCl [(q 0, .inr (6, (mF q (nI 0) F nt ab be))), (q 1, .inl (cI, 13, .inl (fun j => nI (pp j)))), (q 16, .inl (cI, 13, .inl (fun j => nI ((it wi F a0 n) j))))] H → va_D A [(q 0, .inr (6, (mF q (nI 0) F nt ab be))), (q 1, .inl (cI, 13, .inl (fun j => nI (pp j)))), (q 16, .inl (cI, 13, .inl (fun j => nI ((it wi F a0 n) j))))] → va_S A s.heap H locs → lv_has ls 4 [(0, .ref (q 0)), (1, .int (nI wi)), (2, .int (nI fl)), (3, .int (nI (mxK wi F a0 fl n)))] → W p l e R s m args below meth c H locs cells slots Q (F0 m 83 ls [])) : ∀ j i : Nat, n - i < j → i ≤ n → ∀ (H : Heap) (locs : List Loc) (ls : Array Slot), va_P (dC, dI) vwCl [(q 0, .inr (6, (mF q (nI 0) F nt ab be))), (q 1, .inl (cI, 13, .inl (fun j => nI (pp j)))), (q 16, .inl (cI, 13, .inl (fun j => nI ((it wi F a0 i) j))))] H → va_D A [(q 0, .inr (6, (mF q (nI 0) F nt ab be))), (q 1, .inl (cI, 13, .inl (fun j => nI (pp j)))), (q 16, .inl (cI, 13, .inl (fun j => nI ((it wi F a0 i) j))))] → va_S A s.heap H locs → lv_has ls 4 [(0, .ref (q 0)), (1, .int (nI wi)), (2, .int (nI fl)), (3, .int (nI (mxK wi F a0 fl i)))] → W p l e R s m args below meth c H locs cells slots Q (F0 m 47 ls []) := by
  obtain ⟨hx, hb, hml, hown, hts⟩ := id hF
  have hK := hC.1
  intro j
  induction j with
  | zero => intro i hj; omega
  | succ j ih =>
    intro i hj hi H locs ls hP hD hS hl
    have hle := it_sm_le wi F a0 i
    have hmx := mx_le (w := wi) (a := a0) hf1 hfF i
    have hit := it_le (w := wi) (a := a0) (i := i + 1) hf1 hfF
    refine lv_aload_n hx hb d_M_crowd_47 rfl (lv_at hl 0 rfl) ?_
    refine ro_calli (va_runV (As := []) (rest := []) ⟨hx, hb, hml, hown, hts⟩ (c_M_inside l q (nI 0) F nt ab be (it wi F a0 i) hF12) (cwV 0 hts (gw_V k_644 k_641 k_643 ks_M_inside k_6) rfl rfl rfl (by decide +kernel) ⟨Nat.le_trans (Nat.le_of_ble_eq_true rfl) hfr, Nat.le_trans (Nat.le_of_ble_eq_true rfl) hlo⟩) ⟨pr_blind, va_recv hK hP (ci := 6) (q0 := 0) rfl rfl, pr_at hC (hP.sub (ws' := [(q 0, .inr (6, (mF q (nI 0) F nt ab be))), (q 16, .inl (cI, 13, .inl (fun j => nI ((it wi F a0 i) j))))]) [0, 2] rfl)⟩ rfl rfl hl.1 rfl (lv_room (Nat.le_of_ble_eq_true rfl)) d_M_crowd_48 ⟨hce, hsl⟩) (fun r9 h9 => ?_)
    subst h9
    refine nx_if_le (tgt := 83) hx hb d_M_crowd_51 (by decide) (by omega) (fun h1 => ?_) (fun h1 => ?_)
    · have hie : i = n := Classical.byContradiction fun z => ho.2 i (by omega) h1
      subst hie
      exact kend H locs ls hP hD hS hl
    · have hlt : i < n := isOut_lt ho hi h1
      refine lv_aload_n hx hb d_M_crowd_54 rfl (lv_at hl 0 rfl) ?_
      refine lv_iload_n hx hb d_M_crowd_55 rfl (lv_at hl 1 rfl) ?_
      have hPc := hP.sub (ws' := [(q 0, .inr (6, (mF q (nI 0) F nt ab be))), (q 16, .inl (cI, 13, .inl (fun j => nI ((it wi F a0 i) j))))]) [0, 2] rfl
      have hDc := hD.sub (ws' := [(q 0, .inr (6, (mF q (nI 0) F nt ab be))), (q 16, .inl (cI, 13, .inl (fun j => nI ((it wi F a0 i) j))))]) [0, 2] (by decide) rfl
      have hFc := va_free (wc := [(q 0, .inr (6, (mF q (nI 0) F nt ab be))), (q 16, .inl (cI, 13, .inl (fun j => nI ((it wi F a0 i) j))))]) hD hS hA [0, 2] rfl
      refine va_callv (va_runV (As := [.int (nI wi)]) (rest := []) ⟨hx, hb, hml, hown, hts⟩ (c_M_second l _ q (nI 0) F nt ab be (it wi F a0 i) wi hF12 hwi (fun j h1 h2 => Nat.lt_of_le_of_lt (it_le h1 h2) (by omega))) (cwV 1 hts (gw_V k_648 k_645 k_647 ks_M_second k_6) rfl rfl rfl (by decide +kernel) ⟨Nat.le_trans (Nat.le_of_ble_eq_true rfl) hfr, Nat.le_trans (Nat.le_of_ble_eq_true rfl) hlo⟩) ⟨wr_blind, va_recv hK hP (ci := 6) (q0 := 0) rfl rfl, wr_at hC hPc hDc⟩ rfl rfl hl.1 rfl (lv_room (Nat.le_of_ble_eq_true rfl)) d_M_crowd_56 ⟨hce, hsl⟩) hS (fun q _ h => hFc q h) hFc (fun u t H1 locs ht hvm hw hB hz1 hk1 hS => ?_)
      obtain ⟨hP1, hD1⟩ := hB
      rw [ht] at hP1
      obtain ⟨hP, hD⟩ := va_join (wr := [(q 1, .inl (cI, 13, .inl (fun j => nI (pp j))))]) (w1 := [(q 0, .inr (6, (mF q (nI 0) F nt ab be))), (q 16, .inl (cI, 13, .inl (fun j => nI ((it wi F a0 (i + 1)) j))))]) hP hD [0, 2] [1] rfl rfl (by decide) (by decide) hk1 hFc hP1 hD1
      generalize H1 = H at hP hS ⊢
      have hP := hP.sub (ws' := [(q 0, .inr (6, (mF q (nI 0) F nt ab be))), (q 1, .inl (cI, 13, .inl (fun j => nI (pp j)))), (q 16, .inl (cI, 13, .inl (fun j => nI ((it wi F a0 (i + 1)) j))))]) [1, 0, 2] rfl
      have hD := hD.sub (ws' := [(q 0, .inr (6, (mF q (nI 0) F nt ab be))), (q 1, .inl (cI, 13, .inl (fun j => nI (pp j)))), (q 16, .inl (cI, 13, .inl (fun j => nI ((it wi F a0 (i + 1)) j))))]) [1, 0, 2] (by decide) rfl
      refine lv_aload_n hx hb d_M_crowd_59 rfl (lv_at hl 0 rfl) ?_
      refine va_get (D := (dC, dI)) (ci := 6) (v := .ref (q 16)) (C := R_M) (T := F_M) (N := 17) hx hb hts i_M hown hK hP 0 rfl rfl 16 (by decide) (hts _ k_493) (fun _ h9 => h9) rfl d_M_crowd_60 ?_
      refine lv_iload_n hx hb d_M_crowd_63 rfl (lv_at hl 2 rfl) ?_
      refine nx_iald hx hb hK hP 2 0 rfl rfl (k := fl) (v := nI ((it wi F a0 (i + 1)) fl)) (by omega) (by decide) rfl d_M_crowd_64 ?_
      refine lv_iload_n hx hb d_M_crowd_65 rfl (lv_at hl 3 rfl) ?_
      refine nx_icmp_le (tgt := 78) hx hb d_M_crowd_66 (by decide) (by omega) (by omega) (fun h2 => ?_) (fun h2 => ?_)
      · refine lv_iload_n hx hb d_M_crowd_78 rfl (lv_at hl 3 rfl) ?_
        refine nx_ieq (b := mxK wi F a0 fl (i + 1)) (by rw [mxK, if_neg (by omega)]) ?_
        refine lv_istore_n (lv' := [(3, .int (nI (mxK wi F a0 fl (i + 1)))), (0, .ref (q 0)), (1, .int (nI wi)), (2, .int (nI fl))]) hx hb d_M_crowd_79 rfl hl (by decide) rfl (fun ls hl => ?_)
        refine lv_goto (tgt := 47) hx hb d_M_crowd_80 (by decide) ?_
        exact ih (i + 1) (by omega) (by omega) H locs ls hP hD hS (lv_sub hl [1, 2, 3, 0] rfl)
      · refine lv_aload_n hx hb d_M_crowd_69 rfl (lv_at hl 0 rfl) ?_
        refine va_get (D := (dC, dI)) (ci := 6) (v := .ref (q 16)) (C := R_M) (T := F_M) (N := 17) hx hb hts i_M hown hK hP 0 rfl rfl 16 (by decide) (hts _ k_493) (fun _ h9 => h9) rfl d_M_crowd_70 ?_
        refine lv_iload_n hx hb d_M_crowd_73 rfl (lv_at hl 2 rfl) ?_
        refine nx_iald hx hb hK hP 2 0 rfl rfl (k := fl) (v := nI ((it wi F a0 (i + 1)) fl)) (by omega) (by decide) rfl d_M_crowd_74 ?_
        refine lv_goto (tgt := 79) hx hb d_M_crowd_75 (by decide) ?_
        refine nx_ieq (b := mxK wi F a0 fl (i + 1)) (by rw [mxK, if_pos h2]) ?_
        refine lv_istore_n (lv' := [(3, .int (nI (mxK wi F a0 fl (i + 1)))), (0, .ref (q 0)), (1, .int (nI wi)), (2, .int (nI fl))]) hx hb d_M_crowd_79 rfl hl (by decide) rfl (fun ls hl => ?_)
        refine lv_goto (tgt := 47) hx hb d_M_crowd_80 (by decide) ?_
        exact ih (i + 1) (by omega) (by omega) H locs ls hP hD hS (lv_sub hl [1, 2, 3, 0] rfl)
end
set_option maxHeartbeats 4000000 in
set_option maxRecDepth 100000 in
theorem c_M_crowd (l : Launch) {dC : Nat → ClassId} {dI : Nat → Nat → Nat} {cI cL cT : ClassId} {sa : Nat → Nat} (sz : Nat) (q : Nat → Nat) (th : Int32) (F nt : Nat) (ab be : Int64) (pp aa : Nat → Nat) (wi fl n : Nat) (hF12 : F ≤ 12) (hw1 : 1 ≤ wi) (hwi : wi ≤ 50) (hE : sm pp 1 F ≤ 200) (hf1 : 1 ≤ fl) (hfF : fl ≤ F) (hn : n ≤ 212) (ho : isOut wi F (bgK pp F aa 13) n) : Met l y_M_crowd (Cond.code y_M_crowd b_M_crowd 4 (some .int) :: gw) ({ frames := 2, cells := 0, slots := 0, locals := 43 } : Room) (wr dC dI cI cL cT sa [.ref (q 0), .int (nI wi), .int (nI fl)] [(q 0, .inr (6, (mF q th F nt ab be))), (q 1, .inl (cI, 13, .inl (fun j => nI (pp j)))), (q 16, .inl (cI, 13, .inl (fun j => nI (aa j))))] sz) (va_Qi (fun r (_ : Unit) => r = nI (mxK wi F (bgK pp F aa 13) fl n)) (wB dC dI [(q 0, .inr (6, (mF q th F nt ab be))), (q 1, .inl (cI, 13, .inl (fun j => nI (pp j)))), (q 16, .inl (cI, 13, .inl (fun j => nI (aa j))))] [(q 0, .inr (6, (mF q (nI 0) F nt ab be))), (q 1, .inl (cI, 13, .inl (fun j => nI (pp j)))), (q 16, .inl (cI, 13, .inl (fun j => nI ((it wi F (bgK pp F aa 13) n) j))))] sz) (va_A [(q 0, .inr (6, (mF q th F nt ab be))), (q 1, .inl (cI, 13, .inl (fun j => nI (pp j)))), (q 16, .inl (cI, 13, .inl (fun j => nI (aa j))))] sz)) 0 0 (va_A [(q 0, .inr (6, (mF q th F nt ab be))), (q 1, .inl (cI, 13, .inl (fun j => nI (pp j)))), (q 16, .inl (cI, 13, .inl (fun j => nI (aa j))))] sz) := by
  refine Met.ofW (cc := b_M_crowd) (maxL := 4) (ret := (some .int)) (by decide) rfl ?_
  intro p e s m args below meth c s₁ B hml hv
  obtain ⟨rfl, hsz, hC, hP, hD0⟩ := hv
  have hx := B.exec
  have hb := B.bytes
  have hr := B.returns
  have hts : ∀ w ∈ gw, w.before ([.ref (q 0), .int (nI wi), .int (nI fl)] : List Value).toArray s = true := fun w hw => atoms_spec (ws := Cond.code y_M_crowd b_M_crowd 4 (some .int) :: gw) B.pre w (List.mem_cons_of_mem _ hw)
  have hown : s.vm.findClass R_M = some m.cls := findClass_of_methodNamed B.named
  have hlocks := B.notSynchronized
  have hK := hC.1
  have hfr : 2 ≤ (headSpec (Cond.code y_M_crowd b_M_crowd 4 (some .int) :: gw) ({ frames := 2, cells := 0, slots := 0, locals := 43 } : Room)).room.frames := Nat.le_refl _
  have hlo : 43 ≤ (headSpec (Cond.code y_M_crowd b_M_crowd 4 (some .int) :: gw) ({ frames := 2, cells := 0, slots := 0, locals := 43 } : Room)).room.locals := Nat.le_refl _
  have hce : 0 ≤ (headSpec (Cond.code y_M_crowd b_M_crowd 4 (some .int) :: gw) ({ frames := 2, cells := 0, slots := 0, locals := 43 } : Room)).room.cells := Nat.zero_le _
  have hsl : 0 ≤ (headSpec (Cond.code y_M_crowd b_M_crowd 4 (some .int) :: gw) ({ frames := 2, cells := 0, slots := 0, locals := 43 } : Room)).room.slots := Nat.zero_le _
  subst hsz
  have hD := hD0.self (sz := s.heap.size)
  unfold wB
  generalize hAe : va_A [(q 0, .inr (6, (mF q th F nt ab be))), (q 1, .inl (cI, 13, .inl (fun j => nI (pp j)))), (q 16, .inl (cI, 13, .inl (fun j => nI (aa j))))] s.heap.size = A at hD ⊢
  have hA : ∀ q : Nat, s.heap.size ≤ q → A q := fun q h => by rw [← hAe]; exact Or.inr h
  have hS : va_S A s.heap s.heap [] := va_S.rf
  have hl := lv_entry ([.ref (q 0), .int (nI wi), .int (nI fl)]) (n := 4) (Nat.le_of_ble_eq_true rfl)
  rw [lg_entry_eq]
  generalize (lg_sl ([.ref (q 0), .int (nI wi), .int (nI fl)]) ++ List.replicate (4 - (lg_sl ([.ref (q 0), .int (nI wi), .int (nI fl)])).length) Slot.unset).toArray = ls at hl ⊢
  have hl : lv_has ls 4 [(0, .ref (q 0)), (1, .int (nI wi)), (2, .int (nI fl))] := hl
  have hs2 : sm (bgK pp F aa 13) 1 F ≤ 200 := by rw [bg_sm hF12]; exact hE
  have hok : okFl F (nI fl) := okFl_N hf1 hfF hF12
  refine lv_aload_n hx hb d_M_crowd_0 rfl (lv_at hl 0 rfl) ?_
  refine lv_iload_n hx hb d_M_crowd_1 rfl (lv_at hl 1 rfl) ?_
  refine lv_iconst (v := nI 1) hx hb d_M_crowd_2 (by decide) ?_
  refine lv_bipush (v := nI 50) hx hb d_M_crowd_3 (by decide) ?_
  refine ro_calli (va_runS (As := [.int (nI wi), .int (nI 1), .int (nI 50)]) (rest := [.ref (q 0)]) ⟨hx, hb, hml, hown, hts⟩ (c_M_isInN l wi 1 50 (by omega) (by decide) (by decide)) (cwS 3 hts (gw_S k_539 k_537 k_538 k_6) rfl rfl rfl (by decide +kernel) ⟨Nat.le_trans (Nat.le_of_ble_eq_true rfl) hfr, Nat.le_trans (Nat.le_of_ble_eq_true rfl) hlo⟩) ⟨pr_blind, pr_at hC (fun k q h => by simp at h)⟩ rfl rfl hl.1 rfl (lv_room (Nat.le_of_ble_eq_true rfl)) d_M_crowd_5 ⟨hce, hsl⟩) (fun r9 h9 => ?_)
  subst h9
  refine nx_b_eq (tgt := 19) hx hb d_M_crowd_8 (by decide) (fun h1 => ?_) (fun h1 => ?_)
  · exact absurd (show 1 ≤ wi ∧ wi ≤ 50 by omega) h1
  · refine lv_aload_n hx hb d_M_crowd_11 rfl (lv_at hl 0 rfl) ?_
    refine lv_iload_n hx hb d_M_crowd_12 rfl (lv_at hl 2 rfl) ?_
    refine ro_calli (va_runV (As := [.int (nI fl)]) (rest := [.ref (q 0)]) ⟨hx, hb, hml, hown, hts⟩ (c_M_noFloor l q th F nt ab be (nI fl) hF12) (cwV 1 hts (gw_V k_551 k_548 k_550 ks_M_noFloor k_6) rfl rfl rfl (by decide +kernel) ⟨Nat.le_trans (Nat.le_of_ble_eq_true rfl) hfr, Nat.le_trans (Nat.le_of_ble_eq_true rfl) hlo⟩) ⟨pr_blind, va_recv hK hP (ci := 6) (q0 := 0) rfl rfl, pr_at hC (hP.sub (ws' := [(q 0, .inr (6, (mF q th F nt ab be)))]) [0] rfl)⟩ rfl rfl hl.1 rfl (lv_room (Nat.le_of_ble_eq_true rfl)) d_M_crowd_13 ⟨hce, hsl⟩) (fun r9 h9 => ?_)
    subst h9
    refine nx_b_eq (tgt := 23) hx hb d_M_crowd_16 (by decide) (fun h2 => ?_) (fun h2 => ?_)
    · refine lv_iconst (v := nI 0) hx hb d_M_crowd_23 (by decide) ?_
      refine va_put (D := (dC, dI)) (ci := 6) (v := .int (nI 0)) (ty := (.int)) (C := R_M) (T := F_M) (N := 17) hx hb hts i_M ft_M ft_M_ok n_M hown hK hP hD hS 0 rfl rfl 0 (by decide) (hts _ k_477) (fun _ h9 => h9) rfl (by decide +kernel) rfl rfl (Nat.le_of_ble_eq_true rfl) d_M_crowd_24 (fun H locs hP hD hS => ?_)
      have hP : va_P (dC, dI) vwCl [(q 0, .inr (6, (mF q (nI 0) F nt ab be))), (q 1, .inl (cI, 13, .inl (fun j => nI (pp j)))), (q 16, .inl (cI, 13, .inl (fun j => nI (aa j))))] H := hP
      have hD : va_D A [(q 0, .inr (6, (mF q (nI 0) F nt ab be))), (q 1, .inl (cI, 13, .inl (fun j => nI (pp j)))), (q 16, .inl (cI, 13, .inl (fun j => nI (aa j))))] := hD
      refine lv_aload_n hx hb d_M_crowd_27 rfl (lv_at hl 0 rfl) ?_
      refine va_get (D := (dC, dI)) (ci := 6) (v := .int (nI 0)) (C := R_M) (T := F_M) (N := 17) hx hb hts i_M hown hK hP 0 rfl rfl 0 (by decide) (hts _ k_477) (fun _ h9 => h9) rfl d_M_crowd_28 ?_
      refine nx_if_le (tgt := 36) hx hb d_M_crowd_31 (by decide) (by omega) (fun h9 => ?_) (fun h9 => ?_)
      · refine lv_aload_n hx hb d_M_crowd_36 rfl (lv_at hl 0 rfl) ?_
        have hPc := hP.sub (ws' := [(q 0, .inr (6, (mF q (nI 0) F nt ab be))), (q 1, .inl (cI, 13, .inl (fun j => nI (pp j)))), (q 16, .inl (cI, 13, .inl (fun j => nI (aa j))))]) [0, 1, 2] rfl
        have hDc := hD.sub (ws' := [(q 0, .inr (6, (mF q (nI 0) F nt ab be))), (q 1, .inl (cI, 13, .inl (fun j => nI (pp j)))), (q 16, .inl (cI, 13, .inl (fun j => nI (aa j))))]) [0, 1, 2] (by decide) rfl
        have hFc := va_free (wc := [(q 0, .inr (6, (mF q (nI 0) F nt ab be))), (q 1, .inl (cI, 13, .inl (fun j => nI (pp j)))), (q 16, .inl (cI, 13, .inl (fun j => nI (aa j))))]) hD hS hA [0, 1, 2] rfl
        refine va_callv (va_runV (As := []) (rest := []) ⟨hx, hb, hml, hown, hts⟩ (c_M_begin l _ q (nI 0) F nt ab be pp aa hF12) (cwV 0 hts (gw_V k_640 k_637 k_639 ks_M_begin k_6) rfl rfl rfl (by decide +kernel) ⟨Nat.le_trans (Nat.le_of_ble_eq_true rfl) hfr, Nat.le_trans (Nat.le_of_ble_eq_true rfl) hlo⟩) ⟨wr_blind, va_recv hK hP (ci := 6) (q0 := 0) rfl rfl, wr_at hC hPc hDc⟩ rfl rfl hl.1 rfl (lv_room (Nat.le_of_ble_eq_true rfl)) d_M_crowd_37 ⟨hce, hsl⟩) hS (fun q _ h => hFc q h) hFc (fun u t H1 locs ht hvm hw hB hz1 hk1 hS => ?_)
        obtain ⟨hP1, hD1⟩ := hB
        rw [ht] at hP1
        obtain ⟨hP, hD⟩ := va_join (wr := []) (w1 := [(q 0, .inr (6, (mF q (nI 0) F nt ab be))), (q 1, .inl (cI, 13, .inl (fun j => nI (pp j)))), (q 16, .inl (cI, 13, .inl (fun j => nI ((bgK pp F aa 13) j))))]) hP hD [0, 1, 2] [] rfl rfl (by decide) (by decide) hk1 hFc hP1 hD1
        generalize H1 = H at hP hS ⊢
        have hP := hP.sub (ws' := [(q 0, .inr (6, (mF q (nI 0) F nt ab be))), (q 1, .inl (cI, 13, .inl (fun j => nI (pp j)))), (q 16, .inl (cI, 13, .inl (fun j => nI ((bgK pp F aa 13) j))))]) [0, 1, 2] rfl
        have hD := hD.sub (ws' := [(q 0, .inr (6, (mF q (nI 0) F nt ab be))), (q 1, .inl (cI, 13, .inl (fun j => nI (pp j)))), (q 16, .inl (cI, 13, .inl (fun j => nI ((bgK pp F aa 13) j))))]) [0, 1, 2] (by decide) rfl
        refine lv_aload_n hx hb d_M_crowd_40 rfl (lv_at hl 0 rfl) ?_
        refine va_get (D := (dC, dI)) (ci := 6) (v := .ref (q 16)) (C := R_M) (T := F_M) (N := 17) hx hb hts i_M hown hK hP 0 rfl rfl 16 (by decide) (hts _ k_493) (fun _ h9 => h9) rfl d_M_crowd_41 ?_
        refine lv_iload_n hx hb d_M_crowd_44 rfl (lv_at hl 2 rfl) ?_
        refine nx_iald hx hb hK hP 2 0 rfl rfl (k := fl) (v := nI ((bgK pp F aa 13) fl)) (by omega) (by decide) rfl d_M_crowd_45 ?_
        refine lv_istore_n (lv' := [(3, .int (nI ((bgK pp F aa 13) fl))), (0, .ref (q 0)), (1, .int (nI wi)), (2, .int (nI fl))]) hx hb d_M_crowd_46 rfl hl (by decide) rfl (fun ls hl => ?_)
        refine l_M_crowd ⟨hx, hb, hml, hown, hts⟩ hC hf1 hfF hF12 hwi hs2 hn ho hfr hlo hce hsl hA (fun H locs ls hP hD hS hl => ?_) (n + 1) 0 (by omega) (by omega) H locs ls hP hD hS (lv_sub hl [1, 2, 3, 0] rfl)
        refine lv_iload_n hx hb d_M_crowd_83 rfl (lv_at hl 3 rfl) ?_
        exact W.iret hx hb hr (fun t ht hW => ⟨⟨_, (), rfl, rfl, by rw [ht]; exact hP, hD⟩, hS.F ht⟩) hS.2.2 d_M_crowd_84
      · exact absurd h9 (by omega)
    · exact absurd hok h2
