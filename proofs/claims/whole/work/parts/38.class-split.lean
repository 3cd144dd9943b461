def zA (pp hh : Nat → Nat) (P sd dr pe j : Nat) : Nat := tA pp hh (j / 13) (j % 13 + 1 - j / 13) P sd dr pe
def zB (pp : Nat → Nat) (P sd j : Nat) : Nat := tB pp (j / 13) (j % 13 + 1 - j / 13) P sd
theorem zA_at {pp hh : Nat → Nat} {P sd dr pe fr to n : Nat} (hn : to + 1 = fr + n) (h : to ≤ 12) : zA pp hh P sd dr pe (fr * 13 + to) = tA pp hh fr n P sd dr pe := by
  unfold zA
  rw [show (fr * 13 + to) / 13 = fr by omega, show (fr * 13 + to) % 13 = to by omega, show to + 1 - fr = n by omega]
theorem zB_at {pp : Nat → Nat} {P sd fr to n : Nat} (hn : to + 1 = fr + n) (h : to ≤ 12) : zB pp P sd (fr * 13 + to) = tB pp fr n P sd := by
  unfold zB
  rw [show (fr * 13 + to) / 13 = fr by omega, show (fr * 13 + to) % 13 = to by omega, show to + 1 - fr = n by omega]
theorem zB_pos {pp : Nat → Nat} {P sd : Nat} (h : 1 ≤ sd) : ∀ j, 0 < zB pp P sd j := fun j => tB_pos h
theorem sm_zone {pp : Nat → Nat} {F fr n : Nat} (h1 : 1 ≤ fr) (h2 : fr + n ≤ F + 1) : sm pp fr n ≤ sm pp 1 F := by
  have h := sm_split (f := pp) (a := 1) (n := fr - 1) n
  rw [show 1 + (fr - 1) = fr by omega] at h
  have h3 : sm pp 1 (fr - 1 + n) ≤ sm pp 1 F := sm_mono (by omega)
  omega
theorem hh_zone {hh : Nat → Nat} {F fr n : Nat} (h : ∀ k, k < F → hh (1 + k) ≤ 1200) (h1 : 1 ≤ fr) (h2 : fr + n ≤ F + 1) : ∀ k, k < n → hh (fr + k) ≤ 1200 := fun k hk => by
  have := h (fr + k - 1) (by omega)
  rwa [show 1 + (fr + k - 1) = fr + k by omega] at this
theorem z_lim {pp hh : Nat → Nat} {F P sd dr pe : Nat} (hF12 : F ≤ 12) (hU : sm pp 1 F ≤ 200) (hhh : ∀ k, k < F → hh (1 + k) ≤ 1200) (hP : P ≤ 5) (hsd : sd ≤ 100) (hdr : dr ≤ 30) (hpe : pe ≤ 10) : ∀ j, zok F j → zA pp hh P sd dr pe j < 2 ^ 63 ∧ zB pp P sd j < 2 ^ 50 := fun j hj => by
  unfold zok at hj
  have hs := sm_zone (pp := pp) (F := F) (fr := j / 13) (n := j % 13 + 1 - j / 13) (by omega) (by omega)
  refine ⟨tA_lt (by omega) (by omega) (hh_zone hhh (by omega) (by omega)) hP hsd hdr hpe, ?_⟩
  have := tB_lt (pp := pp) (fr := j / 13) (n := j % 13 + 1 - j / 13) (P := P) (sd := sd) (by omega) hP hsd
  unfold zB
  omega
/-- the zones that have been measured -/
def isM (T U xa xb : Nat → Nat) (F fr to : Nat) : Prop := ∀ j, zok F j → (j / 13 < fr ∨ (j / 13 = fr ∧ j % 13 < to)) → xa j = T j ∧ xb j = U j
theorem isM_0 {T U xa xb : Nat → Nat} {F : Nat} : isM T U xa xb F 1 1 := fun j h q => by unfold zok at h; omega
theorem isM_step {T U xa xb : Nat → Nat} {F fr to a b : Nat} (h : isM T U xa xb F fr to) (h3 : to ≤ F) (h4 : F ≤ 12) (ha : T (fr * 13 + to) = a) (hb : U (fr * 13 + to) = b) : isM T U (up xa (fr * 13 + to) a) (up xb (fr * 13 + to) b) F fr (to + 1) := fun j hj q => by
  by_cases e : j = fr * 13 + to
  · subst e
    rw [up_s, up_s]
    exact ⟨ha.symm, hb.symm⟩
  · rw [up_n e, up_n e]
    exact h j hj (by omega)
theorem isM_row {T U xa xb : Nat → Nat} {F fr : Nat} (h : isM T U xa xb F fr (F + 1)) : isM T U xa xb F (fr + 1) (fr + 1) := fun j hj q => h j hj (by unfold zok at hj; omega)
theorem isM_end {T U xa xb : Nat → Nat} {F : Nat} (h : isM T U xa xb F (F + 1) (F + 1)) : ∀ j, zok F j → xa j = T j ∧ xb j = U j := fun j hj => h j hj (by unfold zok at hj; omega)
theorem up_z {xa : Nat → Nat} {fr to a : Nat} (h : 1 ≤ fr) : up xa (fr * 13 + to) a 0 = xa 0 := up_n (by omega)
theorem vp_lt {i : Nat} {en : Nat → Nat} (h : vp i en) : ∀ d z, z + d + 1 = i → en z < frm en i := by
  intro d
  induction d with
  | zero => intro z hz; rw [← hz, Nat.add_zero, frm_s]; omega
  | succ d ih =>
    intro z hz
    have h1 := ih (z + 1) (by omega)
    have h2 := h (z + 1) (by omega)
    rw [frm_s] at h2
    omega
section LOK
variable {TA TB xa xb : Nat → Nat} {F : Nat}
theorem lo_ok {i : Nat} {en : Nat → Nat} {lo : Option Nat} (hv : vp i en) (hf : frm en i ≤ F) (h12 : F ≤ 12) (h : isLo TA TB i en lo) : oV lo = 0 ∨ zok F (oV lo) := by
  cases lo with
  | none => exact Or.inl rfl
  | some m =>
    obtain ⟨⟨z, hz, e⟩, -⟩ := h
    have h1 := vp_lt hv (i - 1 - z) z (by omega)
    refine Or.inr ?_
    show zok F m
    rw [e]
    exact zok_of frm_1 (hv z hz) (by omega) h12
theorem ix_ok (h12 : F ≤ 12) (hTp : ∀ j, 0 < TB j) (hX : ∀ j, zok F j → xa j = TA j ∧ xb j = TB j) (hX0 : xa 0 = 0 ∧ xb 0 = 1) (hT : ∀ j, zok F j → TA j < 2 ^ 63 ∧ TB j < 2 ^ 50) {j : Nat} (h : j = 0 ∨ zok F j) : j < 169 ∧ xa j < 2 ^ 63 ∧ xb j < 2 ^ 50 ∧ 0 < xb j := by
  rcases h with rfl | h
  · rw [hX0.1, hX0.2]
    decide
  · obtain ⟨e1, e2⟩ := hX j h
    obtain ⟨t1, t2⟩ := hT j h
    rw [e1, e2]
    exact ⟨(zok_lt h h12).2, t1, t2, hTp j⟩
theorem lo_step (hTp : ∀ j, 0 < TB j) (hX : ∀ j, zok F j → xa j = TA j ∧ xb j = TB j) (hX0 : xa 0 = 0 ∧ xb 0 = 1) {i x fr : Nat} {en : Nat → Nat} {lo : Option Nat} (h : isLo TA TB i en lo) (hl : oV lo = 0 ∨ zok F (oV lo)) (hfr : fr = frm en i) (hz : zok F (fr * 13 + x)) :
    isLo TA TB (i + 1) (up en i x) (some (if xa (fr * 13 + x) * xb (oV lo) < xa (oV lo) * xb (fr * 13 + x) then oV lo else fr * 13 + x)) := by
  have ha : agr i en (up en i x) := agr_up
  have hzi : zi (up en i x) i = fr * 13 + x := by
    unfold zi
    rw [← agr_frm ha (Nat.le_refl i), up_s, hfr]
  cases lo with
  | none =>
    have hi : i = 0 := h
    subst hi
    show isL TA TB 1 _ (if xa _ * xb 0 < xa 0 * xb _ then _ else _)
    rw [hX0.1, Nat.zero_mul, if_neg (by omega), ← hzi]
    exact isL_1
  | some m =>
    have hm : isL TA TB i (up en i x) m := isL_ext ha h
    have hmz : zok F m := by
      rcases hl with q | q
      · obtain ⟨⟨z, hz9, e9⟩, -⟩ := hm
        have q : m = 0 := q
        have := frm_1 (e := up en i x) (z := z)
        unfold zi at e9
        omega
      · exact q
    show isL TA TB (i + 1) _ (if xa _ * xb m < xa m * xb _ then m else _)
    rw [(hX _ hz).1, (hX _ hz).2, (hX _ hmz).1, (hX _ hmz).2]
    by_cases q : TA (fr * 13 + x) * TB m < TA m * TB (fr * 13 + x)
    · rw [if_pos q]
      exact isL_same hTp hm (by rw [hzi]; exact Nat.le_of_lt q)
    · rw [if_neg q, ← hzi]
      exact isL_new hTp hm (by rw [hzi]; exact Nat.not_lt.mp q)
theorem bst_ok {k : Nat} {P : (Nat → Nat) → Prop} {be : Nat → Nat} {o : Option Nat} (h12 : F ≤ 12) (hP : ∀ e, P e → vs F k e) (h : Bs TA TB k P o be) : o = none ∨ ∃ bl, o = some bl ∧ zok F bl := by
  cases o with
  | none => exact Or.inl rfl
  | some bl =>
    obtain ⟨h1, ⟨⟨z, hz, e⟩, -⟩, -⟩ := h
    exact Or.inr ⟨bl, rfl, by rw [e]; exact zok_vs (hP _ h1) hz h12⟩
end LOK
section
variable {p : Program} {l : Launch} {e : Env} {R : Room} {s : State} {m : MethodId} {args : Array Value} {below : List Frame} {meth : Method} {c : Code} {cells slots : Nat} {Q : State → Prop} {A : Nat → Prop}
variable {dC : Nat → ClassId} {dI : Nat → Nat → Nat} {cI cL cT : ClassId} {sa : Nat → Nat}
set_option maxHeartbeats 4000000 in
set_option maxRecDepth 100000 in
theorem l_S_measI (hF : CallFix p m c b_S_measureZones 6 s args gw R_S) (hC : CT dC dI cI cL cT sa s) {g ca : Nat → Nat} {F E bl sf zn : Nat} {pp hh rm sd dr pe ce : Nat → Nat} {t0 : Nat} (hF12 : F ≤ 12) (hU2 : sm pp 1 F ≤ 200) (hhh : ∀ k, k < F → hh (1 + k) ≤ 1200) (hrm : 1 ≤ rm t0 ∧ rm t0 ≤ 5) (hsd : 1 ≤ sd t0 ∧ sd t0 ≤ 100) (hdr : dr t0 ≤ 30) (hpe : pe t0 ≤ 10) (hfr : 2 ≤ R.frames) (hlo : 60 ≤ R.locals) (hce : cells ≤ R.cells) (hsl : slots ≤ R.slots) (hA : ∀ q : Nat, s.heap.size ≤ q → A q) {fr : Nat} (hf1 : 1 ≤ fr) (hfF : fr ≤ F) (kend : ∀ (xa xb : Nat → Nat) (e0 wy so ho : Nat), isM (zA pp hh (rm t0) (sd t0) (dr t0) (pe t0)) (zB pp (rm t0) (sd t0)) xa xb F fr (F + 1) → xa 0 = 0 ∧ xb 0 = 1 →  ∀ (H : Heap) (locs : List Loc) (ls : Array Slot), va_P (dC, dI) vwCl [(g 6, .inr (3, [.ref (g 7), .ref (g 8), .ref (g 9), .ref (g 10), .int (nI bl), .int (nI sf), .int (nI zn)])), (g 7, .inl (cL, 169, .inr (.inl (fun j => lN (xa j))))), (g 8, .inl (cL, 169, .inr (.inl (fun j => lN (xb j))))), (g 1, .inr (0, [.ref (g 2), .ref (g 3), .int (nI F), .int (nI E)])), (g 2, .inl (cI, 13, .inl (fun j => nI (pp j)))), (g 3, .inl (cI, 13, .inl (fun j => nI (hh j)))), (g 5, .inr (2, [.int (nI e0), .long (lN wy), .long (lN so), .long (lN ho)])), (ca t0, .inr (1, [.int (nI (rm t0)), .int (nI (sd t0)), .int (nI (dr t0)), .int (nI (pe t0)), .int (nI (ce t0))]))] H → va_D A [(g 6, .inr (3, [.ref (g 7), .ref (g 8), .ref (g 9), .ref (g 10), .int (nI bl), .int (nI sf), .int (nI zn)])), (g 7, .inl (cL, 169, .inr (.inl (fun j => lN (xa j))))), (g 8, .inl (cL, 169, .inr (.inl (fun j => lN (xb j))))), (g 1, .inr (0, [.ref (g 2), .ref (g 3), .int (nI F), .int (nI E)])), (g 2, .inl (cI, 13, .inl (fun j => nI (pp j)))), (g 3, .inl (cI, 13, .inl (fun j => nI (hh j)))), (g 5, .inr (2, [.int (nI e0), .long (lN wy), .long (lN so), .long (lN ho)])), (ca t0, .inr (1, [.int (nI (rm t0)), .int (nI (sd t0)), .int (nI (dr t0)), .int (nI (pe t0)), .int (nI (ce t0))]))] → va_S A s.heap H locs → lv_has ls 6 [(0, .ref (g 6)), (1, .ref (g 1)), (2, .ref (ca t0)), (3, .ref (g 5)), (4, .int (nI fr))] → W p l e R s m args below meth c H locs cells slots Q (F0 m 78 ls [])) : ∀ j to : Nat, F + 1 - to < j → fr ≤ to → to ≤ F + 1 → ∀ (xa xb : Nat → Nat) (e0 wy so ho : Nat), isM (zA pp hh (rm t0) (sd t0) (dr t0) (pe t0)) (zB pp (rm t0) (sd t0)) xa xb F fr to → xa 0 = 0 ∧ xb 0 = 1 →  ∀ (H : Heap) (locs : List Loc) (ls : Array Slot), va_P (dC, dI) vwCl [(g 6, .inr (3, [.ref (g 7), .ref (g 8), .ref (g 9), .ref (g 10), .int (nI bl), .int (nI sf), .int (nI zn)])), (g 7, .inl (cL, 169, .inr (.inl (fun j => lN (xa j))))), (g 8, .inl (cL, 169, .inr (.inl (fun j => lN (xb j))))), (g 1, .inr (0, [.ref (g 2), .ref (g 3), .int (nI F), .int (nI E)])), (g 2, .inl (cI, 13, .inl (fun j => nI (pp j)))), (g 3, .inl (cI, 13, .inl (fun j => nI (hh j)))), (g 5, .inr (2, [.int (nI e0), .long (lN wy), .long (lN so), .long (lN ho)])), (ca t0, .inr (1, [.int (nI (rm t0)), .int (nI (sd t0)), .int (nI (dr t0)), .int (nI (pe t0)), .int (nI (ce t0))]))] H → va_D A [(g 6, .inr (3, [.ref (g 7), .ref (g 8), .ref (g 9), .ref (g 10), .int (nI bl), .int (nI sf), .int (nI zn)])), (g 7, .inl (cL, 169, .inr (.inl (fun j => lN (xa j))))), (g 8, .inl (cL, 169, .inr (.inl (fun j => lN (xb j))))), (g 1, .inr (0, [.ref (g 2), .ref (g 3), .int (nI F), .int (nI E)])), (g 2, .inl (cI, 13, .inl (fun j => nI (pp j)))), (g 3, .inl (cI, 13, .inl (fun j => nI (hh j)))), (g 5, .inr (2, [.int (nI e0), .long (lN wy), .long (lN so), .long (lN ho)])), (ca t0, .inr (1, [.int (nI (rm t0)), .int (nI (sd t0)), .int (nI (dr t0)), .int (nI (pe t0)), .int (nI (ce t0))]))] → va_S A s.heap H locs → lv_has ls 6 [(0, .ref (g 6)), (1, .ref (g 1)), (2, .ref (ca t0)), (3, .ref (g 5)), (4, .int (nI fr)), (5, .int (nI to))] → W p l e R s m args below meth c H locs cells slots Q (F0 m 16 ls []) := by
  obtain ⟨hx, hb, hml, hown, hts⟩ := id hF
  have hK := hC.1
  intro j
  induction j with
  | zero => intro i hj; omega
  | succ j ih =>
    intro to hj hft hto xa xb e0 wy so ho hM hX0 H locs ls hP hD hS hl
    refine lv_iload hx hb d_S_measureZones_16 (lv_at hl 5 rfl) ?_
    refine lv_aload_n hx hb d_S_measureZones_18 rfl (lv_at hl 1 rfl) ?_
    refine va_get (D := (dC, dI)) (ci := 0) (v := .int (nI F)) (C := R_B) (T := F_B) (N := 4) hx hb hts i_B hown hK hP 3 rfl rfl 2 (by decide) (hts _ k_36) (fun _ h9 => h9) rfl d_S_measureZones_19 ?_
    refine nx_icmp_gt (tgt := 78) hx hb d_S_measureZones_22 (by decide) (by omega) (by omega) (fun h1 => ?_) (fun h1 => ?_)
    · have hie : to = F + 1 := by omega
      subst hie
      exact kend xa xb e0 wy so ho hM hX0 H locs ls hP hD hS (lv_sub hl [0, 1, 2, 3, 4] rfl)
    · obtain ⟨n, hn⟩ : ∃ n, to + 1 = fr + n := ⟨to + 1 - fr, by omega⟩
      have hU3 : sm pp fr n ≤ 200 := Nat.le_trans (sm_zone hf1 (by omega)) hU2
      have hh3 := hh_zone hhh hf1 (n := n) (by omega)
      refine lv_aload_n hx hb d_S_measureZones_25 rfl (lv_at hl 3 rfl) ?_
      refine lv_aload_n hx hb d_S_measureZones_26 rfl (lv_at hl 1 rfl) ?_
      refine lv_aload_n hx hb d_S_measureZones_27 rfl (lv_at hl 2 rfl) ?_
      refine va_get (D := (dC, dI)) (ci := 1) (v := .int (nI (rm t0))) (C := R_C) (T := F_C) (N := 5) hx hb hts i_C hown hK hP 7 rfl rfl 0 (by decide) (hts _ k_269) (fun _ h9 => h9) rfl d_S_measureZones_28 ?_
      refine lv_iload hx hb d_S_measureZones_31 (lv_at hl 4 rfl) ?_
      refine lv_iload hx hb d_S_measureZones_33 (lv_at hl 5 rfl) ?_
      have hPc := hP.sub (ws' := [(g 5, .inr (2, [.int (nI e0), .long (lN wy), .long (lN so), .long (lN ho)])), (g 1, .inr (0, [.ref (g 2), .ref (g 3), .int (nI F), .int (nI E)])), (g 2, .inl (cI, 13, .inl (fun j => nI (pp j)))), (g 3, .inl (cI, 13, .inl (fun j => nI (hh j))))]) [6, 3, 4, 5] rfl
      have hDc := hD.sub (ws' := [(g 5, .inr (2, [.int (nI e0), .long (lN wy), .long (lN so), .long (lN ho)])), (g 1, .inr (0, [.ref (g 2), .ref (g 3), .int (nI F), .int (nI E)])), (g 2, .inl (cI, 13, .inl (fun j => nI (pp j)))), (g 3, .inl (cI, 13, .inl (fun j => nI (hh j))))]) [6, 3, 4, 5] (by decide) rfl
      have hFc := va_free (wc := [(g 5, .inr (2, [.int (nI e0), .long (lN wy), .long (lN so), .long (lN ho)])), (g 1, .inr (0, [.ref (g 2), .ref (g 3), .int (nI F), .int (nI E)])), (g 2, .inl (cI, 13, .inl (fun j => nI (pp j)))), (g 3, .inl (cI, 13, .inl (fun j => nI (hh j))))]) hD hS hA [6, 3, 4, 5] rfl
      refine va_callv (va_runV (As := [.ref (g 1), .int (nI (rm t0)), .int (nI fr), .int (nI to)]) (rest := []) ⟨hx, hb, hml, hown, hts⟩ (c_O_count l _ g e0 wy so ho F E pp hh (rm t0) fr to n hn (by omega) hU3 hh3 hrm.1 hrm.2 hft) (cwV 4 hts (gw_V k_315 k_405 k_313 k_314 k_3) rfl rfl rfl (by decide +kernel) ⟨Nat.le_trans (Nat.le_of_ble_eq_true rfl) hfr, Nat.le_trans (Nat.le_of_ble_eq_true rfl) hlo⟩) ⟨wr_blind, va_recv hK hP (ci := 2) (q0 := 6) rfl rfl, wr_at hC hPc hDc⟩ rfl rfl hl.1 rfl (lv_room (Nat.le_of_ble_eq_true rfl)) d_S_measureZones_35 ⟨hce, hsl⟩) hS (fun q _ h => hFc q h) hFc (fun u t H1 locs ht hvm hw hB hz1 hk1 hS => ?_)
      obtain ⟨hP1, hD1⟩ := hB
      rw [ht] at hP1
      obtain ⟨hP, hD⟩ := va_join (wr := [(g 6, .inr (3, [.ref (g 7), .ref (g 8), .ref (g 9), .ref (g 10), .int (nI bl), .int (nI sf), .int (nI zn)])), (g 7, .inl (cL, 169, .inr (.inl (fun j => lN (xa j))))), (g 8, .inl (cL, 169, .inr (.inl (fun j => lN (xb j))))), (ca t0, .inr (1, [.int (nI (rm t0)), .int (nI (sd t0)), .int (nI (dr t0)), .int (nI (pe t0)), .int (nI (ce t0))]))]) (w1 := [(g 5, .inr (2, [.int (nI (if sm pp fr n = 0 then 1 else 0)), .long (lN (wyf (sm pp fr n) (rm t0))), .long (lN (sp pp (sm pp fr n) (rm t0) fr n)), .long (lN (hp pp hh (rm t0) fr n))])), (g 1, .inr (0, [.ref (g 2), .ref (g 3), .int (nI F), .int (nI E)])), (g 2, .inl (cI, 13, .inl (fun j => nI (pp j)))), (g 3, .inl (cI, 13, .inl (fun j => nI (hh j))))]) hP hD [6, 3, 4, 5] [0, 1, 2, 7] rfl rfl (by decide) (by decide) hk1 hFc hP1 hD1
      generalize H1 = H at hP hS ⊢
      have hP := hP.sub (ws' := [(g 6, .inr (3, [.ref (g 7), .ref (g 8), .ref (g 9), .ref (g 10), .int (nI bl), .int (nI sf), .int (nI zn)])), (g 7, .inl (cL, 169, .inr (.inl (fun j => lN (xa j))))), (g 8, .inl (cL, 169, .inr (.inl (fun j => lN (xb j))))), (g 1, .inr (0, [.ref (g 2), .ref (g 3), .int (nI F), .int (nI E)])), (g 2, .inl (cI, 13, .inl (fun j => nI (pp j)))), (g 3, .inl (cI, 13, .inl (fun j => nI (hh j)))), (g 5, .inr (2, [.int (nI (if sm pp fr n = 0 then 1 else 0)), .long (lN (wyf (sm pp fr n) (rm t0))), .long (lN (sp pp (sm pp fr n) (rm t0) fr n)), .long (lN (hp pp hh (rm t0) fr n))])), (ca t0, .inr (1, [.int (nI (rm t0)), .int (nI (sd t0)), .int (nI (dr t0)), .int (nI (pe t0)), .int (nI (ce t0))]))]) [0, 1, 2, 5, 6, 7, 4, 3] rfl
      have hD := hD.sub (ws' := [(g 6, .inr (3, [.ref (g 7), .ref (g 8), .ref (g 9), .ref (g 10), .int (nI bl), .int (nI sf), .int (nI zn)])), (g 7, .inl (cL, 169, .inr (.inl (fun j => lN (xa j))))), (g 8, .inl (cL, 169, .inr (.inl (fun j => lN (xb j))))), (g 1, .inr (0, [.ref (g 2), .ref (g 3), .int (nI F), .int (nI E)])), (g 2, .inl (cI, 13, .inl (fun j => nI (pp j)))), (g 3, .inl (cI, 13, .inl (fun j => nI (hh j)))), (g 5, .inr (2, [.int (nI (if sm pp fr n = 0 then 1 else 0)), .long (lN (wyf (sm pp fr n) (rm t0))), .long (lN (sp pp (sm pp fr n) (rm t0) fr n)), .long (lN (hp pp hh (rm t0) fr n))])), (ca t0, .inr (1, [.int (nI (rm t0)), .int (nI (sd t0)), .int (nI (dr t0)), .int (nI (pe t0)), .int (nI (ce t0))]))]) [0, 1, 2, 5, 6, 7, 4, 3] (by decide) rfl
      refine lv_aload_n hx hb d_S_measureZones_38 rfl (lv_at hl 0 rfl) ?_
      refine va_get (D := (dC, dI)) (ci := 3) (v := .ref (g 7)) (C := R_S) (T := F_S) (N := 7) hx hb hts i_S hown hK hP 0 rfl rfl 0 (by decide) (hts _ k_81) (fun _ h9 => h9) rfl d_S_measureZones_39 ?_
      refine lv_iload hx hb d_S_measureZones_42 (lv_at hl 4 rfl) ?_
      refine lv_iload hx hb d_S_measureZones_44 (lv_at hl 5 rfl) ?_
      refine ro_calli (va_runS (As := [.int (nI fr), .int (nI to)]) (rest := [.ref (g 7)]) ⟨hx, hb, hml, hown, hts⟩ (c_S_zone l fr to) (cwS 2 hts (gw_S k_408 k_406 k_407 k_4) rfl rfl rfl (by decide +kernel) ⟨Nat.le_trans (Nat.le_of_ble_eq_true rfl) hfr, Nat.le_trans (Nat.le_of_ble_eq_true rfl) hlo⟩) ⟨pr_blind, pr_at hC (fun k q h => by simp at h)⟩ rfl rfl hl.1 rfl (lv_room (Nat.le_of_ble_eq_true rfl)) d_S_measureZones_46 ⟨hce, hsl⟩) (fun r9 h9 => ?_)
      subst h9
      refine lv_aload_n hx hb d_S_measureZones_49 rfl (lv_at hl 3 rfl) ?_
      refine lv_aload_n hx hb d_S_measureZones_50 rfl (lv_at hl 2 rfl) ?_
      refine ro_calll (va_runV (As := [.ref (ca t0)]) (rest := [.int (nI (fr * 13 + to)), .ref (g 7)]) ⟨hx, hb, hml, hown, hts⟩ (c_O_tripAbove l g (ca t0) (if sm pp fr n = 0 then 1 else 0) (wyf (sm pp fr n) (rm t0)) (sp pp (sm pp fr n) (rm t0) fr n) (hp pp hh (rm t0) fr n) (rm t0) (sd t0) (dr t0) (pe t0) (ce t0) e0_le hrm.2 hsd.2 hdr hpe) (cwV 1 hts (gw_V k_346 k_409 k_344 k_345 k_3) rfl rfl rfl (by decide +kernel) ⟨Nat.le_trans (Nat.le_of_ble_eq_true rfl) hfr, Nat.le_trans (Nat.le_of_ble_eq_true rfl) hlo⟩) ⟨pr_blind, va_recv hK hP (ci := 2) (q0 := 6) rfl rfl, pr_at hC (hP.sub (ws' := [(g 5, .inr (2, [.int (nI (if sm pp fr n = 0 then 1 else 0)), .long (lN (wyf (sm pp fr n) (rm t0))), .long (lN (sp pp (sm pp fr n) (rm t0) fr n)), .long (lN (hp pp hh (rm t0) fr n))])), (ca t0, .inr (1, [.int (nI (rm t0)), .int (nI (sd t0)), .int (nI (dr t0)), .int (nI (pe t0)), .int (nI (ce t0))]))]) [6, 7] rfl)⟩ rfl rfl hl.1 rfl (lv_room (Nat.le_of_ble_eq_true rfl)) d_S_measureZones_51 ⟨hce, hsl⟩) (fun r9 h9 => ?_)
      rw [oA_tA] at h9
      subst h9
      refine nx_last hx hb hK hP hD hS 1 1 rfl rfl (k := fr * 13 + to) (x := lN (tA pp hh fr n (rm t0) (sd t0) (dr t0) (pe t0))) (by omega) (by decide) d_S_measureZones_54 (fun H locs hP hD hS => ?_)
      have hP : va_P (dC, dI) vwCl [(g 6, .inr (3, [.ref (g 7), .ref (g 8), .ref (g 9), .ref (g 10), .int (nI bl), .int (nI sf), .int (nI zn)])), (g 7, .inl (cL, 169, .inr (.inl (vp_updL (fun j => lN (xa j)) (fr * 13 + to) (lN (tA pp hh fr n (rm t0) (sd t0) (dr t0) (pe t0))))))), (g 8, .inl (cL, 169, .inr (.inl (fun j => lN (xb j))))), (g 1, .inr (0, [.ref (g 2), .ref (g 3), .int (nI F), .int (nI E)])), (g 2, .inl (cI, 13, .inl (fun j => nI (pp j)))), (g 3, .inl (cI, 13, .inl (fun j => nI (hh j)))), (g 5, .inr (2, [.int (nI (if sm pp fr n = 0 then 1 else 0)), .long (lN (wyf (sm pp fr n) (rm t0))), .long (lN (sp pp (sm pp fr n) (rm t0) fr n)), .long (lN (hp pp hh (rm t0) fr n))])), (ca t0, .inr (1, [.int (nI (rm t0)), .int (nI (sd t0)), .int (nI (dr t0)), .int (nI (pe t0)), .int (nI (ce t0))]))] H := hP
      have hD : va_D A [(g 6, .inr (3, [.ref (g 7), .ref (g 8), .ref (g 9), .ref (g 10), .int (nI bl), .int (nI sf), .int (nI zn)])), (g 7, .inl (cL, 169, .inr (.inl (vp_updL (fun j => lN (xa j)) (fr * 13 + to) (lN (tA pp hh fr n (rm t0) (sd t0) (dr t0) (pe t0))))))), (g 8, .inl (cL, 169, .inr (.inl (fun j => lN (xb j))))), (g 1, .inr (0, [.ref (g 2), .ref (g 3), .int (nI F), .int (nI E)])), (g 2, .inl (cI, 13, .inl (fun j => nI (pp j)))), (g 3, .inl (cI, 13, .inl (fun j => nI (hh j)))), (g 5, .inr (2, [.int (nI (if sm pp fr n = 0 then 1 else 0)), .long (lN (wyf (sm pp fr n) (rm t0))), .long (lN (sp pp (sm pp fr n) (rm t0) fr n)), .long (lN (hp pp hh (rm t0) fr n))])), (ca t0, .inr (1, [.int (nI (rm t0)), .int (nI (sd t0)), .int (nI (dr t0)), .int (nI (pe t0)), .int (nI (ce t0))]))] := hD
      rw [up_eqL] at hP hD
      refine lv_aload_n hx hb d_S_measureZones_55 rfl (lv_at hl 0 rfl) ?_
      refine va_get (D := (dC, dI)) (ci := 3) (v := .ref (g 8)) (C := R_S) (T := F_S) (N := 7) hx hb hts i_S hown hK hP 0 rfl rfl 1 (by decide) (hts _ k_82) (fun _ h9 => h9) rfl d_S_measureZones_56 ?_
      refine lv_iload hx hb d_S_measureZones_59 (lv_at hl 4 rfl) ?_
      refine lv_iload hx hb d_S_measureZones_61 (lv_at hl 5 rfl) ?_
      refine ro_calli (va_runS (As := [.int (nI fr), .int (nI to)]) (rest := [.ref (g 8)]) ⟨hx, hb, hml, hown, hts⟩ (c_S_zone l fr to) (cwS 2 hts (gw_S k_408 k_406 k_407 k_4) rfl rfl rfl (by decide +kernel) ⟨Nat.le_trans (Nat.le_of_ble_eq_true rfl) hfr, Nat.le_trans (Nat.le_of_ble_eq_true rfl) hlo⟩) ⟨pr_blind, pr_at hC (fun k q h => by simp at h)⟩ rfl rfl hl.1 rfl (lv_room (Nat.le_of_ble_eq_true rfl)) d_S_measureZones_63 ⟨hce, hsl⟩) (fun r9 h9 => ?_)
      subst h9
      refine lv_aload_n hx hb d_S_measureZones_66 rfl (lv_at hl 3 rfl) ?_
      refine lv_aload_n hx hb d_S_measureZones_67 rfl (lv_at hl 2 rfl) ?_
      refine ro_calll (va_runV (As := [.ref (ca t0)]) (rest := [.int (nI (fr * 13 + to)), .ref (g 8)]) ⟨hx, hb, hml, hown, hts⟩ (c_O_tripBelow l g (ca t0) (if sm pp fr n = 0 then 1 else 0) (wyf (sm pp fr n) (rm t0)) (sp pp (sm pp fr n) (rm t0) fr n) (hp pp hh (rm t0) fr n) (rm t0) (sd t0) (dr t0) (pe t0) (ce t0) e0_le hrm.2 hsd.2 hdr hpe) (cwV 1 hts (gw_V k_351 k_410 k_349 k_350 k_3) rfl rfl rfl (by decide +kernel) ⟨Nat.le_trans (Nat.le_of_ble_eq_true rfl) hfr, Nat.le_trans (Nat.le_of_ble_eq_true rfl) hlo⟩) ⟨pr_blind, va_recv hK hP (ci := 2) (q0 := 6) rfl rfl, pr_at hC (hP.sub (ws' := [(g 5, .inr (2, [.int (nI (if sm pp fr n = 0 then 1 else 0)), .long (lN (wyf (sm pp fr n) (rm t0))), .long (lN (sp pp (sm pp fr n) (rm t0) fr n)), .long (lN (hp pp hh (rm t0) fr n))])), (ca t0, .inr (1, [.int (nI (rm t0)), .int (nI (sd t0)), .int (nI (dr t0)), .int (nI (pe t0)), .int (nI (ce t0))]))]) [6, 7] rfl)⟩ rfl rfl hl.1 rfl (lv_room (Nat.le_of_ble_eq_true rfl)) d_S_measureZones_68 ⟨hce, hsl⟩) (fun r9 h9 => ?_)
      rw [wy_tB] at h9
      subst h9
      refine nx_last hx hb hK hP hD hS 2 1 rfl rfl (k := fr * 13 + to) (x := lN (tB pp fr n (rm t0) (sd t0))) (by omega) (by decide) d_S_measureZones_71 (fun H locs hP hD hS => ?_)
      have hP : va_P (dC, dI) vwCl [(g 6, .inr (3, [.ref (g 7), .ref (g 8), .ref (g 9), .ref (g 10), .int (nI bl), .int (nI sf), .int (nI zn)])), (g 7, .inl (cL, 169, .inr (.inl (fun j => lN ((up xa (fr * 13 + to) (tA pp hh fr n (rm t0) (sd t0) (dr t0) (pe t0))) j))))), (g 8, .inl (cL, 169, .inr (.inl (vp_updL (fun j => lN (xb j)) (fr * 13 + to) (lN (tB pp fr n (rm t0) (sd t0))))))), (g 1, .inr (0, [.ref (g 2), .ref (g 3), .int (nI F), .int (nI E)])), (g 2, .inl (cI, 13, .inl (fun j => nI (pp j)))), (g 3, .inl (cI, 13, .inl (fun j => nI (hh j)))), (g 5, .inr (2, [.int (nI (if sm pp fr n = 0 then 1 else 0)), .long (lN (wyf (sm pp fr n) (rm t0))), .long (lN (sp pp (sm pp fr n) (rm t0) fr n)), .long (lN (hp pp hh (rm t0) fr n))])), (ca t0, .inr (1, [.int (nI (rm t0)), .int (nI (sd t0)), .int (nI (dr t0)), .int (nI (pe t0)), .int (nI (ce t0))]))] H := hP
      have hD : va_D A [(g 6, .inr (3, [.ref (g 7), .ref (g 8), .ref (g 9), .ref (g 10), .int (nI bl), .int (nI sf), .int (nI zn)])), (g 7, .inl (cL, 169, .inr (.inl (fun j => lN ((up xa (fr * 13 + to) (tA pp hh fr n (rm t0) (sd t0) (dr t0) (pe t0))) j))))), (g 8, .inl (cL, 169, .inr (.inl (vp_updL (fun j => lN (xb j)) (fr * 13 + to) (lN (tB pp fr n (rm t0) (sd t0))))))), (g 1, .inr (0, [.ref (g 2), .ref (g 3), .int (nI F), .int (nI E)])), (g 2, .inl (cI, 13, .inl (fun j => nI (pp j)))), (g 3, .inl (cI, 13, .inl (fun j => nI (hh j)))), (g 5, .inr (2, [.int (nI (if sm pp fr n = 0 then 1 else 0)), .long (lN (wyf (sm pp fr n) (rm t0))), .long (lN (sp pp (sm pp fr n) (rm t0) fr n)), .long (lN (hp pp hh (rm t0) fr n))])), (ca t0, .inr (1, [.int (nI (rm t0)), .int (nI (sd t0)), .int (nI (dr t0)), .int (nI (pe t0)), .int (nI (ce t0))]))] := hD
      rw [up_eqL] at hP hD
      refine nx_inc (lv' := [(5, .int (nI (to + 1))), (0, .ref (g 6)), (1, .ref (g 1)), (2, .ref (ca t0)), (3, .ref (g 5)), (4, .int (nI fr))]) hx hb d_S_measureZones_72 hl (k := 5) rfl (by decide) rfl (fun ls hl => ?_)
      refine lv_goto (tgt := 16) hx hb d_S_measureZones_75 (by decide) ?_
      exact ih (to + 1) (by omega) (by omega) (by omega) _ _ _ _ _ _ (isM_step hM (by omega) hF12 (zA_at hn (by omega)) (zB_at hn (by omega))) ⟨by rw [up_z hf1]; exact hX0.1, by rw [up_z hf1]; exact hX0.2⟩ H locs ls hP hD hS (lv_sub hl [1, 2, 3, 4, 5, 0] rfl)
set_option maxHeartbeats 4000000 in
set_option maxRecDepth 100000 in
theorem l_S_meas (hF : CallFix p m c b_S_measureZones 6 s args gw R_S) (hC : CT dC dI cI cL cT sa s) {g ca : Nat → Nat} {F E bl sf zn : Nat} {pp hh rm sd dr pe ce : Nat → Nat} {t0 : Nat} (hF12 : F ≤ 12) (hU2 : sm pp 1 F ≤ 200) (hhh : ∀ k, k < F → hh (1 + k) ≤ 1200) (hrm : 1 ≤ rm t0 ∧ rm t0 ≤ 5) (hsd : 1 ≤ sd t0 ∧ sd t0 ≤ 100) (hdr : dr t0 ≤ 30) (hpe : pe t0 ≤ 10) (hfr : 2 ≤ R.frames) (hlo : 60 ≤ R.locals) (hce : cells ≤ R.cells) (hsl : slots ≤ R.slots) (hA : ∀ q : Nat, s.heap.size ≤ q → A q) (kend : ∀ (xa xb : Nat → Nat) (e0 wy so ho : Nat), isM (zA pp hh (rm t0) (sd t0) (dr t0) (pe t0)) (zB pp (rm t0) (sd t0)) xa xb F (F + 1) (F + 1) → xa 0 = 0 ∧ xb 0 = 1 →  ∀ (H : Heap) (locs : List Loc) (ls : Array Slot), va_P (dC, dI) vwCl [(g 6, .inr (3, [.ref (g 7), .ref (g 8), .ref (g 9), .ref (g 10), .int (nI bl), .int (nI sf), .int (nI zn)])), (g 7, .inl (cL, 169, .inr (.inl (fun j => lN (xa j))))), (g 8, .inl (cL, 169, .inr (.inl (fun j => lN (xb j))))), (g 1, .inr (0, [.ref (g 2), .ref (g 3), .int (nI F), .int (nI E)])), (g 2, .inl (cI, 13, .inl (fun j => nI (pp j)))), (g 3, .inl (cI, 13, .inl (fun j => nI (hh j)))), (g 5, .inr (2, [.int (nI e0), .long (lN wy), .long (lN so), .long (lN ho)])), (ca t0, .inr (1, [.int (nI (rm t0)), .int (nI (sd t0)), .int (nI (dr t0)), .int (nI (pe t0)), .int (nI (ce t0))]))] H → va_D A [(g 6, .inr (3, [.ref (g 7), .ref (g 8), .ref (g 9), .ref (g 10), .int (nI bl), .int (nI sf), .int (nI zn)])), (g 7, .inl (cL, 169, .inr (.inl (fun j => lN (xa j))))), (g 8, .inl (cL, 169, .inr (.inl (fun j => lN (xb j))))), (g 1, .inr (0, [.ref (g 2), .ref (g 3), .int (nI F), .int (nI E)])), (g 2, .inl (cI, 13, .inl (fun j => nI (pp j)))), (g 3, .inl (cI, 13, .inl (fun j => nI (hh j)))), (g 5, .inr (2, [.int (nI e0), .long (lN wy), .long (lN so), .long (lN ho)])), (ca t0, .inr (1, [.int (nI (rm t0)), .int (nI (sd t0)), .int (nI (dr t0)), .int (nI (pe t0)), .int (nI (ce t0))]))] → va_S A s.heap H locs → lv_has ls 6 [(0, .ref (g 6)), (1, .ref (g 1)), (2, .ref (ca t0)), (3, .ref (g 5)), (4, .int (nI (F + 1)))] → W p l e R s m args below meth c H locs cells slots Q (F0 m 84 ls [])) : ∀ j fr : Nat, F + 1 - fr < j → 1 ≤ fr → fr ≤ F + 1 → ∀ (xa xb : Nat → Nat) (e0 wy so ho : Nat), isM (zA pp hh (rm t0) (sd t0) (dr t0) (pe t0)) (zB pp (rm t0) (sd t0)) xa xb F fr fr → xa 0 = 0 ∧ xb 0 = 1 →  ∀ (H : Heap) (locs : List Loc) (ls : Array Slot), va_P (dC, dI) vwCl [(g 6, .inr (3, [.ref (g 7), .ref (g 8), .ref (g 9), .ref (g 10), .int (nI bl), .int (nI sf), .int (nI zn)])), (g 7, .inl (cL, 169, .inr (.inl (fun j => lN (xa j))))), (g 8, .inl (cL, 169, .inr (.inl (fun j => lN (xb j))))), (g 1, .inr (0, [.ref (g 2), .ref (g 3), .int (nI F), .int (nI E)])), (g 2, .inl (cI, 13, .inl (fun j => nI (pp j)))), (g 3, .inl (cI, 13, .inl (fun j => nI (hh j)))), (g 5, .inr (2, [.int (nI e0), .long (lN wy), .long (lN so), .long (lN ho)])), (ca t0, .inr (1, [.int (nI (rm t0)), .int (nI (sd t0)), .int (nI (dr t0)), .int (nI (pe t0)), .int (nI (ce t0))]))] H → va_D A [(g 6, .inr (3, [.ref (g 7), .ref (g 8), .ref (g 9), .ref (g 10), .int (nI bl), .int (nI sf), .int (nI zn)])), (g 7, .inl (cL, 169, .inr (.inl (fun j => lN (xa j))))), (g 8, .inl (cL, 169, .inr (.inl (fun j => lN (xb j))))), (g 1, .inr (0, [.ref (g 2), .ref (g 3), .int (nI F), .int (nI E)])), (g 2, .inl (cI, 13, .inl (fun j => nI (pp j)))), (g 3, .inl (cI, 13, .inl (fun j => nI (hh j)))), (g 5, .inr (2, [.int (nI e0), .long (lN wy), .long (lN so), .long (lN ho)])), (ca t0, .inr (1, [.int (nI (rm t0)), .int (nI (sd t0)), .int (nI (dr t0)), .int (nI (pe t0)), .int (nI (ce t0))]))] → va_S A s.heap H locs → lv_has ls 6 [(0, .ref (g 6)), (1, .ref (g 1)), (2, .ref (ca t0)), (3, .ref (g 5)), (4, .int (nI fr))] → W p l e R s m args below meth c H locs cells slots Q (F0 m 3 ls []) := by
  obtain ⟨hx, hb, hml, hown, hts⟩ := id hF
  have hK := hC.1
  intro j
  induction j with
  | zero => intro i hj; omega
  | succ j ih =>
    intro fr hj hf1 hff xa xb e0 wy so ho hM hX0 H locs ls hP hD hS hl
    refine lv_iload hx hb d_S_measureZones_3 (lv_at hl 4 rfl) ?_
    refine lv_aload_n hx hb d_S_measureZones_5 rfl (lv_at hl 1 rfl) ?_
    refine va_get (D := (dC, dI)) (ci := 0) (v := .int (nI F)) (C := R_B) (T := F_B) (N := 4) hx hb hts i_B hown hK hP 3 rfl rfl 2 (by decide) (hts _ k_36) (fun _ h9 => h9) rfl d_S_measureZones_6 ?_
    refine nx_icmp_gt (tgt := 84) hx hb d_S_measureZones_9 (by decide) (by omega) (by omega) (fun h1 => ?_) (fun h1 => ?_)
    · have hie : fr = F + 1 := by omega
      subst hie
      exact kend xa xb e0 wy so ho hM hX0 H locs ls hP hD hS hl
    · refine lv_iload hx hb d_S_measureZones_12 (lv_at hl 4 rfl) ?_
      refine lv_istore (lv' := [(5, .int (nI fr)), (0, .ref (g 6)), (1, .ref (g 1)), (2, .ref (ca t0)), (3, .ref (g 5)), (4, .int (nI fr))]) hx hb d_S_measureZones_14 hl (by decide) rfl (fun ls hl => ?_)
      refine l_S_measI ⟨hx, hb, hml, hown, hts⟩ hC hF12 hU2 hhh hrm hsd hdr hpe hfr hlo hce hsl hA hf1 (by omega) (fun xa xb e0 wy so ho hM hX0 H locs ls hP hD hS hl => ?_) (F + 1 - fr + 1) fr (by omega) (by omega) (by omega) xa xb e0 wy so ho hM hX0 H locs ls hP hD hS (lv_sub hl [1, 2, 3, 4, 5, 0] rfl)
      refine nx_inc (lv' := [(4, .int (nI (fr + 1))), (0, .ref (g 6)), (1, .ref (g 1)), (2, .ref (ca t0)), (3, .ref (g 5))]) hx hb d_S_measureZones_78 hl (k := 4) rfl (by decide) rfl (fun ls hl => ?_)
      refine lv_goto (tgt := 3) hx hb d_S_measureZones_81 (by decide) ?_
      exact ih (fr + 1) (by omega) (by omega) (by omega) xa xb e0 wy so ho (isM_row hM) hX0 H locs ls hP hD hS (lv_sub hl [1, 2, 3, 4, 0] rfl)
end
set_option maxHeartbeats 4000000 in
set_option maxRecDepth 100000 in
theorem c_S_measureZones (l : Launch) {dC : Nat → ClassId} {dI : Nat → Nat → Nat} {cI cL cT : ClassId} {sa : Nat → Nat} (sz : Nat) (g ca : Nat → Nat) (F E bl sf zn : Nat) (pp hh rm sd dr pe ce : Nat → Nat) (t0 : Nat) (xa xb : Nat → Nat) (e0 wy so ho : Nat) (hF12 : F ≤ 12) (hU2 : sm pp 1 F ≤ 200) (hhh : ∀ k, k < F → hh (1 + k) ≤ 1200) (hrm : 1 ≤ rm t0 ∧ rm t0 ≤ 5) (hsd : 1 ≤ sd t0 ∧ sd t0 ≤ 100) (hdr : dr t0 ≤ 30) (hpe : pe t0 ≤ 10) (hX0 : xa 0 = 0 ∧ xb 0 = 1) : Met l y_S_measureZones (Cond.code y_S_measureZones b_S_measureZones 6 none :: gw) ({ frames := 2, cells := 0, slots := 0, locals := 60 } : Room) (wr dC dI cI cL cT sa [.ref (g 6), .ref (g 1), .ref (ca t0), .ref (g 5)] [(g 6, .inr (3, [.ref (g 7), .ref (g 8), .ref (g 9), .ref (g 10), .int (nI bl), .int (nI sf), .int (nI zn)])), (g 7, .inl (cL, 169, .inr (.inl (fun j => lN (xa j))))), (g 8, .inl (cL, 169, .inr (.inl (fun j => lN (xb j))))), (g 1, .inr (0, [.ref (g 2), .ref (g 3), .int (nI F), .int (nI E)])), (g 2, .inl (cI, 13, .inl (fun j => nI (pp j)))), (g 3, .inl (cI, 13, .inl (fun j => nI (hh j)))), (g 5, .inr (2, [.int (nI e0), .long (lN wy), .long (lN so), .long (lN ho)])), (ca t0, .inr (1, [.int (nI (rm t0)), .int (nI (sd t0)), .int (nI (dr t0)), .int (nI (pe t0)), .int (nI (ce t0))]))] sz) (va_Qv (fun (u : (Nat → Nat) × (Nat → Nat) × Nat × Nat × Nat × Nat) => (∀ j, zok F j → u.1 j = (zA pp hh (rm t0) (sd t0) (dr t0) (pe t0)) j ∧ u.2.1 j = (zB pp (rm t0) (sd t0)) j) ∧ u.1 0 = 0 ∧ u.2.1 0 = 1) (fun (u : (Nat → Nat) × (Nat → Nat) × Nat × Nat × Nat × Nat) => wB dC dI [(g 6, .inr (3, [.ref (g 7), .ref (g 8), .ref (g 9), .ref (g 10), .int (nI bl), .int (nI sf), .int (nI zn)])), (g 7, .inl (cL, 169, .inr (.inl (fun j => lN (xa j))))), (g 8, .inl (cL, 169, .inr (.inl (fun j => lN (xb j))))), (g 1, .inr (0, [.ref (g 2), .ref (g 3), .int (nI F), .int (nI E)])), (g 2, .inl (cI, 13, .inl (fun j => nI (pp j)))), (g 3, .inl (cI, 13, .inl (fun j => nI (hh j)))), (g 5, .inr (2, [.int (nI e0), .long (lN wy), .long (lN so), .long (lN ho)])), (ca t0, .inr (1, [.int (nI (rm t0)), .int (nI (sd t0)), .int (nI (dr t0)), .int (nI (pe t0)), .int (nI (ce t0))]))] [(g 6, .inr (3, [.ref (g 7), .ref (g 8), .ref (g 9), .ref (g 10), .int (nI bl), .int (nI sf), .int (nI zn)])), (g 7, .inl (cL, 169, .inr (.inl (fun j => lN ((u.1) j))))), (g 8, .inl (cL, 169, .inr (.inl (fun j => lN ((u.2.1) j))))), (g 1, .inr (0, [.ref (g 2), .ref (g 3), .int (nI F), .int (nI E)])), (g 2, .inl (cI, 13, .inl (fun j => nI (pp j)))), (g 3, .inl (cI, 13, .inl (fun j => nI (hh j)))), (g 5, .inr (2, [.int (nI u.2.2.1), .long (lN u.2.2.2.1), .long (lN u.2.2.2.2.1), .long (lN u.2.2.2.2.2)])), (ca t0, .inr (1, [.int (nI (rm t0)), .int (nI (sd t0)), .int (nI (dr t0)), .int (nI (pe t0)), .int (nI (ce t0))]))] sz ()) (va_A [(g 6, .inr (3, [.ref (g 7), .ref (g 8), .ref (g 9), .ref (g 10), .int (nI bl), .int (nI sf), .int (nI zn)])), (g 7, .inl (cL, 169, .inr (.inl (fun j => lN (xa j))))), (g 8, .inl (cL, 169, .inr (.inl (fun j => lN (xb j))))), (g 1, .inr (0, [.ref (g 2), .ref (g 3), .int (nI F), .int (nI E)])), (g 2, .inl (cI, 13, .inl (fun j => nI (pp j)))), (g 3, .inl (cI, 13, .inl (fun j => nI (hh j)))), (g 5, .inr (2, [.int (nI e0), .long (lN wy), .long (lN so), .long (lN ho)])), (ca t0, .inr (1, [.int (nI (rm t0)), .int (nI (sd t0)), .int (nI (dr t0)), .int (nI (pe t0)), .int (nI (ce t0))]))] sz)) 0 0 (va_A [(g 6, .inr (3, [.ref (g 7), .ref (g 8), .ref (g 9), .ref (g 10), .int (nI bl), .int (nI sf), .int (nI zn)])), (g 7, .inl (cL, 169, .inr (.inl (fun j => lN (xa j))))), (g 8, .inl (cL, 169, .inr (.inl (fun j => lN (xb j))))), (g 1, .inr (0, [.ref (g 2), .ref (g 3), .int (nI F), .int (nI E)])), (g 2, .inl (cI, 13, .inl (fun j => nI (pp j)))), (g 3, .inl (cI, 13, .inl (fun j => nI (hh j)))), (g 5, .inr (2, [.int (nI e0), .long (lN wy), .long (lN so), .long (lN ho)])), (ca t0, .inr (1, [.int (nI (rm t0)), .int (nI (sd t0)), .int (nI (dr t0)), .int (nI (pe t0)), .int (nI (ce t0))]))] sz) := by
  refine Met.ofW (cc := b_S_measureZones) (maxL := 6) (ret := none) (by decide) rfl ?_
  intro p e s m args below meth c s₁ B hml hv
  obtain ⟨rfl, hsz, hC, hP, hD0⟩ := hv
  have hx := B.exec
  have hb := B.bytes
  have hr := B.returns
  have hts : ∀ w ∈ gw, w.before ([.ref (g 6), .ref (g 1), .ref (ca t0), .ref (g 5)] : List Value).toArray s = true := fun w hw => atoms_spec (ws := Cond.code y_S_measureZones b_S_measureZones 6 none :: gw) B.pre w (List.mem_cons_of_mem _ hw)
  have hown : s.vm.findClass R_S = some m.cls := findClass_of_methodNamed B.named
  have hlocks := B.notSynchronized
  have hK := hC.1
  have hfr : 2 ≤ (headSpec (Cond.code y_S_measureZones b_S_measureZones 6 none :: gw) ({ frames := 2, cells := 0, slots := 0, locals := 60 } : Room)).room.frames := Nat.le_refl _
  have hlo : 60 ≤ (headSpec (Cond.code y_S_measureZones b_S_measureZones 6 none :: gw) ({ frames := 2, cells := 0, slots := 0, locals := 60 } : Room)).room.locals := Nat.le_refl _
  have hce : 0 ≤ (headSpec (Cond.code y_S_measureZones b_S_measureZones 6 none :: gw) ({ frames := 2, cells := 0, slots := 0, locals := 60 } : Room)).room.cells := Nat.zero_le _
  have hsl : 0 ≤ (headSpec (Cond.code y_S_measureZones b_S_measureZones 6 none :: gw) ({ frames := 2, cells := 0, slots := 0, locals := 60 } : Room)).room.slots := Nat.zero_le _
  subst hsz
  have hD := hD0.self (sz := s.heap.size)
  unfold wB
  generalize hAe : va_A [(g 6, .inr (3, [.ref (g 7), .ref (g 8), .ref (g 9), .ref (g 10), .int (nI bl), .int (nI sf), .int (nI zn)])), (g 7, .inl (cL, 169, .inr (.inl (fun j => lN (xa j))))), (g 8, .inl (cL, 169, .inr (.inl (fun j => lN (xb j))))), (g 1, .inr (0, [.ref (g 2), .ref (g 3), .int (nI F), .int (nI E)])), (g 2, .inl (cI, 13, .inl (fun j => nI (pp j)))), (g 3, .inl (cI, 13, .inl (fun j => nI (hh j)))), (g 5, .inr (2, [.int (nI e0), .long (lN wy), .long (lN so), .long (lN ho)])), (ca t0, .inr (1, [.int (nI (rm t0)), .int (nI (sd t0)), .int (nI (dr t0)), .int (nI (pe t0)), .int (nI (ce t0))]))] s.heap.size = A at hD ⊢
  have hA : ∀ q : Nat, s.heap.size ≤ q → A q := fun q h => by rw [← hAe]; exact Or.inr h
  have hS : va_S A s.heap s.heap [] := va_S.rf
  have hl := lv_entry ([.ref (g 6), .ref (g 1), .ref (ca t0), .ref (g 5)]) (n := 6) (Nat.le_of_ble_eq_true rfl)
  rw [lg_entry_eq]
  generalize (lg_sl ([.ref (g 6), .ref (g 1), .ref (ca t0), .ref (g 5)]) ++ List.replicate (6 - (lg_sl ([.ref (g 6), .ref (g 1), .ref (ca t0), .ref (g 5)])).length) Slot.unset).toArray = ls at hl ⊢
  have hl : lv_has ls 6 [(0, .ref (g 6)), (1, .ref (g 1)), (2, .ref (ca t0)), (3, .ref (g 5))] := hl
  refine lv_iconst (v := nI 1) hx hb d_S_measureZones_0 (by decide) ?_
  refine lv_istore (lv' := [(4, .int (nI 1)), (0, .ref (g 6)), (1, .ref (g 1)), (2, .ref (ca t0)), (3, .ref (g 5))]) hx hb d_S_measureZones_1 hl (by decide) rfl (fun ls hl => ?_)
  refine l_S_meas ⟨hx, hb, hml, hown, hts⟩ hC hF12 hU2 hhh hrm hsd hdr hpe hfr hlo hce hsl hA (fun xa xb e0 wy so ho hM hX0 H locs ls hP hD hS hl => ?_) (F + 1) 1 (by omega) (by omega) (by omega) xa xb e0 wy so ho isM_0 hX0 s.heap [] ls hP hD hS (lv_sub hl [1, 2, 3, 4, 0] rfl)
  exact W.vret hx hb hr (fun t ht hW => ⟨⟨(xa, xb, e0, wy, so, ho), rfl, ⟨isM_end hM, hX0⟩, by rw [ht]; exact hP, hD⟩, hS.F ht⟩) hS.2.2 d_S_measureZones_84
set_option maxHeartbeats 4000000 in
set_option maxRecDepth 100000 in
theorem c_S_keepIfBetter (l : Launch) {dC : Nat → ClassId} {dI : Nat → Nat → Nat} {cI cL cT : ClassId} {sa : Nat → Nat} (sz : Nat) (g : Nat → Nat) (F k : Nat) (xa xb TA TB : Nat → Nat) (mm : Nat) (o : Option Nat) (en be : Nat → Nat) (Pa Pb : (Nat → Nat) → Prop) (hF12 : F ≤ 12) (hk1 : 1 ≤ k) (hk4 : k ≤ 4) (hTp : ∀ j, 0 < TB j) (hX : ∀ j, zok F j → xa j = TA j ∧ xb j = TB j) (hX0 : xa 0 = 0 ∧ xb 0 = 1) (hT : ∀ j, zok F j → TA j < 2 ^ 63 ∧ TB j < 2 ^ 50) (hmm : isL TA TB k en mm) (hmz : zok F mm) (hPv : ∀ e, Pa e → vs F k e) (hPb : ∀ e, Pb e ↔ Pa e ∨ agr k en e) (hbef : ∀ e, Pa e → lexP k en e) (hBs : Bs TA TB k Pa o be) : Met l y_S_keepIfBetter (Cond.code y_S_keepIfBetter b_S_keepIfBetter 2 none :: gw) ({ frames := 2, cells := 0, slots := 0, locals := 300 } : Room) (wr dC dI cI cL cT sa [.ref (g 6), .int (nI mm)] [(g 6, .inr (3, [.ref (g 7), .ref (g 8), .ref (g 9), .ref (g 10), .int (nI (oV o)), .int (nI F), .int (nI k)])), (g 7, .inl (cL, 169, .inr (.inl (fun j => lN (xa j))))), (g 8, .inl (cL, 169, .inr (.inl (fun j => lN (xb j))))), (g 9, .inl (cI, 4, .inl (fun j => nI (en j)))), (g 10, .inl (cI, 4, .inl (fun j => nI (be j))))] sz) (va_Qv (fun (u : Option Nat × (Nat → Nat)) => Bs TA TB k Pb u.1 u.2) (fun (u : Option Nat × (Nat → Nat)) => wB dC dI [(g 6, .inr (3, [.ref (g 7), .ref (g 8), .ref (g 9), .ref (g 10), .int (nI (oV o)), .int (nI F), .int (nI k)])), (g 7, .inl (cL, 169, .inr (.inl (fun j => lN (xa j))))), (g 8, .inl (cL, 169, .inr (.inl (fun j => lN (xb j))))), (g 9, .inl (cI, 4, .inl (fun j => nI (en j)))), (g 10, .inl (cI, 4, .inl (fun j => nI (be j))))] [(g 6, .inr (3, [.ref (g 7), .ref (g 8), .ref (g 9), .ref (g 10), .int (nI (oV u.1)), .int (nI F), .int (nI k)])), (g 7, .inl (cL, 169, .inr (.inl (fun j => lN (xa j))))), (g 8, .inl (cL, 169, .inr (.inl (fun j => lN (xb j))))), (g 9, .inl (cI, 4, .inl (fun j => nI (en j)))), (g 10, .inl (cI, 4, .inl (fun j => nI ((u.2) j))))] sz ()) (va_A [(g 6, .inr (3, [.ref (g 7), .ref (g 8), .ref (g 9), .ref (g 10), .int (nI (oV o)), .int (nI F), .int (nI k)])), (g 7, .inl (cL, 169, .inr (.inl (fun j => lN (xa j))))), (g 8, .inl (cL, 169, .inr (.inl (fun j => lN (xb j))))), (g 9, .inl (cI, 4, .inl (fun j => nI (en j)))), (g 10, .inl (cI, 4, .inl (fun j => nI (be j))))] sz)) 0 0 (va_A [(g 6, .inr (3, [.ref (g 7), .ref (g 8), .ref (g 9), .ref (g 10), .int (nI (oV o)), .int (nI F), .int (nI k)])), (g 7, .inl (cL, 169, .inr (.inl (fun j => lN (xa j))))), (g 8, .inl (cL, 169, .inr (.inl (fun j => lN (xb j))))), (g 9, .inl (cI, 4, .inl (fun j => nI (en j)))), (g 10, .inl (cI, 4, .inl (fun j => nI (be j))))] sz) := by
  refine Met.ofW (cc := b_S_keepIfBetter) (maxL := 2) (ret := none) (by decide) rfl ?_
  intro p e s m args below meth c s₁ B hml hv
  obtain ⟨rfl, hsz, hC, hP, hD0⟩ := hv
  have hx := B.exec
  have hb := B.bytes
  have hr := B.returns
  have hts : ∀ w ∈ gw, w.before ([.ref (g 6), .int (nI mm)] : List Value).toArray s = true := fun w hw => atoms_spec (ws := Cond.code y_S_keepIfBetter b_S_keepIfBetter 2 none :: gw) B.pre w (List.mem_cons_of_mem _ hw)
  have hown : s.vm.findClass R_S = some m.cls := findClass_of_methodNamed B.named
  have hlocks := B.notSynchronized
  have hK := hC.1
  have hfr : 2 ≤ (headSpec (Cond.code y_S_keepIfBetter b_S_keepIfBetter 2 none :: gw) ({ frames := 2, cells := 0, slots := 0, locals := 300 } : Room)).room.frames := Nat.le_refl _
  have hlo : 300 ≤ (headSpec (Cond.code y_S_keepIfBetter b_S_keepIfBetter 2 none :: gw) ({ frames := 2, cells := 0, slots := 0, locals := 300 } : Room)).room.locals := Nat.le_refl _
  have hce : 0 ≤ (headSpec (Cond.code y_S_keepIfBetter b_S_keepIfBetter 2 none :: gw) ({ frames := 2, cells := 0, slots := 0, locals := 300 } : Room)).room.cells := Nat.zero_le _
  have hsl : 0 ≤ (headSpec (Cond.code y_S_keepIfBetter b_S_keepIfBetter 2 none :: gw) ({ frames := 2, cells := 0, slots := 0, locals := 300 } : Room)).room.slots := Nat.zero_le _
  subst hsz
  have hD := hD0.self (sz := s.heap.size)
  unfold wB
  generalize hAe : va_A [(g 6, .inr (3, [.ref (g 7), .ref (g 8), .ref (g 9), .ref (g 10), .int (nI (oV o)), .int (nI F), .int (nI k)])), (g 7, .inl (cL, 169, .inr (.inl (fun j => lN (xa j))))), (g 8, .inl (cL, 169, .inr (.inl (fun j => lN (xb j))))), (g 9, .inl (cI, 4, .inl (fun j => nI (en j)))), (g 10, .inl (cI, 4, .inl (fun j => nI (be j))))] s.heap.size = A at hD ⊢
  have hA : ∀ q : Nat, s.heap.size ≤ q → A q := fun q h => by rw [← hAe]; exact Or.inr h
  have hS : va_S A s.heap s.heap [] := va_S.rf
  have hl := lv_entry ([.ref (g 6), .int (nI mm)]) (n := 2) (Nat.le_of_ble_eq_true rfl)
  rw [lg_entry_eq]
  generalize (lg_sl ([.ref (g 6), .int (nI mm)]) ++ List.replicate (2 - (lg_sl ([.ref (g 6), .int (nI mm)])).length) Slot.unset).toArray = ls at hl ⊢
  have hl : lv_has ls 2 [(0, .ref (g 6)), (1, .int (nI mm))] := hl
  have hok := bst_ok hF12 hPv hBs
  obtain ⟨m1, m2, m3, m4⟩ := ix_ok hF12 hTp hX hX0 hT (Or.inr hmz)
  have hov : oV o < 2 ^ 31 := by rcases hok with z | ⟨y, z, z2⟩ <;> rw [z] <;> simp only [oV] <;> first | omega | exact Nat.lt_trans (zok_lt z2 hF12).2 (by decide)
  refine lv_aload_n hx hb d_S_keepIfBetter_0 rfl (lv_at hl 0 rfl) ?_
  refine va_get (D := (dC, dI)) (ci := 3) (v := .int (nI (oV o))) (C := R_S) (T := F_S) (N := 7) hx hb hts i_S hown hK hP 0 rfl rfl 4 (by decide) (hts _ k_86) (fun _ h9 => h9) rfl d_S_keepIfBetter_1 ?_
  refine nx_if_eq (tgt := 19) hx hb d_S_keepIfBetter_4 (by decide) hov (fun h1 => ?_) (fun h1 => ?_)
  · have ho0 : o = none := hok.resolve_right (fun ⟨y, z, z2⟩ => by rw [z] at h1; have := (zok_lt z2 hF12).1; simp only [oV] at h1; omega)
    refine lv_aload_n hx hb d_S_keepIfBetter_19 rfl (lv_at hl 0 rfl) ?_
    refine lv_iload_n hx hb d_S_keepIfBetter_20 rfl (lv_at hl 1 rfl) ?_
    refine va_put (D := (dC, dI)) (ci := 3) (v := .int (nI mm)) (ty := (.int)) (C := R_S) (T := F_S) (N := 7) hx hb hts i_S ft_S ft_S_ok n_S hown hK hP hD hS 0 rfl rfl 4 (by decide) (hts _ k_86) (fun _ h9 => h9) rfl (by decide +kernel) rfl rfl (Nat.le_of_ble_eq_true rfl) d_S_keepIfBetter_21 (fun H locs hP hD hS => ?_)
    have hP : va_P (dC, dI) vwCl [(g 6, .inr (3, [.ref (g 7), .ref (g 8), .ref (g 9), .ref (g 10), .int (nI mm), .int (nI F), .int (nI k)])), (g 7, .inl (cL, 169, .inr (.inl (fun j => lN (xa j))))), (g 8, .inl (cL, 169, .inr (.inl (fun j => lN (xb j))))), (g 9, .inl (cI, 4, .inl (fun j => nI (en j)))), (g 10, .inl (cI, 4, .inl (fun j => nI (be j))))] H := hP
    have hD : va_D A [(g 6, .inr (3, [.ref (g 7), .ref (g 8), .ref (g 9), .ref (g 10), .int (nI mm), .int (nI F), .int (nI k)])), (g 7, .inl (cL, 169, .inr (.inl (fun j => lN (xa j))))), (g 8, .inl (cL, 169, .inr (.inl (fun j => lN (xb j))))), (g 9, .inl (cI, 4, .inl (fun j => nI (en j)))), (g 10, .inl (cI, 4, .inl (fun j => nI (be j))))] := hD
    refine lv_aload_n hx hb d_S_keepIfBetter_24 rfl (lv_at hl 0 rfl) ?_
    refine va_get (D := (dC, dI)) (ci := 3) (v := .ref (g 9)) (C := R_S) (T := F_S) (N := 7) hx hb hts i_S hown hK hP 0 rfl rfl 2 (by decide) (hts _ k_83) (fun _ h9 => h9) rfl d_S_keepIfBetter_25 ?_
    refine lv_iconst (v := nI 0) hx hb d_S_keepIfBetter_28 (by decide) ?_
    refine lv_aload_n hx hb d_S_keepIfBetter_29 rfl (lv_at hl 0 rfl) ?_
    refine va_get (D := (dC, dI)) (ci := 3) (v := .ref (g 10)) (C := R_S) (T := F_S) (N := 7) hx hb hts i_S hown hK hP 0 rfl rfl 3 (by decide) (hts _ k_84) (fun _ h9 => h9) rfl d_S_keepIfBetter_30 ?_
    refine lv_iconst (v := nI 0) hx hb d_S_keepIfBetter_33 (by decide) ?_
    refine lv_aload_n hx hb d_S_keepIfBetter_34 rfl (lv_at hl 0 rfl) ?_
    refine va_get (D := (dC, dI)) (ci := 3) (v := .int (nI k)) (C := R_S) (T := F_S) (N := 7) hx hb hts i_S hown hK hP 0 rfl rfl 6 (by decide) (hts _ k_88) (fun _ h9 => h9) rfl d_S_keepIfBetter_35 ?_
    refine va_copyi hx hb (hml.trans hl.1.symm) hown (hts _ k_432) (hts _ k_434) (hts _ k_433) (hts _ k_13) hK hP hD hS 3 4 0 0 rfl rfl rfl rfl rfl (sp := nI 0) (dp := nI 0) (n := nI k) (by decide) (by decide) (nI_pos (by omega)) (by rw [show (nI 0).toNatClampNeg = 0 by decide, nI_clamp (n := k) (by omega)]; omega) (by rw [show (nI 0).toNatClampNeg = 0 by decide, nI_clamp (n := k) (by omega)]; omega) (fun i hi => rfl) (Nat.le_trans (Nat.le_of_ble_eq_true rfl) hfr) (Nat.le_trans (Nat.le_of_ble_eq_true rfl) hlo) d_S_keepIfBetter_38 (fun H locs hP hD hS => ?_)
    rw [cp_eq (by omega)] at hP hD
    have hP : va_P (dC, dI) vwCl [(g 6, .inr (3, [.ref (g 7), .ref (g 8), .ref (g 9), .ref (g 10), .int (nI mm), .int (nI F), .int (nI k)])), (g 7, .inl (cL, 169, .inr (.inl (fun j => lN (xa j))))), (g 8, .inl (cL, 169, .inr (.inl (fun j => lN (xb j))))), (g 9, .inl (cI, 4, .inl (fun j => nI (en j)))), (g 10, .inl (cI, 4, .inl (fun j => nI ((cp en be k) j))))] H := hP
    have hD : va_D A [(g 6, .inr (3, [.ref (g 7), .ref (g 8), .ref (g 9), .ref (g 10), .int (nI mm), .int (nI F), .int (nI k)])), (g 7, .inl (cL, 169, .inr (.inl (fun j => lN (xa j))))), (g 8, .inl (cL, 169, .inr (.inl (fun j => lN (xb j))))), (g 9, .inl (cI, 4, .inl (fun j => nI (en j)))), (g 10, .inl (cI, 4, .inl (fun j => nI ((cp en be k) j))))] := hD
    exact W.vret hx hb hr (fun t ht hW => ⟨⟨(some mm, cp en be k), rfl, bs_take hTp hBs hmm hPb agr_cp (Or.inl ho0), by rw [ht]; exact hP, hD⟩, hS.F ht⟩) hS.2.2 d_S_keepIfBetter_41
  · obtain ⟨b0, e0, hbz⟩ := hok.resolve_left (fun z => by rw [z] at h1; exact absurd h1 (Nat.lt_irrefl 0))
    subst e0
    have hP : va_P (dC, dI) vwCl [(g 6, .inr (3, [.ref (g 7), .ref (g 8), .ref (g 9), .ref (g 10), .int (nI b0), .int (nI F), .int (nI k)])), (g 7, .inl (cL, 169, .inr (.inl (fun j => lN (xa j))))), (g 8, .inl (cL, 169, .inr (.inl (fun j => lN (xb j))))), (g 9, .inl (cI, 4, .inl (fun j => nI (en j)))), (g 10, .inl (cI, 4, .inl (fun j => nI (be j))))] s.heap := hP
    have hD : va_D A [(g 6, .inr (3, [.ref (g 7), .ref (g 8), .ref (g 9), .ref (g 10), .int (nI b0), .int (nI F), .int (nI k)])), (g 7, .inl (cL, 169, .inr (.inl (fun j => lN (xa j))))), (g 8, .inl (cL, 169, .inr (.inl (fun j => lN (xb j))))), (g 9, .inl (cI, 4, .inl (fun j => nI (en j)))), (g 10, .inl (cI, 4, .inl (fun j => nI (be j))))] := hD
    obtain ⟨b1, b2, b3, b4⟩ := ix_ok hF12 hTp hX hX0 hT (Or.inr hbz)
    refine lv_aload_n hx hb d_S_keepIfBetter_7 rfl (lv_at hl 0 rfl) ?_
    refine lv_iload_n hx hb d_S_keepIfBetter_8 rfl (lv_at hl 1 rfl) ?_
    refine lv_aload_n hx hb d_S_keepIfBetter_9 rfl (lv_at hl 0 rfl) ?_
    refine va_get (D := (dC, dI)) (ci := 3) (v := .int (nI b0)) (C := R_S) (T := F_S) (N := 7) hx hb hts i_S hown hK hP 0 rfl rfl 4 (by decide) (hts _ k_86) (fun _ h9 => h9) rfl d_S_keepIfBetter_10 ?_
    refine ro_calli (va_runV (As := [.int (nI mm), .int (nI b0)]) (rest := []) ⟨hx, hb, hml, hown, hts⟩ (c_S_order l g (nI b0) (nI F) (nI k) xa xb mm b0 m1 b1 m2 m3 m4 b2 b3 b4) (cwV 2 hts (gw_V k_426 k_423 k_425 ks_S_order k_4) rfl rfl rfl (by decide +kernel) ⟨Nat.le_trans (Nat.le_of_ble_eq_true rfl) hfr, Nat.le_trans (Nat.le_of_ble_eq_true rfl) hlo⟩) ⟨pr_blind, va_recv hK hP (ci := 3) (q0 := 0) rfl rfl, pr_at hC (hP.sub (ws' := [(g 6, .inr (3, [.ref (g 7), .ref (g 8), .ref (g 9), .ref (g 10), .int (nI b0), .int (nI F), .int (nI k)])), (g 7, .inl (cL, 169, .inr (.inl (fun j => lN (xa j))))), (g 8, .inl (cL, 169, .inr (.inl (fun j => lN (xb j)))))]) [0, 1, 2] rfl)⟩ rfl rfl hl.1 rfl (lv_room (Nat.le_of_ble_eq_true rfl)) d_S_keepIfBetter_13 ⟨hce, hsl⟩) (fun r9 h9 => ?_)
    subst h9
    rw [(hX _ hmz).1, (hX _ hmz).2, (hX _ hbz).1, (hX _ hbz).2]
    refine lv_if_ge (tgt := 41) hx hb d_S_keepIfBetter_16 (by decide) (fun h2 => ?_) (fun h2 => ?_)
    · have hze : ze TA TB b0 mm := Nat.not_lt.mp (fun z => absurd ((kI_negl (ma_cmp_3 _ _)).mpr (ma_cmp_neg.mpr z)) (Int32.not_lt.mpr h2))
      exact W.vret hx hb hr (fun t ht hW => ⟨⟨(some b0, be), rfl, bs_keep hTp hBs hmm hPb hze hbef, by rw [ht]; exact hP, hD⟩, hS.F ht⟩) hS.2.2 d_S_keepIfBetter_41
    · have hnz : ¬ ze TA TB b0 mm := fun z => Nat.not_lt.mpr z (ma_cmp_neg.mp ((kI_negl (ma_cmp_3 _ _)).mp (Int32.not_le.mp h2)))
      refine lv_aload_n hx hb d_S_keepIfBetter_19 rfl (lv_at hl 0 rfl) ?_
      refine lv_iload_n hx hb d_S_keepIfBetter_20 rfl (lv_at hl 1 rfl) ?_
      refine va_put (D := (dC, dI)) (ci := 3) (v := .int (nI mm)) (ty := (.int)) (C := R_S) (T := F_S) (N := 7) hx hb hts i_S ft_S ft_S_ok n_S hown hK hP hD hS 0 rfl rfl 4 (by decide) (hts _ k_86) (fun _ h9 => h9) rfl (by decide +kernel) rfl rfl (Nat.le_of_ble_eq_true rfl) d_S_keepIfBetter_21 (fun H locs hP hD hS => ?_)
      have hP : va_P (dC, dI) vwCl [(g 6, .inr (3, [.ref (g 7), .ref (g 8), .ref (g 9), .ref (g 10), .int (nI mm), .int (nI F), .int (nI k)])), (g 7, .inl (cL, 169, .inr (.inl (fun j => lN (xa j))))), (g 8, .inl (cL, 169, .inr (.inl (fun j => lN (xb j))))), (g 9, .inl (cI, 4, .inl (fun j => nI (en j)))), (g 10, .inl (cI, 4, .inl (fun j => nI (be j))))] H := hP
      have hD : va_D A [(g 6, .inr (3, [.ref (g 7), .ref (g 8), .ref (g 9), .ref (g 10), .int (nI mm), .int (nI F), .int (nI k)])), (g 7, .inl (cL, 169, .inr (.inl (fun j => lN (xa j))))), (g 8, .inl (cL, 169, .inr (.inl (fun j => lN (xb j))))), (g 9, .inl (cI, 4, .inl (fun j => nI (en j)))), (g 10, .inl (cI, 4, .inl (fun j => nI (be j))))] := hD
      refine lv_aload_n hx hb d_S_keepIfBetter_24 rfl (lv_at hl 0 rfl) ?_
      refine va_get (D := (dC, dI)) (ci := 3) (v := .ref (g 9)) (C := R_S) (T := F_S) (N := 7) hx hb hts i_S hown hK hP 0 rfl rfl 2 (by decide) (hts _ k_83) (fun _ h9 => h9) rfl d_S_keepIfBetter_25 ?_
      refine lv_iconst (v := nI 0) hx hb d_S_keepIfBetter_28 (by decide) ?_
      refine lv_aload_n hx hb d_S_keepIfBetter_29 rfl (lv_at hl 0 rfl) ?_
      refine va_get (D := (dC, dI)) (ci := 3) (v := .ref (g 10)) (C := R_S) (T := F_S) (N := 7) hx hb hts i_S hown hK hP 0 rfl rfl 3 (by decide) (hts _ k_84) (fun _ h9 => h9) rfl d_S_keepIfBetter_30 ?_
      refine lv_iconst (v := nI 0) hx hb d_S_keepIfBetter_33 (by decide) ?_
      refine lv_aload_n hx hb d_S_keepIfBetter_34 rfl (lv_at hl 0 rfl) ?_
      refine va_get (D := (dC, dI)) (ci := 3) (v := .int (nI k)) (C := R_S) (T := F_S) (N := 7) hx hb hts i_S hown hK hP 0 rfl rfl 6 (by decide) (hts _ k_88) (fun _ h9 => h9) rfl d_S_keepIfBetter_35 ?_
      refine va_copyi hx hb (hml.trans hl.1.symm) hown (hts _ k_432) (hts _ k_434) (hts _ k_433) (hts _ k_13) hK hP hD hS 3 4 0 0 rfl rfl rfl rfl rfl (sp := nI 0) (dp := nI 0) (n := nI k) (by decide) (by decide) (nI_pos (by omega)) (by rw [show (nI 0).toNatClampNeg = 0 by decide, nI_clamp (n := k) (by omega)]; omega) (by rw [show (nI 0).toNatClampNeg = 0 by decide, nI_clamp (n := k) (by omega)]; omega) (fun i hi => rfl) (Nat.le_trans (Nat.le_of_ble_eq_true rfl) hfr) (Nat.le_trans (Nat.le_of_ble_eq_true rfl) hlo) d_S_keepIfBetter_38 (fun H locs hP hD hS => ?_)
      rw [cp_eq (by omega)] at hP hD
      have hP : va_P (dC, dI) vwCl [(g 6, .inr (3, [.ref (g 7), .ref (g 8), .ref (g 9), .ref (g 10), .int (nI mm), .int (nI F), .int (nI k)])), (g 7, .inl (cL, 169, .inr (.inl (fun j => lN (xa j))))), (g 8, .inl (cL, 169, .inr (.inl (fun j => lN (xb j))))), (g 9, .inl (cI, 4, .inl (fun j => nI (en j)))), (g 10, .inl (cI, 4, .inl (fun j => nI ((cp en be k) j))))] H := hP
      have hD : va_D A [(g 6, .inr (3, [.ref (g 7), .ref (g 8), .ref (g 9), .ref (g 10), .int (nI mm), .int (nI F), .int (nI k)])), (g 7, .inl (cL, 169, .inr (.inl (fun j => lN (xa j))))), (g 8, .inl (cL, 169, .inr (.inl (fun j => lN (xb j))))), (g 9, .inl (cI, 4, .inl (fun j => nI (en j)))), (g 10, .inl (cI, 4, .inl (fun j => nI ((cp en be k) j))))] := hD
      exact W.vret hx hb hr (fun t ht hW => ⟨⟨(some mm, cp en be k), rfl, bs_take hTp hBs hmm hPb agr_cp (Or.inr ⟨b0, rfl, hnz⟩), by rw [ht]; exact hP, hD⟩, hS.F ht⟩) hS.2.2 d_S_keepIfBetter_41
set_option maxHeartbeats 4000000 in
set_option maxRecDepth 100000 in
theorem c_S_tryZonesFrom_0 (l : Launch) {dC : Nat → ClassId} {dI : Nat → Nat → Nat} {cI cL cT : ClassId} {sa : Nat → Nat} (sz : Nat) (g : Nat → Nat) (F k : Nat) (xa xb TA TB : Nat → Nat) (i fr : Nat) (lo o : Option Nat) (en be : Nat → Nat) (hF12 : F ≤ 12) (hk1 : 1 ≤ k) (hk4 : k ≤ 4) (hTp : ∀ j, 0 < TB j) (hX : ∀ j, zok F j → xa j = TA j ∧ xb j = TB j) (hX0 : xa 0 = 0 ∧ xb 0 = 1) (hT : ∀ j, zok F j → TA j < 2 ^ 63 ∧ TB j < 2 ^ 50) (hi : i + 0 + 1 = k) (hv : vp i en) (hf0 : fr = frm en i) (hfF : fr + 0 ≤ F) (hLo : isLo TA TB i en lo) (hBs : Bs TA TB k (PA F k i en) o be) : Met l y_S_tryZonesFrom (Cond.code y_S_tryZonesFrom b_S_tryZonesFrom 6 none :: gw) ({ frames := 3, cells := 0, slots := 0, locals := 330 } : Room) (wr dC dI cI cL cT sa [.ref (g 6), .int (nI i), .int (nI fr), .int (nI (oV lo))] [(g 6, .inr (3, [.ref (g 7), .ref (g 8), .ref (g 9), .ref (g 10), .int (nI (oV o)), .int (nI F), .int (nI k)])), (g 7, .inl (cL, 169, .inr (.inl (fun j => lN (xa j))))), (g 8, .inl (cL, 169, .inr (.inl (fun j => lN (xb j))))), (g 9, .inl (cI, 4, .inl (fun j => nI (en j)))), (g 10, .inl (cI, 4, .inl (fun j => nI (be j))))] sz) (va_Qv (fun (u : (Nat → Nat) × Option Nat × (Nat → Nat)) => agr i en u.1 ∧ Bs TA TB k (PB F k i en) u.2.1 u.2.2) (fun (u : (Nat → Nat) × Option Nat × (Nat → Nat)) => wB dC dI [(g 6, .inr (3, [.ref (g 7), .ref (g 8), .ref (g 9), .ref (g 10), .int (nI (oV o)), .int (nI F), .int (nI k)])), (g 7, .inl (cL, 169, .inr (.inl (fun j => lN (xa j))))), (g 8, .inl (cL, 169, .inr (.inl (fun j => lN (xb j))))), (g 9, .inl (cI, 4, .inl (fun j => nI (en j)))), (g 10, .inl (cI, 4, .inl (fun j => nI (be j))))] [(g 6, .inr (3, [.ref (g 7), .ref (g 8), .ref (g 9), .ref (g 10), .int (nI (oV u.2.1)), .int (nI F), .int (nI k)])), (g 7, .inl (cL, 169, .inr (.inl (fun j => lN (xa j))))), (g 8, .inl (cL, 169, .inr (.inl (fun j => lN (xb j))))), (g 9, .inl (cI, 4, .inl (fun j => nI ((u.1) j)))), (g 10, .inl (cI, 4, .inl (fun j => nI ((u.2.2) j))))] sz ()) (va_A [(g 6, .inr (3, [.ref (g 7), .ref (g 8), .ref (g 9), .ref (g 10), .int (nI (oV o)), .int (nI F), .int (nI k)])), (g 7, .inl (cL, 169, .inr (.inl (fun j => lN (xa j))))), (g 8, .inl (cL, 169, .inr (.inl (fun j => lN (xb j))))), (g 9, .inl (cI, 4, .inl (fun j => nI (en j)))), (g 10, .inl (cI, 4, .inl (fun j => nI (be j))))] sz)) 0 0 (va_A [(g 6, .inr (3, [.ref (g 7), .ref (g 8), .ref (g 9), .ref (g 10), .int (nI (oV o)), .int (nI F), .int (nI k)])), (g 7, .inl (cL, 169, .inr (.inl (fun j => lN (xa j))))), (g 8, .inl (cL, 169, .inr (.inl (fun j => lN (xb j))))), (g 9, .inl (cI, 4, .inl (fun j => nI (en j)))), (g 10, .inl (cI, 4, .inl (fun j => nI (be j))))] sz) := by
  refine Met.ofW (cc := b_S_tryZonesFrom) (maxL := 6) (ret := none) (by decide) rfl ?_
  intro p e s m args below meth c s₁ B hml hv
  obtain ⟨rfl, hsz, hC, hP, hD0⟩ := hv
  have hx := B.exec
  have hb := B.bytes
  have hr := B.returns
  have hts : ∀ w ∈ gw, w.before ([.ref (g 6), .int (nI i), .int (nI fr), .int (nI (oV lo))] : List Value).toArray s = true := fun w hw => atoms_spec (ws := Cond.code y_S_tryZonesFrom b_S_tryZonesFrom 6 none :: gw) B.pre w (List.mem_cons_of_mem _ hw)
  have hown : s.vm.findClass R_S = some m.cls := findClass_of_methodNamed B.named
  have hlocks := B.notSynchronized
  have hK := hC.1
  have hfr : 3 ≤ (headSpec (Cond.code y_S_tryZonesFrom b_S_tryZonesFrom 6 none :: gw) ({ frames := 3, cells := 0, slots := 0, locals := 330 } : Room)).room.frames := Nat.le_refl _
  have hlo : 330 ≤ (headSpec (Cond.code y_S_tryZonesFrom b_S_tryZonesFrom 6 none :: gw) ({ frames := 3, cells := 0, slots := 0, locals := 330 } : Room)).room.locals := Nat.le_refl _
  have hce : 0 ≤ (headSpec (Cond.code y_S_tryZonesFrom b_S_tryZonesFrom 6 none :: gw) ({ frames := 3, cells := 0, slots := 0, locals := 330 } : Room)).room.cells := Nat.zero_le _
  have hsl : 0 ≤ (headSpec (Cond.code y_S_tryZonesFrom b_S_tryZonesFrom 6 none :: gw) ({ frames := 3, cells := 0, slots := 0, locals := 330 } : Room)).room.slots := Nat.zero_le _
  subst hsz
  have hD := hD0.self (sz := s.heap.size)
  unfold wB
  generalize hAe : va_A [(g 6, .inr (3, [.ref (g 7), .ref (g 8), .ref (g 9), .ref (g 10), .int (nI (oV o)), .int (nI F), .int (nI k)])), (g 7, .inl (cL, 169, .inr (.inl (fun j => lN (xa j))))), (g 8, .inl (cL, 169, .inr (.inl (fun j => lN (xb j))))), (g 9, .inl (cI, 4, .inl (fun j => nI (en j)))), (g 10, .inl (cI, 4, .inl (fun j => nI (be j))))] s.heap.size = A at hD ⊢
  have hA : ∀ q : Nat, s.heap.size ≤ q → A q := fun q h => by rw [← hAe]; exact Or.inr h
  have hS : va_S A s.heap s.heap [] := va_S.rf
  have hl := lv_entry ([.ref (g 6), .int (nI i), .int (nI fr), .int (nI (oV lo))]) (n := 6) (Nat.le_of_ble_eq_true rfl)
  rw [lg_entry_eq]
  generalize (lg_sl ([.ref (g 6), .int (nI i), .int (nI fr), .int (nI (oV lo))]) ++ List.replicate (6 - (lg_sl ([.ref (g 6), .int (nI i), .int (nI fr), .int (nI (oV lo))])).length) Slot.unset).toArray = ls at hl ⊢
  have hl : lv_has ls 6 [(0, .ref (g 6)), (1, .int (nI i)), (2, .int (nI fr)), (3, .int (nI (oV lo)))] := hl
  have hlz := lo_ok hv (by omega) hF12 hLo
  obtain ⟨l1, l2, l3, l4⟩ := ix_ok hF12 hTp hX hX0 hT hlz
  have hf1 : 1 ≤ fr := by rw [hf0]; exact frm_1
  refine lv_iload_n hx hb d_S_tryZonesFrom_0 rfl (lv_at hl 1 rfl) ?_
  refine lv_aload_n hx hb d_S_tryZonesFrom_1 rfl (lv_at hl 0 rfl) ?_
  refine va_get (D := (dC, dI)) (ci := 3) (v := .int (nI k)) (C := R_S) (T := F_S) (N := 7) hx hb hts i_S hown hK hP 0 rfl rfl 6 (by decide) (hts _ k_88) (fun _ h9 => h9) rfl d_S_tryZonesFrom_2 ?_
  refine lv_iconst (v := nI 1) hx hb d_S_tryZonesFrom_5 (by decide) ?_
  refine nx_isub hx hb d_S_tryZonesFrom_6 (by omega) ?_
  refine nx_icmp_lt (tgt := 38) hx hb d_S_tryZonesFrom_7 (by decide) (by omega) (by omega) (fun h1 => ?_) (fun h1 => ?_)
  · exact absurd h1 (by omega)
  · have hz : zok F (fr * 13 + F) := zok_of hf1 (by omega) (Nat.le_refl F) hF12
    obtain ⟨z1, z2, z3, z4⟩ := ix_ok hF12 hTp hX hX0 hT (Or.inr hz)
    refine lv_aload_n hx hb d_S_tryZonesFrom_10 rfl (lv_at hl 0 rfl) ?_
    refine va_get (D := (dC, dI)) (ci := 3) (v := .ref (g 9)) (C := R_S) (T := F_S) (N := 7) hx hb hts i_S hown hK hP 0 rfl rfl 2 (by decide) (hts _ k_83) (fun _ h9 => h9) rfl d_S_tryZonesFrom_11 ?_
    refine lv_iload_n hx hb d_S_tryZonesFrom_14 rfl (lv_at hl 1 rfl) ?_
    refine lv_aload_n hx hb d_S_tryZonesFrom_15 rfl (lv_at hl 0 rfl) ?_
    refine va_get (D := (dC, dI)) (ci := 3) (v := .int (nI F)) (C := R_S) (T := F_S) (N := 7) hx hb hts i_S hown hK hP 0 rfl rfl 5 (by decide) (hts _ k_87) (fun _ h9 => h9) rfl d_S_tryZonesFrom_16 ?_
    refine nx_iast hx hb hK hP hD hS 3 0 rfl rfl (k := i) (x := nI F) (by omega) (by decide) d_S_tryZonesFrom_19 (fun H locs hP hD hS => ?_)
    have hP : va_P (dC, dI) vwCl [(g 6, .inr (3, [.ref (g 7), .ref (g 8), .ref (g 9), .ref (g 10), .int (nI (oV o)), .int (nI F), .int (nI k)])), (g 7, .inl (cL, 169, .inr (.inl (fun j => lN (xa j))))), (g 8, .inl (cL, 169, .inr (.inl (fun j => lN (xb j))))), (g 9, .inl (cI, 4, .inl (upd (fun j => nI (en j)) (i) (nI F)))), (g 10, .inl (cI, 4, .inl (fun j => nI (be j))))] H := hP
    have hD : va_D A [(g 6, .inr (3, [.ref (g 7), .ref (g 8), .ref (g 9), .ref (g 10), .int (nI (oV o)), .int (nI F), .int (nI k)])), (g 7, .inl (cL, 169, .inr (.inl (fun j => lN (xa j))))), (g 8, .inl (cL, 169, .inr (.inl (fun j => lN (xb j))))), (g 9, .inl (cI, 4, .inl (upd (fun j => nI (en j)) (i) (nI F)))), (g 10, .inl (cI, 4, .inl (fun j => nI (be j))))] := hD
    rw [up_eq] at hP hD
    refine lv_aload_n hx hb d_S_tryZonesFrom_20 rfl (lv_at hl 0 rfl) ?_
    refine lv_aload_n hx hb d_S_tryZonesFrom_21 rfl (lv_at hl 0 rfl) ?_
    refine lv_iload_n hx hb d_S_tryZonesFrom_22 rfl (lv_at hl 3 rfl) ?_
    refine lv_iload_n hx hb d_S_tryZonesFrom_23 rfl (lv_at hl 2 rfl) ?_
    refine lv_aload_n hx hb d_S_tryZonesFrom_24 rfl (lv_at hl 0 rfl) ?_
    refine va_get (D := (dC, dI)) (ci := 3) (v := .int (nI F)) (C := R_S) (T := F_S) (N := 7) hx hb hts i_S hown hK hP 0 rfl rfl 5 (by decide) (hts _ k_87) (fun _ h9 => h9) rfl d_S_tryZonesFrom_25 ?_
    refine ro_calli (va_runS (As := [.int (nI fr), .int (nI F)]) (rest := [.int (nI (oV lo)), .ref (g 6), .ref (g 6)]) ⟨hx, hb, hml, hown, hts⟩ (c_S_zone l fr F) (cwS 2 hts (gw_S k_408 k_406 k_407 k_4) rfl rfl rfl (by decide +kernel) ⟨Nat.le_trans (Nat.le_of_ble_eq_true rfl) hfr, Nat.le_trans (Nat.le_of_ble_eq_true rfl) hlo⟩) ⟨pr_blind, pr_at hC (fun k q h => by simp at h)⟩ rfl rfl hl.1 rfl (lv_room (Nat.le_of_ble_eq_true rfl)) d_S_tryZonesFrom_28 ⟨hce, hsl⟩) (fun r9 h9 => ?_)
    subst h9
    refine ro_calli (va_runV (As := [.int (nI (oV lo)), .int (nI (fr * 13 + F))]) (rest := [.ref (g 6)]) ⟨hx, hb, hml, hown, hts⟩ (c_S_longer l g (nI (oV o)) (nI F) (nI k) xa xb (oV lo) (fr * 13 + F) l1 z1 l2 l3 l4 z2 z3 z4) (cwV 2 hts (gw_V k_422 k_419 k_421 ks_S_longer k_4) rfl rfl rfl (by decide +kernel) ⟨Nat.le_trans (Nat.le_of_ble_eq_true rfl) hfr, Nat.le_trans (Nat.le_of_ble_eq_true rfl) hlo⟩) ⟨pr_blind, va_recv hK hP (ci := 3) (q0 := 0) rfl rfl, pr_at hC (hP.sub (ws' := [(g 6, .inr (3, [.ref (g 7), .ref (g 8), .ref (g 9), .ref (g 10), .int (nI (oV o)), .int (nI F), .int (nI k)])), (g 7, .inl (cL, 169, .inr (.inl (fun j => lN (xa j))))), (g 8, .inl (cL, 169, .inr (.inl (fun j => lN (xb j)))))]) [0, 1, 2] rfl)⟩ rfl rfl hl.1 rfl (lv_room (Nat.le_of_ble_eq_true rfl)) d_S_tryZonesFrom_31 ⟨hce, hsl⟩) (fun r9 h9 => ?_)
    subst h9
    have hvs : vs F k (up en i F) := by rw [← hi]; exact ⟨vp_up hv (by omega), by show up en i F i = F; exact up_s⟩
    have hst : isL TA TB k (up en i F) (if xa (fr * 13 + F) * xb (oV lo) < xa (oV lo) * xb (fr * 13 + F) then oV lo else fr * 13 + F) := by rw [← hi]; exact lo_step hTp hX hX0 (x := F) hLo hlz hf0 hz
    have hmz : zok F (if xa (fr * 13 + F) * xb (oV lo) < xa (oV lo) * xb (fr * 13 + F) then oV lo else fr * 13 + F) := by obtain ⟨⟨y, hy, ey⟩, -⟩ := hst; rw [ey]; exact zok_vs hvs hy hF12
    have hPc := hP.sub (ws' := [(g 6, .inr (3, [.ref (g 7), .ref (g 8), .ref (g 9), .ref (g 10), .int (nI (oV o)), .int (nI F), .int (nI k)])), (g 7, .inl (cL, 169, .inr (.inl (fun j => lN (xa j))))), (g 8, .inl (cL, 169, .inr (.inl (fun j => lN (xb j))))), (g 9, .inl (cI, 4, .inl (fun j => nI ((up en i F) j)))), (g 10, .inl (cI, 4, .inl (fun j => nI (be j))))]) [0, 1, 2, 3, 4] rfl
    have hDc := hD.sub (ws' := [(g 6, .inr (3, [.ref (g 7), .ref (g 8), .ref (g 9), .ref (g 10), .int (nI (oV o)), .int (nI F), .int (nI k)])), (g 7, .inl (cL, 169, .inr (.inl (fun j => lN (xa j))))), (g 8, .inl (cL, 169, .inr (.inl (fun j => lN (xb j))))), (g 9, .inl (cI, 4, .inl (fun j => nI ((up en i F) j)))), (g 10, .inl (cI, 4, .inl (fun j => nI (be j))))]) [0, 1, 2, 3, 4] (by decide) rfl
    have hFc := va_free (wc := [(g 6, .inr (3, [.ref (g 7), .ref (g 8), .ref (g 9), .ref (g 10), .int (nI (oV o)), .int (nI F), .int (nI k)])), (g 7, .inl (cL, 169, .inr (.inl (fun j => lN (xa j))))), (g 8, .inl (cL, 169, .inr (.inl (fun j => lN (xb j))))), (g 9, .inl (cI, 4, .inl (fun j => nI ((up en i F) j)))), (g 10, .inl (cI, 4, .inl (fun j => nI (be j))))]) hD hS hA [0, 1, 2, 3, 4] rfl
    refine va_callv (va_runV (As := [.int (nI (if xa (fr * 13 + F) * xb (oV lo) < xa (oV lo) * xb (fr * 13 + F) then oV lo else fr * 13 + F))]) (rest := []) ⟨hx, hb, hml, hown, hts⟩ (c_S_keepIfBetter l _ g F k xa xb TA TB (if xa (fr * 13 + F) * xb (oV lo) < xa (oV lo) * xb (fr * 13 + F) then oV lo else fr * 13 + F) o (up en i F) be (PA F k i en) (PB F k i en) hF12 hk1 hk4 hTp hX hX0 hT hst hmz (fun e h => h.1) (fun e => leaf_P (by omega) hvs) (fun e h => leaf_bef (by omega) h) hBs) (cwV 1 hts (gw_V k_431 k_428 k_430 ks_S_keepIfBetter k_4) rfl rfl rfl (by decide +kernel) ⟨Nat.le_trans (Nat.le_of_ble_eq_true rfl) hfr, Nat.le_trans (Nat.le_of_ble_eq_true rfl) hlo⟩) ⟨wr_blind, va_recv hK hP (ci := 3) (q0 := 0) rfl rfl, wr_at hC hPc hDc⟩ rfl rfl hl.1 rfl (lv_room (Nat.le_of_ble_eq_true rfl)) d_S_tryZonesFrom_34 ⟨hce, hsl⟩) hS (fun q _ h => hFc q h) hFc (fun u t H1 locs ht hvm hw hB hz1 hk1 hS => ?_)
    obtain ⟨hP1, hD1⟩ := hB
    rw [ht] at hP1
    obtain ⟨hP, hD⟩ := va_join (wr := []) (w1 := [(g 6, .inr (3, [.ref (g 7), .ref (g 8), .ref (g 9), .ref (g 10), .int (nI (oV u.1)), .int (nI F), .int (nI k)])), (g 7, .inl (cL, 169, .inr (.inl (fun j => lN (xa j))))), (g 8, .inl (cL, 169, .inr (.inl (fun j => lN (xb j))))), (g 9, .inl (cI, 4, .inl (fun j => nI ((up en i F) j)))), (g 10, .inl (cI, 4, .inl (fun j => nI ((u.2) j))))]) hP hD [0, 1, 2, 3, 4] [] rfl rfl (by decide) (by decide) hk1 hFc hP1 hD1
    generalize H1 = H at hP hS ⊢
    have hP := hP.sub (ws' := [(g 6, .inr (3, [.ref (g 7), .ref (g 8), .ref (g 9), .ref (g 10), .int (nI (oV u.1)), .int (nI F), .int (nI k)])), (g 7, .inl (cL, 169, .inr (.inl (fun j => lN (xa j))))), (g 8, .inl (cL, 169, .inr (.inl (fun j => lN (xb j))))), (g 9, .inl (cI, 4, .inl (fun j => nI ((up en i F) j)))), (g 10, .inl (cI, 4, .inl (fun j => nI ((u.2) j))))]) [0, 1, 2, 3, 4] rfl
    have hD := hD.sub (ws' := [(g 6, .inr (3, [.ref (g 7), .ref (g 8), .ref (g 9), .ref (g 10), .int (nI (oV u.1)), .int (nI F), .int (nI k)])), (g 7, .inl (cL, 169, .inr (.inl (fun j => lN (xa j))))), (g 8, .inl (cL, 169, .inr (.inl (fun j => lN (xb j))))), (g 9, .inl (cI, 4, .inl (fun j => nI ((up en i F) j)))), (g 10, .inl (cI, 4, .inl (fun j => nI ((u.2) j))))]) [0, 1, 2, 3, 4] (by decide) rfl
    exact W.vret hx hb hr (fun t ht hW => ⟨⟨(up en i F, u.1, u.2), rfl, ⟨agr_up, hw⟩, by rw [ht]; exact hP, hD⟩, hS.F ht⟩) hS.2.2 d_S_tryZonesFrom_37
section
variable {p : Program} {l : Launch} {e : Env} {R : Room} {s : State} {m : MethodId} {args : Array Value} {below : List Frame} {meth : Method} {c : Code} {cells slots : Nat} {Q : State → Prop} {A : Nat → Prop}
variable {dC : Nat → ClassId} {dI : Nat → Nat → Nat} {cI cL cT : ClassId} {sa : Nat → Nat}
set_option maxHeartbeats 4000000 in
set_option maxRecDepth 100000 in
theorem l_S_try1 (hF : CallFix p m c b_S_tryZonesFrom 6 s args gw R_S) (hC : CT dC dI cI cL cT sa s) {g : Nat → Nat} {F k : Nat} {xa xb TA TB : Nat → Nat} {i fr : Nat} {lo : Option Nat} {en : Nat → Nat} (hF12 : F ≤ 12) (hk1 : 1 ≤ k) (hk4 : k ≤ 4) (hTp : ∀ j, 0 < TB j) (hX : ∀ j, zok F j → xa j = TA j ∧ xb j = TB j) (hX0 : xa 0 = 0 ∧ xb 0 = 1) (hT : ∀ j, zok F j → TA j < 2 ^ 63 ∧ TB j < 2 ^ 50) (hi : i + 1 + 1 = k) (hv : vp i en) (hf0 : fr = frm en i) (hfF : fr + 1 ≤ F) (hLo : isLo TA TB i en lo) (hfr : 4 ≤ R.frames) (hlo : 360 ≤ R.locals) (hce : cells ≤ R.cells) (hsl : slots ≤ R.slots) (hA : ∀ q : Nat, s.heap.size ≤ q → A q) (kend : ∀ (en1 : Nat → Nat) (o : Option Nat) (be : Nat → Nat), agr i en en1 →  Bs TA TB k (PB F k i en) o be → ∀ (H : Heap) (locs : List Loc) (ls : Array Slot), va_P (dC, dI) vwCl [(g 6, .inr (3, [.ref (g 7), .ref (g 8), .ref (g 9), .ref (g 10), .int (nI (oV o)), .int (nI F), .int (nI k)])), (g 7, .inl (cL, 169, .inr (.inl (fun j => lN (xa j))))), (g 8, .inl (cL, 169, .inr (.inl (fun j => lN (xb j))))), (g 9, .inl (cI, 4, .inl (fun j => nI (en1 j)))), (g 10, .inl (cI, 4, .inl (fun j => nI (be j))))] H → va_D A [(g 6, .inr (3, [.ref (g 7), .ref (g 8), .ref (g 9), .ref (g 10), .int (nI (oV o)), .int (nI F), .int (nI k)])), (g 7, .inl (cL, 169, .inr (.inl (fun j => lN (xa j))))), (g 8, .inl (cL, 169, .inr (.inl (fun j => lN (xb j))))), (g 9, .inl (cI, 4, .inl (fun j => nI (en1 j)))), (g 10, .inl (cI, 4, .inl (fun j => nI (be j))))] → va_S A s.heap H locs → lv_has ls 6 [(0, .ref (g 6)), (1, .int (nI i)), (2, .int (nI fr)), (3, .int (nI (oV lo))), (4, .int (nI 1)), (5, .int (nI (F - 1 + 1)))] → W p l e R s m args below meth c H locs cells slots Q (F0 m 99 ls [])) : ∀ j x : Nat, F - 1 + 1 - x < j → fr ≤ x → x ≤ F - 1 + 1 → ∀ (en1 : Nat → Nat) (o : Option Nat) (be : Nat → Nat), agr i en en1 →  Bs TA TB k (PA F k (i + 1) (up en i x)) o be → ∀ (H : Heap) (locs : List Loc) (ls : Array Slot), va_P (dC, dI) vwCl [(g 6, .inr (3, [.ref (g 7), .ref (g 8), .ref (g 9), .ref (g 10), .int (nI (oV o)), .int (nI F), .int (nI k)])), (g 7, .inl (cL, 169, .inr (.inl (fun j => lN (xa j))))), (g 8, .inl (cL, 169, .inr (.inl (fun j => lN (xb j))))), (g 9, .inl (cI, 4, .inl (fun j => nI (en1 j)))), (g 10, .inl (cI, 4, .inl (fun j => nI (be j))))] H → va_D A [(g 6, .inr (3, [.ref (g 7), .ref (g 8), .ref (g 9), .ref (g 10), .int (nI (oV o)), .int (nI F), .int (nI k)])), (g 7, .inl (cL, 169, .inr (.inl (fun j => lN (xa j))))), (g 8, .inl (cL, 169, .inr (.inl (fun j => lN (xb j))))), (g 9, .inl (cI, 4, .inl (fun j => nI (en1 j)))), (g 10, .inl (cI, 4, .inl (fun j => nI (be j))))] → va_S A s.heap H locs → lv_has ls 6 [(0, .ref (g 6)), (1, .int (nI i)), (2, .int (nI fr)), (3, .int (nI (oV lo))), (4, .int (nI 1)), (5, .int (nI x))] → W p l e R s m args below meth c H locs cells slots Q (F0 m 51 ls []) := by
  obtain ⟨hx, hb, hml, hown, hts⟩ := id hF
  have hK := hC.1
  have hlz := lo_ok hv (by omega) hF12 hLo
  obtain ⟨l1, l2, l3, l4⟩ := ix_ok hF12 hTp hX hX0 hT hlz
  have hf1 : 1 ≤ fr := by rw [hf0]; exact frm_1
  intro j
  induction j with
  | zero => intro i hj; omega
  | succ j ih =>
    intro x hj hfx hxF en1 o be hag hBs H locs ls hP hD hS hl
    refine lv_iload hx hb d_S_tryZonesFrom_51 (lv_at hl 5 rfl) ?_
    refine lv_aload_n hx hb d_S_tryZonesFrom_53 rfl (lv_at hl 0 rfl) ?_
    refine va_get (D := (dC, dI)) (ci := 3) (v := .int (nI F)) (C := R_S) (T := F_S) (N := 7) hx hb hts i_S hown hK hP 0 rfl rfl 5 (by decide) (hts _ k_87) (fun _ h9 => h9) rfl d_S_tryZonesFrom_54 ?_
    refine lv_iload hx hb d_S_tryZonesFrom_57 (lv_at hl 4 rfl) ?_
    refine nx_isub hx hb d_S_tryZonesFrom_59 (by omega) ?_
    refine nx_icmp_gt (tgt := 99) hx hb d_S_tryZonesFrom_60 (by decide) (by omega) (by omega) (fun h1 => ?_) (fun h1 => ?_)
    · have hie : x = F - 1 + 1 := by omega
      subst hie
      exact kend en1 o be hag (Bs_congr hBs (fun e => PA_end hi)) H locs ls hP hD hS hl
    · have hz : zok F (fr * 13 + x) := zok_of hf1 hfx (by omega) hF12
      obtain ⟨z1, z2, z3, z4⟩ := ix_ok hF12 hTp hX hX0 hT (Or.inr hz)
      refine lv_aload_n hx hb d_S_tryZonesFrom_63 rfl (lv_at hl 0 rfl) ?_
      refine va_get (D := (dC, dI)) (ci := 3) (v := .ref (g 9)) (C := R_S) (T := F_S) (N := 7) hx hb hts i_S hown hK hP 0 rfl rfl 2 (by decide) (hts _ k_83) (fun _ h9 => h9) rfl d_S_tryZonesFrom_64 ?_
      refine lv_iload_n hx hb d_S_tryZonesFrom_67 rfl (lv_at hl 1 rfl) ?_
      refine lv_iload hx hb d_S_tryZonesFrom_68 (lv_at hl 5 rfl) ?_
      refine nx_iast hx hb hK hP hD hS 3 0 rfl rfl (k := i) (x := nI x) (by omega) (by decide) d_S_tryZonesFrom_70 (fun H locs hP hD hS => ?_)
      have hP : va_P (dC, dI) vwCl [(g 6, .inr (3, [.ref (g 7), .ref (g 8), .ref (g 9), .ref (g 10), .int (nI (oV o)), .int (nI F), .int (nI k)])), (g 7, .inl (cL, 169, .inr (.inl (fun j => lN (xa j))))), (g 8, .inl (cL, 169, .inr (.inl (fun j => lN (xb j))))), (g 9, .inl (cI, 4, .inl (upd (fun j => nI (en1 j)) (i) (nI x)))), (g 10, .inl (cI, 4, .inl (fun j => nI (be j))))] H := hP
      have hD : va_D A [(g 6, .inr (3, [.ref (g 7), .ref (g 8), .ref (g 9), .ref (g 10), .int (nI (oV o)), .int (nI F), .int (nI k)])), (g 7, .inl (cL, 169, .inr (.inl (fun j => lN (xa j))))), (g 8, .inl (cL, 169, .inr (.inl (fun j => lN (xb j))))), (g 9, .inl (cI, 4, .inl (upd (fun j => nI (en1 j)) (i) (nI x)))), (g 10, .inl (cI, 4, .inl (fun j => nI (be j))))] := hD
      rw [up_eq] at hP hD
      refine lv_aload_n hx hb d_S_tryZonesFrom_71 rfl (lv_at hl 0 rfl) ?_
      refine lv_iload_n hx hb d_S_tryZonesFrom_72 rfl (lv_at hl 1 rfl) ?_
      refine lv_iconst (v := nI 1) hx hb d_S_tryZonesFrom_73 (by decide) ?_
      refine nx_iadd hx hb d_S_tryZonesFrom_74 ?_
      refine lv_iload hx hb d_S_tryZonesFrom_75 (lv_at hl 5 rfl) ?_
      refine lv_iconst (v := nI 1) hx hb d_S_tryZonesFrom_77 (by decide) ?_
      refine nx_iadd hx hb d_S_tryZonesFrom_78 ?_
      refine lv_aload_n hx hb d_S_tryZonesFrom_79 rfl (lv_at hl 0 rfl) ?_
      refine lv_iload_n hx hb d_S_tryZonesFrom_80 rfl (lv_at hl 3 rfl) ?_
      refine lv_iload_n hx hb d_S_tryZonesFrom_81 rfl (lv_at hl 2 rfl) ?_
      refine lv_iload hx hb d_S_tryZonesFrom_82 (lv_at hl 5 rfl) ?_
      refine ro_calli (va_runS (As := [.int (nI fr), .int (nI x)]) (rest := [.int (nI (oV lo)), .ref (g 6), .int (nI (x + 1)), .int (nI (i + 1)), .ref (g 6)]) ⟨hx, hb, hml, hown, hts⟩ (c_S_zone l fr x) (cwS 2 hts (gw_S k_408 k_406 k_407 k_4) rfl rfl rfl (by decide +kernel) ⟨Nat.le_trans (Nat.le_of_ble_eq_true rfl) hfr, Nat.le_trans (Nat.le_of_ble_eq_true rfl) hlo⟩) ⟨pr_blind, pr_at hC (fun k q h => by simp at h)⟩ rfl rfl hl.1 rfl (lv_room (Nat.le_of_ble_eq_true rfl)) d_S_tryZonesFrom_84 ⟨hce, hsl⟩) (fun r9 h9 => ?_)
      subst h9
      refine ro_calli (va_runV (As := [.int (nI (oV lo)), .int (nI (fr * 13 + x))]) (rest := [.int (nI (x + 1)), .int (nI (i + 1)), .ref (g 6)]) ⟨hx, hb, hml, hown, hts⟩ (c_S_longer l g (nI (oV o)) (nI F) (nI k) xa xb (oV lo) (fr * 13 + x) l1 z1 l2 l3 l4 z2 z3 z4) (cwV 2 hts (gw_V k_422 k_419 k_421 ks_S_longer k_4) rfl rfl rfl (by decide +kernel) ⟨Nat.le_trans (Nat.le_of_ble_eq_true rfl) hfr, Nat.le_trans (Nat.le_of_ble_eq_true rfl) hlo⟩) ⟨pr_blind, va_recv hK hP (ci := 3) (q0 := 0) rfl rfl, pr_at hC (hP.sub (ws' := [(g 6, .inr (3, [.ref (g 7), .ref (g 8), .ref (g 9), .ref (g 10), .int (nI (oV o)), .int (nI F), .int (nI k)])), (g 7, .inl (cL, 169, .inr (.inl (fun j => lN (xa j))))), (g 8, .inl (cL, 169, .inr (.inl (fun j => lN (xb j)))))]) [0, 1, 2] rfl)⟩ rfl rfl hl.1 rfl (lv_room (Nat.le_of_ble_eq_true rfl)) d_S_tryZonesFrom_87 ⟨hce, hsl⟩) (fun r9 h9 => ?_)
      subst h9
      have hst := lo_step hTp hX hX0 (x := x) (isLo_ext hag hLo) hlz (hf0.trans (agr_frm hag (Nat.le_refl i))) hz
      have hPc := hP.sub (ws' := [(g 6, .inr (3, [.ref (g 7), .ref (g 8), .ref (g 9), .ref (g 10), .int (nI (oV o)), .int (nI F), .int (nI k)])), (g 7, .inl (cL, 169, .inr (.inl (fun j => lN (xa j))))), (g 8, .inl (cL, 169, .inr (.inl (fun j => lN (xb j))))), (g 9, .inl (cI, 4, .inl (fun j => nI ((up en1 i x) j)))), (g 10, .inl (cI, 4, .inl (fun j => nI (be j))))]) [0, 1, 2, 3, 4] rfl
      have hDc := hD.sub (ws' := [(g 6, .inr (3, [.ref (g 7), .ref (g 8), .ref (g 9), .ref (g 10), .int (nI (oV o)), .int (nI F), .int (nI k)])), (g 7, .inl (cL, 169, .inr (.inl (fun j => lN (xa j))))), (g 8, .inl (cL, 169, .inr (.inl (fun j => lN (xb j))))), (g 9, .inl (cI, 4, .inl (fun j => nI ((up en1 i x) j)))), (g 10, .inl (cI, 4, .inl (fun j => nI (be j))))]) [0, 1, 2, 3, 4] (by decide) rfl
      have hFc := va_free (wc := [(g 6, .inr (3, [.ref (g 7), .ref (g 8), .ref (g 9), .ref (g 10), .int (nI (oV o)), .int (nI F), .int (nI k)])), (g 7, .inl (cL, 169, .inr (.inl (fun j => lN (xa j))))), (g 8, .inl (cL, 169, .inr (.inl (fun j => lN (xb j))))), (g 9, .inl (cI, 4, .inl (fun j => nI ((up en1 i x) j)))), (g 10, .inl (cI, 4, .inl (fun j => nI (be j))))]) hD hS hA [0, 1, 2, 3, 4] rfl
      refine va_callv (va_runV (As := [.int (nI (i + 1)), .int (nI (x + 1)), .int (nI (if xa (fr * 13 + x) * xb (oV lo) < xa (oV lo) * xb (fr * 13 + x) then oV lo else fr * 13 + x))]) (rest := []) ⟨hx, hb, hml, hown, hts⟩ (c_S_tryZonesFrom_0 l _ g F k xa xb TA TB (i + 1) (x + 1) (some (if xa (fr * 13 + x) * xb (oV lo) < xa (oV lo) * xb (fr * 13 + x) then oV lo else fr * 13 + x)) o (up en1 i x) be hF12 hk1 hk4 hTp hX hX0 hT (by omega) (vp_up (agr_vp hag hv) (by rw [← agr_frm hag (Nat.le_refl i)]; omega)) (by rw [frm_s, up_s]) (by omega) hst (Bs_congr hBs (fun e => PA_ext (agr_upx hag)))) (cwV 3 hts (gw_V k_418 k_415 k_417 ks_S_tryZonesFrom k_4) rfl rfl rfl (by decide +kernel) ⟨Nat.le_trans (Nat.le_of_ble_eq_true rfl) hfr, Nat.le_trans (Nat.le_of_ble_eq_true rfl) hlo⟩) ⟨wr_blind, va_recv hK hP (ci := 3) (q0 := 0) rfl rfl, wr_at hC hPc hDc⟩ rfl rfl hl.1 rfl (lv_room (Nat.le_of_ble_eq_true rfl)) d_S_tryZonesFrom_90 ⟨hce, hsl⟩) hS (fun q _ h => hFc q h) hFc (fun u t H1 locs ht hvm hw hB hz1 hk1 hS => ?_)
      obtain ⟨hP1, hD1⟩ := hB
      rw [ht] at hP1
      obtain ⟨hP, hD⟩ := va_join (wr := []) (w1 := [(g 6, .inr (3, [.ref (g 7), .ref (g 8), .ref (g 9), .ref (g 10), .int (nI (oV u.2.1)), .int (nI F), .int (nI k)])), (g 7, .inl (cL, 169, .inr (.inl (fun j => lN (xa j))))), (g 8, .inl (cL, 169, .inr (.inl (fun j => lN (xb j))))), (g 9, .inl (cI, 4, .inl (fun j => nI ((u.1) j)))), (g 10, .inl (cI, 4, .inl (fun j => nI ((u.2.2) j))))]) hP hD [0, 1, 2, 3, 4] [] rfl rfl (by decide) (by decide) hk1 hFc hP1 hD1
      generalize H1 = H at hP hS ⊢
      have hP := hP.sub (ws' := [(g 6, .inr (3, [.ref (g 7), .ref (g 8), .ref (g 9), .ref (g 10), .int (nI (oV u.2.1)), .int (nI F), .int (nI k)])), (g 7, .inl (cL, 169, .inr (.inl (fun j => lN (xa j))))), (g 8, .inl (cL, 169, .inr (.inl (fun j => lN (xb j))))), (g 9, .inl (cI, 4, .inl (fun j => nI ((u.1) j)))), (g 10, .inl (cI, 4, .inl (fun j => nI ((u.2.2) j))))]) [0, 1, 2, 3, 4] rfl
      have hD := hD.sub (ws' := [(g 6, .inr (3, [.ref (g 7), .ref (g 8), .ref (g 9), .ref (g 10), .int (nI (oV u.2.1)), .int (nI F), .int (nI k)])), (g 7, .inl (cL, 169, .inr (.inl (fun j => lN (xa j))))), (g 8, .inl (cL, 169, .inr (.inl (fun j => lN (xb j))))), (g 9, .inl (cI, 4, .inl (fun j => nI ((u.1) j)))), (g 10, .inl (cI, 4, .inl (fun j => nI ((u.2.2) j))))]) [0, 1, 2, 3, 4] (by decide) rfl
      refine nx_inc (lv' := [(5, .int (nI (x + 1))), (0, .ref (g 6)), (1, .int (nI i)), (2, .int (nI fr)), (3, .int (nI (oV lo))), (4, .int (nI 1))]) hx hb d_S_tryZonesFrom_93 hl (k := 5) rfl (by decide) rfl (fun ls hl => ?_)
      refine lv_goto (tgt := 51) hx hb d_S_tryZonesFrom_96 (by decide) ?_
      exact ih (x + 1) (by omega) (by omega) (by omega) u.1 u.2.1 u.2.2 (hag.trans (agr_up.trans (hw.1.mono (by omega)))) (Bs_congr hw.2 (fun e => (PB_ext (agr_upx hag).symm).trans PB_step)) H locs ls hP hD hS (lv_sub hl [1, 2, 3, 4, 5, 0] rfl)
end
set_option maxHeartbeats 4000000 in
set_option maxRecDepth 100000 in
theorem c_S_tryZonesFrom_1 (l : Launch) {dC : Nat → ClassId} {dI : Nat → Nat → Nat} {cI cL cT : ClassId} {sa : Nat → Nat} (sz : Nat) (g : Nat → Nat) (F k : Nat) (xa xb TA TB : Nat → Nat) (i fr : Nat) (lo o : Option Nat) (en be : Nat → Nat) (hF12 : F ≤ 12) (hk1 : 1 ≤ k) (hk4 : k ≤ 4) (hTp : ∀ j, 0 < TB j) (hX : ∀ j, zok F j → xa j = TA j ∧ xb j = TB j) (hX0 : xa 0 = 0 ∧ xb 0 = 1) (hT : ∀ j, zok F j → TA j < 2 ^ 63 ∧ TB j < 2 ^ 50) (hi : i + 1 + 1 = k) (hv : vp i en) (hf0 : fr = frm en i) (hfF : fr + 1 ≤ F) (hLo : isLo TA TB i en lo) (hBs : Bs TA TB k (PA F k i en) o be) : Met l y_S_tryZonesFrom (Cond.code y_S_tryZonesFrom b_S_tryZonesFrom 6 none :: gw) ({ frames := 4, cells := 0, slots := 0, locals := 360 } : Room) (wr dC dI cI cL cT sa [.ref (g 6), .int (nI i), .int (nI fr), .int (nI (oV lo))] [(g 6, .inr (3, [.ref (g 7), .ref (g 8), .ref (g 9), .ref (g 10), .int (nI (oV o)), .int (nI F), .int (nI k)])), (g 7, .inl (cL, 169, .inr (.inl (fun j => lN (xa j))))), (g 8, .inl (cL, 169, .inr (.inl (fun j => lN (xb j))))), (g 9, .inl (cI, 4, .inl (fun j => nI (en j)))), (g 10, .inl (cI, 4, .inl (fun j => nI (be j))))] sz) (va_Qv (fun (u : (Nat → Nat) × Option Nat × (Nat → Nat)) => agr i en u.1 ∧ Bs TA TB k (PB F k i en) u.2.1 u.2.2) (fun (u : (Nat → Nat) × Option Nat × (Nat → Nat)) => wB dC dI [(g 6, .inr (3, [.ref (g 7), .ref (g 8), .ref (g 9), .ref (g 10), .int (nI (oV o)), .int (nI F), .int (nI k)])), (g 7, .inl (cL, 169, .inr (.inl (fun j => lN (xa j))))), (g 8, .inl (cL, 169, .inr (.inl (fun j => lN (xb j))))), (g 9, .inl (cI, 4, .inl (fun j => nI (en j)))), (g 10, .inl (cI, 4, .inl (fun j => nI (be j))))] [(g 6, .inr (3, [.ref (g 7), .ref (g 8), .ref (g 9), .ref (g 10), .int (nI (oV u.2.1)), .int (nI F), .int (nI k)])), (g 7, .inl (cL, 169, .inr (.inl (fun j => lN (xa j))))), (g 8, .inl (cL, 169, .inr (.inl (fun j => lN (xb j))))), (g 9, .inl (cI, 4, .inl (fun j => nI ((u.1) j)))), (g 10, .inl (cI, 4, .inl (fun j => nI ((u.2.2) j))))] sz ()) (va_A [(g 6, .inr (3, [.ref (g 7), .ref (g 8), .ref (g 9), .ref (g 10), .int (nI (oV o)), .int (nI F), .int (nI k)])), (g 7, .inl (cL, 169, .inr (.inl (fun j => lN (xa j))))), (g 8, .inl (cL, 169, .inr (.inl (fun j => lN (xb j))))), (g 9, .inl (cI, 4, .inl (fun j => nI (en j)))), (g 10, .inl (cI, 4, .inl (fun j => nI (be j))))] sz)) 0 0 (va_A [(g 6, .inr (3, [.ref (g 7), .ref (g 8), .ref (g 9), .ref (g 10), .int (nI (oV o)), .int (nI F), .int (nI k)])), (g 7, .inl (cL, 169, .inr (.inl (fun j => lN (xa j))))), (g 8, .inl (cL, 169, .inr (.inl (fun j => lN (xb j))))), (g 9, .inl (cI, 4, .inl (fun j => nI (en j)))), (g 10, .inl (cI, 4, .inl (fun j => nI (be j))))] sz) := by
  refine Met.ofW (cc := b_S_tryZonesFrom) (maxL := 6) (ret := none) (by decide) rfl ?_
  intro p e s m args below meth c s₁ B hml hv
  obtain ⟨rfl, hsz, hC, hP, hD0⟩ := hv
  have hx := B.exec
  have hb := B.bytes
  have hr := B.returns
  have hts : ∀ w ∈ gw, w.before ([.ref (g 6), .int (nI i), .int (nI fr), .int (nI (oV lo))] : List Value).toArray s = true := fun w hw => atoms_spec (ws := Cond.code y_S_tryZonesFrom b_S_tryZonesFrom 6 none :: gw) B.pre w (List.mem_cons_of_mem _ hw)
  have hown : s.vm.findClass R_S = some m.cls := findClass_of_methodNamed B.named
  have hlocks := B.notSynchronized
  have hK := hC.1
  have hfr : 4 ≤ (headSpec (Cond.code y_S_tryZonesFrom b_S_tryZonesFrom 6 none :: gw) ({ frames := 4, cells := 0, slots := 0, locals := 360 } : Room)).room.frames := Nat.le_refl _
  have hlo : 360 ≤ (headSpec (Cond.code y_S_tryZonesFrom b_S_tryZonesFrom 6 none :: gw) ({ frames := 4, cells := 0, slots := 0, locals := 360 } : Room)).room.locals := Nat.le_refl _
  have hce : 0 ≤ (headSpec (Cond.code y_S_tryZonesFrom b_S_tryZonesFrom 6 none :: gw) ({ frames := 4, cells := 0, slots := 0, locals := 360 } : Room)).room.cells := Nat.zero_le _
  have hsl : 0 ≤ (headSpec (Cond.code y_S_tryZonesFrom b_S_tryZonesFrom 6 none :: gw) ({ frames := 4, cells := 0, slots := 0, locals := 360 } : Room)).room.slots := Nat.zero_le _
  subst hsz
  have hD := hD0.self (sz := s.heap.size)
  unfold wB
  generalize hAe : va_A [(g 6, .inr (3, [.ref (g 7), .ref (g 8), .ref (g 9), .ref (g 10), .int (nI (oV o)), .int (nI F), .int (nI k)])), (g 7, .inl (cL, 169, .inr (.inl (fun j => lN (xa j))))), (g 8, .inl (cL, 169, .inr (.inl (fun j => lN (xb j))))), (g 9, .inl (cI, 4, .inl (fun j => nI (en j)))), (g 10, .inl (cI, 4, .inl (fun j => nI (be j))))] s.heap.size = A at hD ⊢
  have hA : ∀ q : Nat, s.heap.size ≤ q → A q := fun q h => by rw [← hAe]; exact Or.inr h
  have hS : va_S A s.heap s.heap [] := va_S.rf
  have hl := lv_entry ([.ref (g 6), .int (nI i), .int (nI fr), .int (nI (oV lo))]) (n := 6) (Nat.le_of_ble_eq_true rfl)
  rw [lg_entry_eq]
  generalize (lg_sl ([.ref (g 6), .int (nI i), .int (nI fr), .int (nI (oV lo))]) ++ List.replicate (6 - (lg_sl ([.ref (g 6), .int (nI i), .int (nI fr), .int (nI (oV lo))])).length) Slot.unset).toArray = ls at hl ⊢
  have hl : lv_has ls 6 [(0, .ref (g 6)), (1, .int (nI i)), (2, .int (nI fr)), (3, .int (nI (oV lo)))] := hl
  have hlz := lo_ok hv (by omega) hF12 hLo
  obtain ⟨l1, l2, l3, l4⟩ := ix_ok hF12 hTp hX hX0 hT hlz
  have hf1 : 1 ≤ fr := by rw [hf0]; exact frm_1
  refine lv_iload_n hx hb d_S_tryZonesFrom_0 rfl (lv_at hl 1 rfl) ?_
  refine lv_aload_n hx hb d_S_tryZonesFrom_1 rfl (lv_at hl 0 rfl) ?_
  refine va_get (D := (dC, dI)) (ci := 3) (v := .int (nI k)) (C := R_S) (T := F_S) (N := 7) hx hb hts i_S hown hK hP 0 rfl rfl 6 (by decide) (hts _ k_88) (fun _ h9 => h9) rfl d_S_tryZonesFrom_2 ?_
  refine lv_iconst (v := nI 1) hx hb d_S_tryZonesFrom_5 (by decide) ?_
  refine nx_isub hx hb d_S_tryZonesFrom_6 (by omega) ?_
  refine nx_icmp_lt (tgt := 38) hx hb d_S_tryZonesFrom_7 (by decide) (by omega) (by omega) (fun h1 => ?_) (fun h1 => ?_)
  · refine lv_aload_n hx hb d_S_tryZonesFrom_38 rfl (lv_at hl 0 rfl) ?_
    refine va_get (D := (dC, dI)) (ci := 3) (v := .int (nI k)) (C := R_S) (T := F_S) (N := 7) hx hb hts i_S hown hK hP 0 rfl rfl 6 (by decide) (hts _ k_88) (fun _ h9 => h9) rfl d_S_tryZonesFrom_39 ?_
    refine lv_iconst (v := nI 1) hx hb d_S_tryZonesFrom_42 (by decide) ?_
    refine nx_isub hx hb d_S_tryZonesFrom_43 (by omega) ?_
    refine lv_iload_n hx hb d_S_tryZonesFrom_44 rfl (lv_at hl 1 rfl) ?_
    refine nx_isub hx hb d_S_tryZonesFrom_45 (by omega) ?_
    refine nx_ieq (b := 1) (by omega) ?_
    refine lv_istore (lv' := [(4, .int (nI 1)), (0, .ref (g 6)), (1, .int (nI i)), (2, .int (nI fr)), (3, .int (nI (oV lo)))]) hx hb d_S_tryZonesFrom_46 hl (by decide) rfl (fun ls hl => ?_)
    refine lv_iload_n hx hb d_S_tryZonesFrom_48 rfl (lv_at hl 3 rfl) ?_
    refine lv_istore (lv' := [(5, .int (nI fr)), (4, .int (nI 1)), (0, .ref (g 6)), (1, .int (nI i)), (2, .int (nI fr)), (3, .int (nI (oV lo)))]) hx hb d_S_tryZonesFrom_49 hl (by decide) rfl (fun ls hl => ?_)
    refine l_S_try1 ⟨hx, hb, hml, hown, hts⟩ hC hF12 hk1 hk4 hTp hX hX0 hT hi hv hf0 hfF hLo hfr hlo hce hsl hA (fun en1 o be hag hBs H locs ls hP hD hS hl => ?_) (F - 1 + 2) fr (by omega) (by omega) (by omega) en o be agr.rf (Bs_congr hBs (fun e => PA_begin hi hf0)) s.heap [] ls hP hD hS (lv_sub hl [2, 3, 4, 5, 1, 0] rfl)
    exact W.vret hx hb hr (fun t ht hW => ⟨⟨(en1, o, be), rfl, ⟨hag, hBs⟩, by rw [ht]; exact hP, hD⟩, hS.F ht⟩) hS.2.2 d_S_tryZonesFrom_99
  · exact absurd h1 (by omega)
section
variable {p : Program} {l : Launch} {e : Env} {R : Room} {s : State} {m : MethodId} {args : Array Value} {below : List Frame} {meth : Method} {c : Code} {cells slots : Nat} {Q : State → Prop} {A : Nat → Prop}
variable {dC : Nat → ClassId} {dI : Nat → Nat → Nat} {cI cL cT : ClassId} {sa : Nat → Nat}
set_option maxHeartbeats 4000000 in
set_option maxRecDepth 100000 in
theorem l_S_try2 (hF : CallFix p m c b_S_tryZonesFrom 6 s args gw R_S) (hC : CT dC dI cI cL cT sa s) {g : Nat → Nat} {F k : Nat} {xa xb TA TB : Nat → Nat} {i fr : Nat} {lo : Option Nat} {en : Nat → Nat} (hF12 : F ≤ 12) (hk1 : 1 ≤ k) (hk4 : k ≤ 4) (hTp : ∀ j, 0 < TB j) (hX : ∀ j, zok F j → xa j = TA j ∧ xb j = TB j) (hX0 : xa 0 = 0 ∧ xb 0 = 1) (hT : ∀ j, zok F j → TA j < 2 ^ 63 ∧ TB j < 2 ^ 50) (hi : i + 2 + 1 = k) (hv : vp i en) (hf0 : fr = frm en i) (hfF : fr + 2 ≤ F) (hLo : isLo TA TB i en lo) (hfr : 5 ≤ R.frames) (hlo : 390 ≤ R.locals) (hce : cells ≤ R.cells) (hsl : slots ≤ R.slots) (hA : ∀ q : Nat, s.heap.size ≤ q → A q) (kend : ∀ (en1 : Nat → Nat) (o : Option Nat) (be : Nat → Nat), agr i en en1 →  Bs TA TB k (PB F k i en) o be → ∀ (H : Heap) (locs : List Loc) (ls : Array Slot), va_P (dC, dI) vwCl [(g 6, .inr (3, [.ref (g 7), .ref (g 8), .ref (g 9), .ref (g 10), .int (nI (oV o)), .int (nI F), .int (nI k)])), (g 7, .inl (cL, 169, .inr (.inl (fun j => lN (xa j))))), (g 8, .inl (cL, 169, .inr (.inl (fun j => lN (xb j))))), (g 9, .inl (cI, 4, .inl (fun j => nI (en1 j)))), (g 10, .inl (cI, 4, .inl (fun j => nI (be j))))] H → va_D A [(g 6, .inr (3, [.ref (g 7), .ref (g 8), .ref (g 9), .ref (g 10), .int (nI (oV o)), .int (nI F), .int (nI k)])), (g 7, .inl (cL, 169, .inr (.inl (fun j => lN (xa j))))), (g 8, .inl (cL, 169, .inr (.inl (fun j => lN (xb j))))), (g 9, .inl (cI, 4, .inl (fun j => nI (en1 j)))), (g 10, .inl (cI, 4, .inl (fun j => nI (be j))))] → va_S A s.heap H locs → lv_has ls 6 [(0, .ref (g 6)), (1, .int (nI i)), (2, .int (nI fr)), (3, .int (nI (oV lo))), (4, .int (nI 2)), (5, .int (nI (F - 2 + 1)))] → W p l e R s m args below meth c H locs cells slots Q (F0 m 99 ls [])) : ∀ j x : Nat, F - 2 + 1 - x < j → fr ≤ x → x ≤ F - 2 + 1 → ∀ (en1 : Nat → Nat) (o : Option Nat) (be : Nat → Nat), agr i en en1 →  Bs TA TB k (PA F k (i + 1) (up en i x)) o be → ∀ (H : Heap) (locs : List Loc) (ls : Array Slot), va_P (dC, dI) vwCl [(g 6, .inr (3, [.ref (g 7), .ref (g 8), .ref (g 9), .ref (g 10), .int (nI (oV o)), .int (nI F), .int (nI k)])), (g 7, .inl (cL, 169, .inr (.inl (fun j => lN (xa j))))), (g 8, .inl (cL, 169, .inr (.inl (fun j => lN (xb j))))), (g 9, .inl (cI, 4, .inl (fun j => nI (en1 j)))), (g 10, .inl (cI, 4, .inl (fun j => nI (be j))))] H → va_D A [(g 6, .inr (3, [.ref (g 7), .ref (g 8), .ref (g 9), .ref (g 10), .int (nI (oV o)), .int (nI F), .int (nI k)])), (g 7, .inl (cL, 169, .inr (.inl (fun j => lN (xa j))))), (g 8, .inl (cL, 169, .inr (.inl (fun j => lN (xb j))))), (g 9, .inl (cI, 4, .inl (fun j => nI (en1 j)))), (g 10, .inl (cI, 4, .inl (fun j => nI (be j))))] → va_S A s.heap H locs → lv_has ls 6 [(0, .ref (g 6)), (1, .int (nI i)), (2, .int (nI fr)), (3, .int (nI (oV lo))), (4, .int (nI 2)), (5, .int (nI x))] → W p l e R s m args below meth c H locs cells slots Q (F0 m 51 ls []) := by
  obtain ⟨hx, hb, hml, hown, hts⟩ := id hF
  have hK := hC.1
  have hlz := lo_ok hv (by omega) hF12 hLo
  obtain ⟨l1, l2, l3, l4⟩ := ix_ok hF12 hTp hX hX0 hT hlz
  have hf1 : 1 ≤ fr := by rw [hf0]; exact frm_1
  intro j
  induction j with
  | zero => intro i hj; omega
  | succ j ih =>
    intro x hj hfx hxF en1 o be hag hBs H locs ls hP hD hS hl
    refine lv_iload hx hb d_S_tryZonesFrom_51 (lv_at hl 5 rfl) ?_
    refine lv_aload_n hx hb d_S_tryZonesFrom_53 rfl (lv_at hl 0 rfl) ?_
    refine va_get (D := (dC, dI)) (ci := 3) (v := .int (nI F)) (C := R_S) (T := F_S) (N := 7) hx hb hts i_S hown hK hP 0 rfl rfl 5 (by decide) (hts _ k_87) (fun _ h9 => h9) rfl d_S_tryZonesFrom_54 ?_
    refine lv_iload hx hb d_S_tryZonesFrom_57 (lv_at hl 4 rfl) ?_
    refine nx_isub hx hb d_S_tryZonesFrom_59 (by omega) ?_
    refine nx_icmp_gt (tgt := 99) hx hb d_S_tryZonesFrom_60 (by decide) (by omega) (by omega) (fun h1 => ?_) (fun h1 => ?_)
    · have hie : x = F - 2 + 1 := by omega
      subst hie
      exact kend en1 o be hag (Bs_congr hBs (fun e => PA_end hi)) H locs ls hP hD hS hl
    · have hz : zok F (fr * 13 + x) := zok_of hf1 hfx (by omega) hF12
      obtain ⟨z1, z2, z3, z4⟩ := ix_ok hF12 hTp hX hX0 hT (Or.inr hz)
      refine lv_aload_n hx hb d_S_tryZonesFrom_63 rfl (lv_at hl 0 rfl) ?_
      refine va_get (D := (dC, dI)) (ci := 3) (v := .ref (g 9)) (C := R_S) (T := F_S) (N := 7) hx hb hts i_S hown hK hP 0 rfl rfl 2 (by decide) (hts _ k_83) (fun _ h9 => h9) rfl d_S_tryZonesFrom_64 ?_
      refine lv_iload_n hx hb d_S_tryZonesFrom_67 rfl (lv_at hl 1 rfl) ?_
      refine lv_iload hx hb d_S_tryZonesFrom_68 (lv_at hl 5 rfl) ?_
      refine nx_iast hx hb hK hP hD hS 3 0 rfl rfl (k := i) (x := nI x) (by omega) (by decide) d_S_tryZonesFrom_70 (fun H locs hP hD hS => ?_)
      have hP : va_P (dC, dI) vwCl [(g 6, .inr (3, [.ref (g 7), .ref (g 8), .ref (g 9), .ref (g 10), .int (nI (oV o)), .int (nI F), .int (nI k)])), (g 7, .inl (cL, 169, .inr (.inl (fun j => lN (xa j))))), (g 8, .inl (cL, 169, .inr (.inl (fun j => lN (xb j))))), (g 9, .inl (cI, 4, .inl (upd (fun j => nI (en1 j)) (i) (nI x)))), (g 10, .inl (cI, 4, .inl (fun j => nI (be j))))] H := hP
      have hD : va_D A [(g 6, .inr (3, [.ref (g 7), .ref (g 8), .ref (g 9), .ref (g 10), .int (nI (oV o)), .int (nI F), .int (nI k)])), (g 7, .inl (cL, 169, .inr (.inl (fun j => lN (xa j))))), (g 8, .inl (cL, 169, .inr (.inl (fun j => lN (xb j))))), (g 9, .inl (cI, 4, .inl (upd (fun j => nI (en1 j)) (i) (nI x)))), (g 10, .inl (cI, 4, .inl (fun j => nI (be j))))] := hD
      rw [up_eq] at hP hD
      refine lv_aload_n hx hb d_S_tryZonesFrom_71 rfl (lv_at hl 0 rfl) ?_
      refine lv_iload_n hx hb d_S_tryZonesFrom_72 rfl (lv_at hl 1 rfl) ?_
      refine lv_iconst (v := nI 1) hx hb d_S_tryZonesFrom_73 (by decide) ?_
      refine nx_iadd hx hb d_S_tryZonesFrom_74 ?_
      refine lv_iload hx hb d_S_tryZonesFrom_75 (lv_at hl 5 rfl) ?_
      refine lv_iconst (v := nI 1) hx hb d_S_tryZonesFrom_77 (by decide) ?_
      refine nx_iadd hx hb d_S_tryZonesFrom_78 ?_
      refine lv_aload_n hx hb d_S_tryZonesFrom_79 rfl (lv_at hl 0 rfl) ?_
      refine lv_iload_n hx hb d_S_tryZonesFrom_80 rfl (lv_at hl 3 rfl) ?_
      refine lv_iload_n hx hb d_S_tryZonesFrom_81 rfl (lv_at hl 2 rfl) ?_
      refine lv_iload hx hb d_S_tryZonesFrom_82 (lv_at hl 5 rfl) ?_
      refine ro_calli (va_runS (As := [.int (nI fr), .int (nI x)]) (rest := [.int (nI (oV lo)), .ref (g 6), .int (nI (x + 1)), .int (nI (i + 1)), .ref (g 6)]) ⟨hx, hb, hml, hown, hts⟩ (c_S_zone l fr x) (cwS 2 hts (gw_S k_408 k_406 k_407 k_4) rfl rfl rfl (by decide +kernel) ⟨Nat.le_trans (Nat.le_of_ble_eq_true rfl) hfr, Nat.le_trans (Nat.le_of_ble_eq_true rfl) hlo⟩) ⟨pr_blind, pr_at hC (fun k q h => by simp at h)⟩ rfl rfl hl.1 rfl (lv_room (Nat.le_of_ble_eq_true rfl)) d_S_tryZonesFrom_84 ⟨hce, hsl⟩) (fun r9 h9 => ?_)
      subst h9
      refine ro_calli (va_runV (As := [.int (nI (oV lo)), .int (nI (fr * 13 + x))]) (rest := [.int (nI (x + 1)), .int (nI (i + 1)), .ref (g 6)]) ⟨hx, hb, hml, hown, hts⟩ (c_S_longer l g (nI (oV o)) (nI F) (nI k) xa xb (oV lo) (fr * 13 + x) l1 z1 l2 l3 l4 z2 z3 z4) (cwV 2 hts (gw_V k_422 k_419 k_421 ks_S_longer k_4) rfl rfl rfl (by decide +kernel) ⟨Nat.le_trans (Nat.le_of_ble_eq_true rfl) hfr, Nat.le_trans (Nat.le_of_ble_eq_true rfl) hlo⟩) ⟨pr_blind, va_recv hK hP (ci := 3) (q0 := 0) rfl rfl, pr_at hC (hP.sub (ws' := [(g 6, .inr (3, [.ref (g 7), .ref (g 8), .ref (g 9), .ref (g 10), .int (nI (oV o)), .int (nI F), .int (nI k)])), (g 7, .inl (cL, 169, .inr (.inl (fun j => lN (xa j))))), (g 8, .inl (cL, 169, .inr (.inl (fun j => lN (xb j)))))]) [0, 1, 2] rfl)⟩ rfl rfl hl.1 rfl (lv_room (Nat.le_of_ble_eq_true rfl)) d_S_tryZonesFrom_87 ⟨hce, hsl⟩) (fun r9 h9 => ?_)
      subst h9
      have hst := lo_step hTp hX hX0 (x := x) (isLo_ext hag hLo) hlz (hf0.trans (agr_frm hag (Nat.le_refl i))) hz
      have hPc := hP.sub (ws' := [(g 6, .inr (3, [.ref (g 7), .ref (g 8), .ref (g 9), .ref (g 10), .int (nI (oV o)), .int (nI F), .int (nI k)])), (g 7, .inl (cL, 169, .inr (.inl (fun j => lN (xa j))))), (g 8, .inl (cL, 169, .inr (.inl (fun j => lN (xb j))))), (g 9, .inl (cI, 4, .inl (fun j => nI ((up en1 i x) j)))), (g 10, .inl (cI, 4, .inl (fun j => nI (be j))))]) [0, 1, 2, 3, 4] rfl
      have hDc := hD.sub (ws' := [(g 6, .inr (3, [.ref (g 7), .ref (g 8), .ref (g 9), .ref (g 10), .int (nI (oV o)), .int (nI F), .int (nI k)])), (g 7, .inl (cL, 169, .inr (.inl (fun j => lN (xa j))))), (g 8, .inl (cL, 169, .inr (.inl (fun j => lN (xb j))))), (g 9, .inl (cI, 4, .inl (fun j => nI ((up en1 i x) j)))), (g 10, .inl (cI, 4, .inl (fun j => nI (be j))))]) [0, 1, 2, 3, 4] (by decide) rfl
      have hFc := va_free (wc := [(g 6, .inr (3, [.ref (g 7), .ref (g 8), .ref (g 9), .ref (g 10), .int (nI (oV o)), .int (nI F), .int (nI k)])), (g 7, .inl (cL, 169, .inr (.inl (fun j => lN (xa j))))), (g 8, .inl (cL, 169, .inr (.inl (fun j => lN (xb j))))), (g 9, .inl (cI, 4, .inl (fun j => nI ((up en1 i x) j)))), (g 10, .inl (cI, 4, .inl (fun j => nI (be j))))]) hD hS hA [0, 1, 2, 3, 4] rfl
      refine va_callv (va_runV (As := [.int (nI (i + 1)), .int (nI (x + 1)), .int (nI (if xa (fr * 13 + x) * xb (oV lo) < xa (oV lo) * xb (fr * 13 + x) then oV lo else fr * 13 + x))]) (rest := []) ⟨hx, hb, hml, hown, hts⟩ (c_S_tryZonesFrom_1 l _ g F k xa xb TA TB (i + 1) (x + 1) (some (if xa (fr * 13 + x) * xb (oV lo) < xa (oV lo) * xb (fr * 13 + x) then oV lo else fr * 13 + x)) o (up en1 i x) be hF12 hk1 hk4 hTp hX hX0 hT (by omega) (vp_up (agr_vp hag hv) (by rw [← agr_frm hag (Nat.le_refl i)]; omega)) (by rw [frm_s, up_s]) (by omega) hst (Bs_congr hBs (fun e => PA_ext (agr_upx hag)))) (cwV 3 hts (gw_V k_418 k_415 k_417 ks_S_tryZonesFrom k_4) rfl rfl rfl (by decide +kernel) ⟨Nat.le_trans (Nat.le_of_ble_eq_true rfl) hfr, Nat.le_trans (Nat.le_of_ble_eq_true rfl) hlo⟩) ⟨wr_blind, va_recv hK hP (ci := 3) (q0 := 0) rfl rfl, wr_at hC hPc hDc⟩ rfl rfl hl.1 rfl (lv_room (Nat.le_of_ble_eq_true rfl)) d_S_tryZonesFrom_90 ⟨hce, hsl⟩) hS (fun q _ h => hFc q h) hFc (fun u t H1 locs ht hvm hw hB hz1 hk1 hS => ?_)
      obtain ⟨hP1, hD1⟩ := hB
      rw [ht] at hP1
      obtain ⟨hP, hD⟩ := va_join (wr := []) (w1 := [(g 6, .inr (3, [.ref (g 7), .ref (g 8), .ref (g 9), .ref (g 10), .int (nI (oV u.2.1)), .int (nI F), .int (nI k)])), (g 7, .inl (cL, 169, .inr (.inl (fun j => lN (xa j))))), (g 8, .inl (cL, 169, .inr (.inl (fun j => lN (xb j))))), (g 9, .inl (cI, 4, .inl (fun j => nI ((u.1) j)))), (g 10, .inl (cI, 4, .inl (fun j => nI ((u.2.2) j))))]) hP hD [0, 1, 2, 3, 4] [] rfl rfl (by decide) (by decide) hk1 hFc hP1 hD1
      generalize H1 = H at hP hS ⊢
      have hP := hP.sub (ws' := [(g 6, .inr (3, [.ref (g 7), .ref (g 8), .ref (g 9), .ref (g 10), .int (nI (oV u.2.1)), .int (nI F), .int (nI k)])), (g 7, .inl (cL, 169, .inr (.inl (fun j => lN (xa j))))), (g 8, .inl (cL, 169, .inr (.inl (fun j => lN (xb j))))), (g 9, .inl (cI, 4, .inl (fun j => nI ((u.1) j)))), (g 10, .inl (cI, 4, .inl (fun j => nI ((u.2.2) j))))]) [0, 1, 2, 3, 4] rfl
      have hD := hD.sub (ws' := [(g 6, .inr (3, [.ref (g 7), .ref (g 8), .ref (g 9), .ref (g 10), .int (nI (oV u.2.1)), .int (nI F), .int (nI k)])), (g 7, .inl (cL, 169, .inr (.inl (fun j => lN (xa j))))), (g 8, .inl (cL, 169, .inr (.inl (fun j => lN (xb j))))), (g 9, .inl (cI, 4, .inl (fun j => nI ((u.1) j)))), (g 10, .inl (cI, 4, .inl (fun j => nI ((u.2.2) j))))]) [0, 1, 2, 3, 4] (by decide) rfl
      refine nx_inc (lv' := [(5, .int (nI (x + 1))), (0, .ref (g 6)), (1, .int (nI i)), (2, .int (nI fr)), (3, .int (nI (oV lo))), (4, .int (nI 2))]) hx hb d_S_tryZonesFrom_93 hl (k := 5) rfl (by decide) rfl (fun ls hl => ?_)
      refine lv_goto (tgt := 51) hx hb d_S_tryZonesFrom_96 (by decide) ?_
      exact ih (x + 1) (by omega) (by omega) (by omega) u.1 u.2.1 u.2.2 (hag.trans (agr_up.trans (hw.1.mono (by omega)))) (Bs_congr hw.2 (fun e => (PB_ext (agr_upx hag).symm).trans PB_step)) H locs ls hP hD hS (lv_sub hl [1, 2, 3, 4, 5, 0] rfl)
end
set_option maxHeartbeats 4000000 in
set_option maxRecDepth 100000 in
theorem c_S_tryZonesFrom_2 (l : Launch) {dC : Nat → ClassId} {dI : Nat → Nat → Nat} {cI cL cT : ClassId} {sa : Nat → Nat} (sz : Nat) (g : Nat → Nat) (F k : Nat) (xa xb TA TB : Nat → Nat) (i fr : Nat) (lo o : Option Nat) (en be : Nat → Nat) (hF12 : F ≤ 12) (hk1 : 1 ≤ k) (hk4 : k ≤ 4) (hTp : ∀ j, 0 < TB j) (hX : ∀ j, zok F j → xa j = TA j ∧ xb j = TB j) (hX0 : xa 0 = 0 ∧ xb 0 = 1) (hT : ∀ j, zok F j → TA j < 2 ^ 63 ∧ TB j < 2 ^ 50) (hi : i + 2 + 1 = k) (hv : vp i en) (hf0 : fr = frm en i) (hfF : fr + 2 ≤ F) (hLo : isLo TA TB i en lo) (hBs : Bs TA TB k (PA F k i en) o be) : Met l y_S_tryZonesFrom (Cond.code y_S_tryZonesFrom b_S_tryZonesFrom 6 none :: gw) ({ frames := 5, cells := 0, slots := 0, locals := 390 } : Room) (wr dC dI cI cL cT sa [.ref (g 6), .int (nI i), .int (nI fr), .int (nI (oV lo))] [(g 6, .inr (3, [.ref (g 7), .ref (g 8), .ref (g 9), .ref (g 10), .int (nI (oV o)), .int (nI F), .int (nI k)])), (g 7, .inl (cL, 169, .inr (.inl (fun j => lN (xa j))))), (g 8, .inl (cL, 169, .inr (.inl (fun j => lN (xb j))))), (g 9, .inl (cI, 4, .inl (fun j => nI (en j)))), (g 10, .inl (cI, 4, .inl (fun j => nI (be j))))] sz) (va_Qv (fun (u : (Nat → Nat) × Option Nat × (Nat → Nat)) => agr i en u.1 ∧ Bs TA TB k (PB F k i en) u.2.1 u.2.2) (fun (u : (Nat → Nat) × Option Nat × (Nat → Nat)) => wB dC dI [(g 6, .inr (3, [.ref (g 7), .ref (g 8), .ref (g 9), .ref (g 10), .int (nI (oV o)), .int (nI F), .int (nI k)])), (g 7, .inl (cL, 169, .inr (.inl (fun j => lN (xa j))))), (g 8, .inl (cL, 169, .inr (.inl (fun j => lN (xb j))))), (g 9, .inl (cI, 4, .inl (fun j => nI (en j)))), (g 10, .inl (cI, 4, .inl (fun j => nI (be j))))] [(g 6, .inr (3, [.ref (g 7), .ref (g 8), .ref (g 9), .ref (g 10), .int (nI (oV u.2.1)), .int (nI F), .int (nI k)])), (g 7, .inl (cL, 169, .inr (.inl (fun j => lN (xa j))))), (g 8, .inl (cL, 169, .inr (.inl (fun j => lN (xb j))))), (g 9, .inl (cI, 4, .inl (fun j => nI ((u.1) j)))), (g 10, .inl (cI, 4, .inl (fun j => nI ((u.2.2) j))))] sz ()) (va_A [(g 6, .inr (3, [.ref (g 7), .ref (g 8), .ref (g 9), .ref (g 10), .int (nI (oV o)), .int (nI F), .int (nI k)])), (g 7, .inl (cL, 169, .inr (.inl (fun j => lN (xa j))))), (g 8, .inl (cL, 169, .inr (.inl (fun j => lN (xb j))))), (g 9, .inl (cI, 4, .inl (fun j => nI (en j)))), (g 10, .inl (cI, 4, .inl (fun j => nI (be j))))] sz)) 0 0 (va_A [(g 6, .inr (3, [.ref (g 7), .ref (g 8), .ref (g 9), .ref (g 10), .int (nI (oV o)), .int (nI F), .int (nI k)])), (g 7, .inl (cL, 169, .inr (.inl (fun j => lN (xa j))))), (g 8, .inl (cL, 169, .inr (.inl (fun j => lN (xb j))))), (g 9, .inl (cI, 4, .inl (fun j => nI (en j)))), (g 10, .inl (cI, 4, .inl (fun j => nI (be j))))] sz) := by
  refine Met.ofW (cc := b_S_tryZonesFrom) (maxL := 6) (ret := none) (by decide) rfl ?_
  intro p e s m args below meth c s₁ B hml hv
  obtain ⟨rfl, hsz, hC, hP, hD0⟩ := hv
  have hx := B.exec
  have hb := B.bytes
  have hr := B.returns
  have hts : ∀ w ∈ gw, w.before ([.ref (g 6), .int (nI i), .int (nI fr), .int (nI (oV lo))] : List Value).toArray s = true := fun w hw => atoms_spec (ws := Cond.code y_S_tryZonesFrom b_S_tryZonesFrom 6 none :: gw) B.pre w (List.mem_cons_of_mem _ hw)
  have hown : s.vm.findClass R_S = some m.cls := findClass_of_methodNamed B.named
  have hlocks := B.notSynchronized
  have hK := hC.1
  have hfr : 5 ≤ (headSpec (Cond.code y_S_tryZonesFrom b_S_tryZonesFrom 6 none :: gw) ({ frames := 5, cells := 0, slots := 0, locals := 390 } : Room)).room.frames := Nat.le_refl _
  have hlo : 390 ≤ (headSpec (Cond.code y_S_tryZonesFrom b_S_tryZonesFrom 6 none :: gw) ({ frames := 5, cells := 0, slots := 0, locals := 390 } : Room)).room.locals := Nat.le_refl _
  have hce : 0 ≤ (headSpec (Cond.code y_S_tryZonesFrom b_S_tryZonesFrom 6 none :: gw) ({ frames := 5, cells := 0, slots := 0, locals := 390 } : Room)).room.cells := Nat.zero_le _
  have hsl : 0 ≤ (headSpec (Cond.code y_S_tryZonesFrom b_S_tryZonesFrom 6 none :: gw) ({ frames := 5, cells := 0, slots := 0, locals := 390 } : Room)).room.slots := Nat.zero_le _
  subst hsz
  have hD := hD0.self (sz := s.heap.size)
  unfold wB
  generalize hAe : va_A [(g 6, .inr (3, [.ref (g 7), .ref (g 8), .ref (g 9), .ref (g 10), .int (nI (oV o)), .int (nI F), .int (nI k)])), (g 7, .inl (cL, 169, .inr (.inl (fun j => lN (xa j))))), (g 8, .inl (cL, 169, .inr (.inl (fun j => lN (xb j))))), (g 9, .inl (cI, 4, .inl (fun j => nI (en j)))), (g 10, .inl (cI, 4, .inl (fun j => nI (be j))))] s.heap.size = A at hD ⊢
  have hA : ∀ q : Nat, s.heap.size ≤ q → A q := fun q h => by rw [← hAe]; exact Or.inr h
  have hS : va_S A s.heap s.heap [] := va_S.rf
  have hl := lv_entry ([.ref (g 6), .int (nI i), .int (nI fr), .int (nI (oV lo))]) (n := 6) (Nat.le_of_ble_eq_true rfl)
  rw [lg_entry_eq]
  generalize (lg_sl ([.ref (g 6), .int (nI i), .int (nI fr), .int (nI (oV lo))]) ++ List.replicate (6 - (lg_sl ([.ref (g 6), .int (nI i), .int (nI fr), .int (nI (oV lo))])).length) Slot.unset).toArray = ls at hl ⊢
  have hl : lv_has ls 6 [(0, .ref (g 6)), (1, .int (nI i)), (2, .int (nI fr)), (3, .int (nI (oV lo)))] := hl
  have hlz := lo_ok hv (by omega) hF12 hLo
  obtain ⟨l1, l2, l3, l4⟩ := ix_ok hF12 hTp hX hX0 hT hlz
  have hf1 : 1 ≤ fr := by rw [hf0]; exact frm_1
  refine lv_iload_n hx hb d_S_tryZonesFrom_0 rfl (lv_at hl 1 rfl) ?_
  refine lv_aload_n hx hb d_S_tryZonesFrom_1 rfl (lv_at hl 0 rfl) ?_
  refine va_get (D := (dC, dI)) (ci := 3) (v := .int (nI k)) (C := R_S) (T := F_S) (N := 7) hx hb hts i_S hown hK hP 0 rfl rfl 6 (by decide) (hts _ k_88) (fun _ h9 => h9) rfl d_S_tryZonesFrom_2 ?_
  refine lv_iconst (v := nI 1) hx hb d_S_tryZonesFrom_5 (by decide) ?_
  refine nx_isub hx hb d_S_tryZonesFrom_6 (by omega) ?_
  refine nx_icmp_lt (tgt := 38) hx hb d_S_tryZonesFrom_7 (by decide) (by omega) (by omega) (fun h1 => ?_) (fun h1 => ?_)
  · refine lv_aload_n hx hb d_S_tryZonesFrom_38 rfl (lv_at hl 0 rfl) ?_
    refine va_get (D := (dC, dI)) (ci := 3) (v := .int (nI k)) (C := R_S) (T := F_S) (N := 7) hx hb hts i_S hown hK hP 0 rfl rfl 6 (by decide) (hts _ k_88) (fun _ h9 => h9) rfl d_S_tryZonesFrom_39 ?_
    refine lv_iconst (v := nI 1) hx hb d_S_tryZonesFrom_42 (by decide) ?_
    refine nx_isub hx hb d_S_tryZonesFrom_43 (by omega) ?_
    refine lv_iload_n hx hb d_S_tryZonesFrom_44 rfl (lv_at hl 1 rfl) ?_
    refine nx_isub hx hb d_S_tryZonesFrom_45 (by omega) ?_
    refine nx_ieq (b := 2) (by omega) ?_
    refine lv_istore (lv' := [(4, .int (nI 2)), (0, .ref (g 6)), (1, .int (nI i)), (2, .int (nI fr)), (3, .int (nI (oV lo)))]) hx hb d_S_tryZonesFrom_46 hl (by decide) rfl (fun ls hl => ?_)
    refine lv_iload_n hx hb d_S_tryZonesFrom_48 rfl (lv_at hl 3 rfl) ?_
    refine lv_istore (lv' := [(5, .int (nI fr)), (4, .int (nI 2)), (0, .ref (g 6)), (1, .int (nI i)), (2, .int (nI fr)), (3, .int (nI (oV lo)))]) hx hb d_S_tryZonesFrom_49 hl (by decide) rfl (fun ls hl => ?_)
    refine l_S_try2 ⟨hx, hb, hml, hown, hts⟩ hC hF12 hk1 hk4 hTp hX hX0 hT hi hv hf0 hfF hLo hfr hlo hce hsl hA (fun en1 o be hag hBs H locs ls hP hD hS hl => ?_) (F - 2 + 2) fr (by omega) (by omega) (by omega) en o be agr.rf (Bs_congr hBs (fun e => PA_begin hi hf0)) s.heap [] ls hP hD hS (lv_sub hl [2, 3, 4, 5, 1, 0] rfl)
    exact W.vret hx hb hr (fun t ht hW => ⟨⟨(en1, o, be), rfl, ⟨hag, hBs⟩, by rw [ht]; exact hP, hD⟩, hS.F ht⟩) hS.2.2 d_S_tryZonesFrom_99
  · exact absurd h1 (by omega)
section
variable {p : Program} {l : Launch} {e : Env} {R : Room} {s : State} {m : MethodId} {args : Array Value} {below : List Frame} {meth : Method} {c : Code} {cells slots : Nat} {Q : State → Prop} {A : Nat → Prop}
variable {dC : Nat → ClassId} {dI : Nat → Nat → Nat} {cI cL cT : ClassId} {sa : Nat → Nat}
set_option maxHeartbeats 4000000 in
set_option maxRecDepth 100000 in
theorem l_S_try3 (hF : CallFix p m c b_S_tryZonesFrom 6 s args gw R_S) (hC : CT dC dI cI cL cT sa s) {g : Nat → Nat} {F k : Nat} {xa xb TA TB : Nat → Nat} {i fr : Nat} {lo : Option Nat} {en : Nat → Nat} (hF12 : F ≤ 12) (hk1 : 1 ≤ k) (hk4 : k ≤ 4) (hTp : ∀ j, 0 < TB j) (hX : ∀ j, zok F j → xa j = TA j ∧ xb j = TB j) (hX0 : xa 0 = 0 ∧ xb 0 = 1) (hT : ∀ j, zok F j → TA j < 2 ^ 63 ∧ TB j < 2 ^ 50) (hi : i + 3 + 1 = k) (hv : vp i en) (hf0 : fr = frm en i) (hfF : fr + 3 ≤ F) (hLo : isLo TA TB i en lo) (hfr : 6 ≤ R.frames) (hlo : 420 ≤ R.locals) (hce : cells ≤ R.cells) (hsl : slots ≤ R.slots) (hA : ∀ q : Nat, s.heap.size ≤ q → A q) (kend : ∀ (en1 : Nat → Nat) (o : Option Nat) (be : Nat → Nat), agr i en en1 →  Bs TA TB k (PB F k i en) o be → ∀ (H : Heap) (locs : List Loc) (ls : Array Slot), va_P (dC, dI) vwCl [(g 6, .inr (3, [.ref (g 7), .ref (g 8), .ref (g 9), .ref (g 10), .int (nI (oV o)), .int (nI F), .int (nI k)])), (g 7, .inl (cL, 169, .inr (.inl (fun j => lN (xa j))))), (g 8, .inl (cL, 169, .inr (.inl (fun j => lN (xb j))))), (g 9, .inl (cI, 4, .inl (fun j => nI (en1 j)))), (g 10, .inl (cI, 4, .inl (fun j => nI (be j))))] H → va_D A [(g 6, .inr (3, [.ref (g 7), .ref (g 8), .ref (g 9), .ref (g 10), .int (nI (oV o)), .int (nI F), .int (nI k)])), (g 7, .inl (cL, 169, .inr (.inl (fun j => lN (xa j))))), (g 8, .inl (cL, 169, .inr (.inl (fun j => lN (xb j))))), (g 9, .inl (cI, 4, .inl (fun j => nI (en1 j)))), (g 10, .inl (cI, 4, .inl (fun j => nI (be j))))] → va_S A s.heap H locs → lv_has ls 6 [(0, .ref (g 6)), (1, .int (nI i)), (2, .int (nI fr)), (3, .int (nI (oV lo))), (4, .int (nI 3)), (5, .int (nI (F - 3 + 1)))] → W p l e R s m args below meth c H locs cells slots Q (F0 m 99 ls [])) : ∀ j x : Nat, F - 3 + 1 - x < j → fr ≤ x → x ≤ F - 3 + 1 → ∀ (en1 : Nat → Nat) (o : Option Nat) (be : Nat → Nat), agr i en en1 →  Bs TA TB k (PA F k (i + 1) (up en i x)) o be → ∀ (H : Heap) (locs : List Loc) (ls : Array Slot), va_P (dC, dI) vwCl [(g 6, .inr (3, [.ref (g 7), .ref (g 8), .ref (g 9), .ref (g 10), .int (nI (oV o)), .int (nI F), .int (nI k)])), (g 7, .inl (cL, 169, .inr (.inl (fun j => lN (xa j))))), (g 8, .inl (cL, 169, .inr (.inl (fun j => lN (xb j))))), (g 9, .inl (cI, 4, .inl (fun j => nI (en1 j)))), (g 10, .inl (cI, 4, .inl (fun j => nI (be j))))] H → va_D A [(g 6, .inr (3, [.ref (g 7), .ref (g 8), .ref (g 9), .ref (g 10), .int (nI (oV o)), .int (nI F), .int (nI k)])), (g 7, .inl (cL, 169, .inr (.inl (fun j => lN (xa j))))), (g 8, .inl (cL, 169, .inr (.inl (fun j => lN (xb j))))), (g 9, .inl (cI, 4, .inl (fun j => nI (en1 j)))), (g 10, .inl (cI, 4, .inl (fun j => nI (be j))))] → va_S A s.heap H locs → lv_has ls 6 [(0, .ref (g 6)), (1, .int (nI i)), (2, .int (nI fr)), (3, .int (nI (oV lo))), (4, .int (nI 3)), (5, .int (nI x))] → W p l e R s m args below meth c H locs cells slots Q (F0 m 51 ls []) := by
  obtain ⟨hx, hb, hml, hown, hts⟩ := id hF
  have hK := hC.1
  have hlz := lo_ok hv (by omega) hF12 hLo
  obtain ⟨l1, l2, l3, l4⟩ := ix_ok hF12 hTp hX hX0 hT hlz
  have hf1 : 1 ≤ fr := by rw [hf0]; exact frm_1
  intro j
  induction j with
  | zero => intro i hj; omega
  | succ j ih =>
    intro x hj hfx hxF en1 o be hag hBs H locs ls hP hD hS hl
    refine lv_iload hx hb d_S_tryZonesFrom_51 (lv_at hl 5 rfl) ?_
    refine lv_aload_n hx hb d_S_tryZonesFrom_53 rfl (lv_at hl 0 rfl) ?_
    refine va_get (D := (dC, dI)) (ci := 3) (v := .int (nI F)) (C := R_S) (T := F_S) (N := 7) hx hb hts i_S hown hK hP 0 rfl rfl 5 (by decide) (hts _ k_87) (fun _ h9 => h9) rfl d_S_tryZonesFrom_54 ?_
    refine lv_iload hx hb d_S_tryZonesFrom_57 (lv_at hl 4 rfl) ?_
    refine nx_isub hx hb d_S_tryZonesFrom_59 (by omega) ?_
    refine nx_icmp_gt (tgt := 99) hx hb d_S_tryZonesFrom_60 (by decide) (by omega) (by omega) (fun h1 => ?_) (fun h1 => ?_)
    · have hie : x = F - 3 + 1 := by omega
      subst hie
      exact kend en1 o be hag (Bs_congr hBs (fun e => PA_end hi)) H locs ls hP hD hS hl
    · have hz : zok F (fr * 13 + x) := zok_of hf1 hfx (by omega) hF12
      obtain ⟨z1, z2, z3, z4⟩ := ix_ok hF12 hTp hX hX0 hT (Or.inr hz)
      refine lv_aload_n hx hb d_S_tryZonesFrom_63 rfl (lv_at hl 0 rfl) ?_
      refine va_get (D := (dC, dI)) (ci := 3) (v := .ref (g 9)) (C := R_S) (T := F_S) (N := 7) hx hb hts i_S hown hK hP 0 rfl rfl 2 (by decide) (hts _ k_83) (fun _ h9 => h9) rfl d_S_tryZonesFrom_64 ?_
      refine lv_iload_n hx hb d_S_tryZonesFrom_67 rfl (lv_at hl 1 rfl) ?_
      refine lv_iload hx hb d_S_tryZonesFrom_68 (lv_at hl 5 rfl) ?_
      refine nx_iast hx hb hK hP hD hS 3 0 rfl rfl (k := i) (x := nI x) (by omega) (by decide) d_S_tryZonesFrom_70 (fun H locs hP hD hS => ?_)
      have hP : va_P (dC, dI) vwCl [(g 6, .inr (3, [.ref (g 7), .ref (g 8), .ref (g 9), .ref (g 10), .int (nI (oV o)), .int (nI F), .int (nI k)])), (g 7, .inl (cL, 169, .inr (.inl (fun j => lN (xa j))))), (g 8, .inl (cL, 169, .inr (.inl (fun j => lN (xb j))))), (g 9, .inl (cI, 4, .inl (upd (fun j => nI (en1 j)) (i) (nI x)))), (g 10, .inl (cI, 4, .inl (fun j => nI (be j))))] H := hP
      have hD : va_D A [(g 6, .inr (3, [.ref (g 7), .ref (g 8), .ref (g 9), .ref (g 10), .int (nI (oV o)), .int (nI F), .int (nI k)])), (g 7, .inl (cL, 169, .inr (.inl (fun j => lN (xa j))))), (g 8, .inl (cL, 169, .inr (.inl (fun j => lN (xb j))))), (g 9, .inl (cI, 4, .inl (upd (fun j => nI (en1 j)) (i) (nI x)))), (g 10, .inl (cI, 4, .inl (fun j => nI (be j))))] := hD
      rw [up_eq] at hP hD
      refine lv_aload_n hx hb d_S_tryZonesFrom_71 rfl (lv_at hl 0 rfl) ?_
      refine lv_iload_n hx hb d_S_tryZonesFrom_72 rfl (lv_at hl 1 rfl) ?_
      refine lv_iconst (v := nI 1) hx hb d_S_tryZonesFrom_73 (by decide) ?_
      refine nx_iadd hx hb d_S_tryZonesFrom_74 ?_
      refine lv_iload hx hb d_S_tryZonesFrom_75 (lv_at hl 5 rfl) ?_
      refine lv_iconst (v := nI 1) hx hb d_S_tryZonesFrom_77 (by decide) ?_
      refine nx_iadd hx hb d_S_tryZonesFrom_78 ?_
      refine lv_aload_n hx hb d_S_tryZonesFrom_79 rfl (lv_at hl 0 rfl) ?_
      refine lv_iload_n hx hb d_S_tryZonesFrom_80 rfl (lv_at hl 3 rfl) ?_
      refine lv_iload_n hx hb d_S_tryZonesFrom_81 rfl (lv_at hl 2 rfl) ?_
      refine lv_iload hx hb d_S_tryZonesFrom_82 (lv_at hl 5 rfl) ?_
      refine ro_calli (va_runS (As := [.int (nI fr), .int (nI x)]) (rest := [.int (nI (oV lo)), .ref (g 6), .int (nI (x + 1)), .int (nI (i + 1)), .ref (g 6)]) ⟨hx, hb, hml, hown, hts⟩ (c_S_zone l fr x) (cwS 2 hts (gw_S k_408 k_406 k_407 k_4) rfl rfl rfl (by decide +kernel) ⟨Nat.le_trans (Nat.le_of_ble_eq_true rfl) hfr, Nat.le_trans (Nat.le_of_ble_eq_true rfl) hlo⟩) ⟨pr_blind, pr_at hC (fun k q h => by simp at h)⟩ rfl rfl hl.1 rfl (lv_room (Nat.le_of_ble_eq_true rfl)) d_S_tryZonesFrom_84 ⟨hce, hsl⟩) (fun r9 h9 => ?_)
      subst h9
      refine ro_calli (va_runV (As := [.int (nI (oV lo)), .int (nI (fr * 13 + x))]) (rest := [.int (nI (x + 1)), .int (nI (i + 1)), .ref (g 6)]) ⟨hx, hb, hml, hown, hts⟩ (c_S_longer l g (nI (oV o)) (nI F) (nI k) xa xb (oV lo) (fr * 13 + x) l1 z1 l2 l3 l4 z2 z3 z4) (cwV 2 hts (gw_V k_422 k_419 k_421 ks_S_longer k_4) rfl rfl rfl (by decide +kernel) ⟨Nat.le_trans (Nat.le_of_ble_eq_true rfl) hfr, Nat.le_trans (Nat.le_of_ble_eq_true rfl) hlo⟩) ⟨pr_blind, va_recv hK hP (ci := 3) (q0 := 0) rfl rfl, pr_at hC (hP.sub (ws' := [(g 6, .inr (3, [.ref (g 7), .ref (g 8), .ref (g 9), .ref (g 10), .int (nI (oV o)), .int (nI F), .int (nI k)])), (g 7, .inl (cL, 169, .inr (.inl (fun j => lN (xa j))))), (g 8, .inl (cL, 169, .inr (.inl (fun j => lN (xb j)))))]) [0, 1, 2] rfl)⟩ rfl rfl hl.1 rfl (lv_room (Nat.le_of_ble_eq_true rfl)) d_S_tryZonesFrom_87 ⟨hce, hsl⟩) (fun r9 h9 => ?_)
      subst h9
      have hst := lo_step hTp hX hX0 (x := x) (isLo_ext hag hLo) hlz (hf0.trans (agr_frm hag (Nat.le_refl i))) hz
      have hPc := hP.sub (ws' := [(g 6, .inr (3, [.ref (g 7), .ref (g 8), .ref (g 9), .ref (g 10), .int (nI (oV o)), .int (nI F), .int (nI k)])), (g 7, .inl (cL, 169, .inr (.inl (fun j => lN (xa j))))), (g 8, .inl (cL, 169, .inr (.inl (fun j => lN (xb j))))), (g 9, .inl (cI, 4, .inl (fun j => nI ((up en1 i x) j)))), (g 10, .inl (cI, 4, .inl (fun j => nI (be j))))]) [0, 1, 2, 3, 4] rfl
      have hDc := hD.sub (ws' := [(g 6, .inr (3, [.ref (g 7), .ref (g 8), .ref (g 9), .ref (g 10), .int (nI (oV o)), .int (nI F), .int (nI k)])), (g 7, .inl (cL, 169, .inr (.inl (fun j => lN (xa j))))), (g 8, .inl (cL, 169, .inr (.inl (fun j => lN (xb j))))), (g 9, .inl (cI, 4, .inl (fun j => nI ((up en1 i x) j)))), (g 10, .inl (cI, 4, .inl (fun j => nI (be j))))]) [0, 1, 2, 3, 4] (by decide) rfl
      have hFc := va_free (wc := [(g 6, .inr (3, [.ref (g 7), .ref (g 8), .ref (g 9), .ref (g 10), .int (nI (oV o)), .int (nI F), .int (nI k)])), (g 7, .inl (cL, 169, .inr (.inl (fun j => lN (xa j))))), (g 8, .inl (cL, 169, .inr (.inl (fun j => lN (xb j))))), (g 9, .inl (cI, 4, .inl (fun j => nI ((up en1 i x) j)))), (g 10, .inl (cI, 4, .inl (fun j => nI (be j))))]) hD hS hA [0, 1, 2, 3, 4] rfl
      refine va_callv (va_runV (As := [.int (nI (i + 1)), .int (nI (x + 1)), .int (nI (if xa (fr * 13 + x) * xb (oV lo) < xa (oV lo) * xb (fr * 13 + x) then oV lo else fr * 13 + x))]) (rest := []) ⟨hx, hb, hml, hown, hts⟩ (c_S_tryZonesFrom_2 l _ g F k xa xb TA TB (i + 1) (x + 1) (some (if xa (fr * 13 + x) * xb (oV lo) < xa (oV lo) * xb (fr * 13 + x) then oV lo else fr * 13 + x)) o (up en1 i x) be hF12 hk1 hk4 hTp hX hX0 hT (by omega) (vp_up (agr_vp hag hv) (by rw [← agr_frm hag (Nat.le_refl i)]; omega)) (by rw [frm_s, up_s]) (by omega) hst (Bs_congr hBs (fun e => PA_ext (agr_upx hag)))) (cwV 3 hts (gw_V k_418 k_415 k_417 ks_S_tryZonesFrom k_4) rfl rfl rfl (by decide +kernel) ⟨Nat.le_trans (Nat.le_of_ble_eq_true rfl) hfr, Nat.le_trans (Nat.le_of_ble_eq_true rfl) hlo⟩) ⟨wr_blind, va_recv hK hP (ci := 3) (q0 := 0) rfl rfl, wr_at hC hPc hDc⟩ rfl rfl hl.1 rfl (lv_room (Nat.le_of_ble_eq_true rfl)) d_S_tryZonesFrom_90 ⟨hce, hsl⟩) hS (fun q _ h => hFc q h) hFc (fun u t H1 locs ht hvm hw hB hz1 hk1 hS => ?_)
      obtain ⟨hP1, hD1⟩ := hB
      rw [ht] at hP1
      obtain ⟨hP, hD⟩ := va_join (wr := []) (w1 := [(g 6, .inr (3, [.ref (g 7), .ref (g 8), .ref (g 9), .ref (g 10), .int (nI (oV u.2.1)), .int (nI F), .int (nI k)])), (g 7, .inl (cL, 169, .inr (.inl (fun j => lN (xa j))))), (g 8, .inl (cL, 169, .inr (.inl (fun j => lN (xb j))))), (g 9, .inl (cI, 4, .inl (fun j => nI ((u.1) j)))), (g 10, .inl (cI, 4, .inl (fun j => nI ((u.2.2) j))))]) hP hD [0, 1, 2, 3, 4] [] rfl rfl (by decide) (by decide) hk1 hFc hP1 hD1
      generalize H1 = H at hP hS ⊢
      have hP := hP.sub (ws' := [(g 6, .inr (3, [.ref (g 7), .ref (g 8), .ref (g 9), .ref (g 10), .int (nI (oV u.2.1)), .int (nI F), .int (nI k)])), (g 7, .inl (cL, 169, .inr (.inl (fun j => lN (xa j))))), (g 8, .inl (cL, 169, .inr (.inl (fun j => lN (xb j))))), (g 9, .inl (cI, 4, .inl (fun j => nI ((u.1) j)))), (g 10, .inl (cI, 4, .inl (fun j => nI ((u.2.2) j))))]) [0, 1, 2, 3, 4] rfl
      have hD := hD.sub (ws' := [(g 6, .inr (3, [.ref (g 7), .ref (g 8), .ref (g 9), .ref (g 10), .int (nI (oV u.2.1)), .int (nI F), .int (nI k)])), (g 7, .inl (cL, 169, .inr (.inl (fun j => lN (xa j))))), (g 8, .inl (cL, 169, .inr (.inl (fun j => lN (xb j))))), (g 9, .inl (cI, 4, .inl (fun j => nI ((u.1) j)))), (g 10, .inl (cI, 4, .inl (fun j => nI ((u.2.2) j))))]) [0, 1, 2, 3, 4] (by decide) rfl
      refine nx_inc (lv' := [(5, .int (nI (x + 1))), (0, .ref (g 6)), (1, .int (nI i)), (2, .int (nI fr)), (3, .int (nI (oV lo))), (4, .int (nI 3))]) hx hb d_S_tryZonesFrom_93 hl (k := 5) rfl (by decide) rfl (fun ls hl => ?_)
      refine lv_goto (tgt := 51) hx hb d_S_tryZonesFrom_96 (by decide) ?_
      exact ih (x + 1) (by omega) (by omega) (by omega) u.1 u.2.1 u.2.2 (hag.trans (agr_up.trans (hw.1.mono (by omega)))) (Bs_congr hw.2 (fun e => (PB_ext (agr_upx hag).symm).trans PB_step)) H locs ls hP hD hS (lv_sub hl [1, 2, 3, 4, 5, 0] rfl)
end
set_option maxHeartbeats 4000000 in
set_option maxRecDepth 100000 in
theorem c_S_tryZonesFrom_3 (l : Launch) {dC : Nat → ClassId} {dI : Nat → Nat → Nat} {cI cL cT : ClassId} {sa : Nat → Nat} (sz : Nat) (g : Nat → Nat) (F k : Nat) (xa xb TA TB : Nat → Nat) (i fr : Nat) (lo o : Option Nat) (en be : Nat → Nat) (hF12 : F ≤ 12) (hk1 : 1 ≤ k) (hk4 : k ≤ 4) (hTp : ∀ j, 0 < TB j) (hX : ∀ j, zok F j → xa j = TA j ∧ xb j = TB j) (hX0 : xa 0 = 0 ∧ xb 0 = 1) (hT : ∀ j, zok F j → TA j < 2 ^ 63 ∧ TB j < 2 ^ 50) (hi : i + 3 + 1 = k) (hv : vp i en) (hf0 : fr = frm en i) (hfF : fr + 3 ≤ F) (hLo : isLo TA TB i en lo) (hBs : Bs TA TB k (PA F k i en) o be) : Met l y_S_tryZonesFrom (Cond.code y_S_tryZonesFrom b_S_tryZonesFrom 6 none :: gw) ({ frames := 6, cells := 0, slots := 0, locals := 420 } : Room) (wr dC dI cI cL cT sa [.ref (g 6), .int (nI i), .int (nI fr), .int (nI (oV lo))] [(g 6, .inr (3, [.ref (g 7), .ref (g 8), .ref (g 9), .ref (g 10), .int (nI (oV o)), .int (nI F), .int (nI k)])), (g 7, .inl (cL, 169, .inr (.inl (fun j => lN (xa j))))), (g 8, .inl (cL, 169, .inr (.inl (fun j => lN (xb j))))), (g 9, .inl (cI, 4, .inl (fun j => nI (en j)))), (g 10, .inl (cI, 4, .inl (fun j => nI (be j))))] sz) (va_Qv (fun (u : (Nat → Nat) × Option Nat × (Nat → Nat)) => agr i en u.1 ∧ Bs TA TB k (PB F k i en) u.2.1 u.2.2) (fun (u : (Nat → Nat) × Option Nat × (Nat → Nat)) => wB dC dI [(g 6, .inr (3, [.ref (g 7), .ref (g 8), .ref (g 9), .ref (g 10), .int (nI (oV o)), .int (nI F), .int (nI k)])), (g 7, .inl (cL, 169, .inr (.inl (fun j => lN (xa j))))), (g 8, .inl (cL, 169, .inr (.inl (fun j => lN (xb j))))), (g 9, .inl (cI, 4, .inl (fun j => nI (en j)))), (g 10, .inl (cI, 4, .inl (fun j => nI (be j))))] [(g 6, .inr (3, [.ref (g 7), .ref (g 8), .ref (g 9), .ref (g 10), .int (nI (oV u.2.1)), .int (nI F), .int (nI k)])), (g 7, .inl (cL, 169, .inr (.inl (fun j => lN (xa j))))), (g 8, .inl (cL, 169, .inr (.inl (fun j => lN (xb j))))), (g 9, .inl (cI, 4, .inl (fun j => nI ((u.1) j)))), (g 10, .inl (cI, 4, .inl (fun j => nI ((u.2.2) j))))] sz ()) (va_A [(g 6, .inr (3, [.ref (g 7), .ref (g 8), .ref (g 9), .ref (g 10), .int (nI (oV o)), .int (nI F), .int (nI k)])), (g 7, .inl (cL, 169, .inr (.inl (fun j => lN (xa j))))), (g 8, .inl (cL, 169, .inr (.inl (fun j => lN (xb j))))), (g 9, .inl (cI, 4, .inl (fun j => nI (en j)))), (g 10, .inl (cI, 4, .inl (fun j => nI (be j))))] sz)) 0 0 (va_A [(g 6, .inr (3, [.ref (g 7), .ref (g 8), .ref (g 9), .ref (g 10), .int (nI (oV o)), .int (nI F), .int (nI k)])), (g 7, .inl (cL, 169, .inr (.inl (fun j => lN (xa j))))), (g 8, .inl (cL, 169, .inr (.inl (fun j => lN (xb j))))), (g 9, .inl (cI, 4, .inl (fun j => nI (en j)))), (g 10, .inl (cI, 4, .inl (fun j => nI (be j))))] sz) := by
  refine Met.ofW (cc := b_S_tryZonesFrom) (maxL := 6) (ret := none) (by decide) rfl ?_
  intro p e s m args below meth c s₁ B hml hv
  obtain ⟨rfl, hsz, hC, hP, hD0⟩ := hv
  have hx := B.exec
  have hb := B.bytes
  have hr := B.returns
  have hts : ∀ w ∈ gw, w.before ([.ref (g 6), .int (nI i), .int (nI fr), .int (nI (oV lo))] : List Value).toArray s = true := fun w hw => atoms_spec (ws := Cond.code y_S_tryZonesFrom b_S_tryZonesFrom 6 none :: gw) B.pre w (List.mem_cons_of_mem _ hw)
  have hown : s.vm.findClass R_S = some m.cls := findClass_of_methodNamed B.named
  have hlocks := B.notSynchronized
  have hK := hC.1
  have hfr : 6 ≤ (headSpec (Cond.code y_S_tryZonesFrom b_S_tryZonesFrom 6 none :: gw) ({ frames := 6, cells := 0, slots := 0, locals := 420 } : Room)).room.frames := Nat.le_refl _
  have hlo : 420 ≤ (headSpec (Cond.code y_S_tryZonesFrom b_S_tryZonesFrom 6 none :: gw) ({ frames := 6, cells := 0, slots := 0, locals := 420 } : Room)).room.locals := Nat.le_refl _
  have hce : 0 ≤ (headSpec (Cond.code y_S_tryZonesFrom b_S_tryZonesFrom 6 none :: gw) ({ frames := 6, cells := 0, slots := 0, locals := 420 } : Room)).room.cells := Nat.zero_le _
  have hsl : 0 ≤ (headSpec (Cond.code y_S_tryZonesFrom b_S_tryZonesFrom 6 none :: gw) ({ frames := 6, cells := 0, slots := 0, locals := 420 } : Room)).room.slots := Nat.zero_le _
  subst hsz
  have hD := hD0.self (sz := s.heap.size)
  unfold wB
  generalize hAe : va_A [(g 6, .inr (3, [.ref (g 7), .ref (g 8), .ref (g 9), .ref (g 10), .int (nI (oV o)), .int (nI F), .int (nI k)])), (g 7, .inl (cL, 169, .inr (.inl (fun j => lN (xa j))))), (g 8, .inl (cL, 169, .inr (.inl (fun j => lN (xb j))))), (g 9, .inl (cI, 4, .inl (fun j => nI (en j)))), (g 10, .inl (cI, 4, .inl (fun j => nI (be j))))] s.heap.size = A at hD ⊢
  have hA : ∀ q : Nat, s.heap.size ≤ q → A q := fun q h => by rw [← hAe]; exact Or.inr h
  have hS : va_S A s.heap s.heap [] := va_S.rf
  have hl := lv_entry ([.ref (g 6), .int (nI i), .int (nI fr), .int (nI (oV lo))]) (n := 6) (Nat.le_of_ble_eq_true rfl)
  rw [lg_entry_eq]
  generalize (lg_sl ([.ref (g 6), .int (nI i), .int (nI fr), .int (nI (oV lo))]) ++ List.replicate (6 - (lg_sl ([.ref (g 6), .int (nI i), .int (nI fr), .int (nI (oV lo))])).length) Slot.unset).toArray = ls at hl ⊢
  have hl : lv_has ls 6 [(0, .ref (g 6)), (1, .int (nI i)), (2, .int (nI fr)), (3, .int (nI (oV lo)))] := hl
  have hlz := lo_ok hv (by omega) hF12 hLo
  obtain ⟨l1, l2, l3, l4⟩ := ix_ok hF12 hTp hX hX0 hT hlz
  have hf1 : 1 ≤ fr := by rw [hf0]; exact frm_1
  refine lv_iload_n hx hb d_S_tryZonesFrom_0 rfl (lv_at hl 1 rfl) ?_
  refine lv_aload_n hx hb d_S_tryZonesFrom_1 rfl (lv_at hl 0 rfl) ?_
  refine va_get (D := (dC, dI)) (ci := 3) (v := .int (nI k)) (C := R_S) (T := F_S) (N := 7) hx hb hts i_S hown hK hP 0 rfl rfl 6 (by decide) (hts _ k_88) (fun _ h9 => h9) rfl d_S_tryZonesFrom_2 ?_
  refine lv_iconst (v := nI 1) hx hb d_S_tryZonesFrom_5 (by decide) ?_
  refine nx_isub hx hb d_S_tryZonesFrom_6 (by omega) ?_
  refine nx_icmp_lt (tgt := 38) hx hb d_S_tryZonesFrom_7 (by decide) (by omega) (by omega) (fun h1 => ?_) (fun h1 => ?_)
  · refine lv_aload_n hx hb d_S_tryZonesFrom_38 rfl (lv_at hl 0 rfl) ?_
    refine va_get (D := (dC, dI)) (ci := 3) (v := .int (nI k)) (C := R_S) (T := F_S) (N := 7) hx hb hts i_S hown hK hP 0 rfl rfl 6 (by decide) (hts _ k_88) (fun _ h9 => h9) rfl d_S_tryZonesFrom_39 ?_
    refine lv_iconst (v := nI 1) hx hb d_S_tryZonesFrom_42 (by decide) ?_
    refine nx_isub hx hb d_S_tryZonesFrom_43 (by omega) ?_
    refine lv_iload_n hx hb d_S_tryZonesFrom_44 rfl (lv_at hl 1 rfl) ?_
    refine nx_isub hx hb d_S_tryZonesFrom_45 (by omega) ?_
    refine nx_ieq (b := 3) (by omega) ?_
    refine lv_istore (lv' := [(4, .int (nI 3)), (0, .ref (g 6)), (1, .int (nI i)), (2, .int (nI fr)), (3, .int (nI (oV lo)))]) hx hb d_S_tryZonesFrom_46 hl (by decide) rfl (fun ls hl => ?_)
    refine lv_iload_n hx hb d_S_tryZonesFrom_48 rfl (lv_at hl 3 rfl) ?_
    refine lv_istore (lv' := [(5, .int (nI fr)), (4, .int (nI 3)), (0, .ref (g 6)), (1, .int (nI i)), (2, .int (nI fr)), (3, .int (nI (oV lo)))]) hx hb d_S_tryZonesFrom_49 hl (by decide) rfl (fun ls hl => ?_)
    refine l_S_try3 ⟨hx, hb, hml, hown, hts⟩ hC hF12 hk1 hk4 hTp hX hX0 hT hi hv hf0 hfF hLo hfr hlo hce hsl hA (fun en1 o be hag hBs H locs ls hP hD hS hl => ?_) (F - 3 + 2) fr (by omega) (by omega) (by omega) en o be agr.rf (Bs_congr hBs (fun e => PA_begin hi hf0)) s.heap [] ls hP hD hS (lv_sub hl [2, 3, 4, 5, 1, 0] rfl)
    exact W.vret hx hb hr (fun t ht hW => ⟨⟨(en1, o, be), rfl, ⟨hag, hBs⟩, by rw [ht]; exact hP, hD⟩, hS.F ht⟩) hS.2.2 d_S_tryZonesFrom_99
  · exact absurd h1 (by omega)
set_option maxHeartbeats 4000000 in
set_option maxRecDepth 100000 in
theorem c_S_findBest (l : Launch) {dC : Nat → ClassId} {dI : Nat → Nat → Nat} {cI cL cT : ClassId} {sa : Nat → Nat} (sz : Nat) (g : Nat → Nat) (F k : Nat) (xa xb TA TB : Nat → Nat) (bl sf zn : Nat) (en be : Nat → Nat) (hF12 : F ≤ 12) (hk1 : 1 ≤ k) (hk4 : k ≤ 4) (hTp : ∀ j, 0 < TB j) (hX : ∀ j, zok F j → xa j = TA j ∧ xb j = TB j) (hX0 : xa 0 = 0 ∧ xb 0 = 1) (hT : ∀ j, zok F j → TA j < 2 ^ 63 ∧ TB j < 2 ^ 50) (hkF : k ≤ F) : Met l y_S_findBest (Cond.code y_S_findBest b_S_findBest 3 none :: gw) ({ frames := 7, cells := 0, slots := 0, locals := 460 } : Room) (wr dC dI cI cL cT sa [.ref (g 6), .int (nI F), .int (nI k)] [(g 6, .inr (3, [.ref (g 7), .ref (g 8), .ref (g 9), .ref (g 10), .int (nI bl), .int (nI sf), .int (nI zn)])), (g 7, .inl (cL, 169, .inr (.inl (fun j => lN (xa j))))), (g 8, .inl (cL, 169, .inr (.inl (fun j => lN (xb j))))), (g 9, .inl (cI, 4, .inl (fun j => nI (en j)))), (g 10, .inl (cI, 4, .inl (fun j => nI (be j))))] sz) (va_Qv (fun (u : (Nat → Nat) × Option Nat × (Nat → Nat)) => Bs TA TB k (vs F k) u.2.1 u.2.2) (fun (u : (Nat → Nat) × Option Nat × (Nat → Nat)) => wB dC dI [(g 6, .inr (3, [.ref (g 7), .ref (g 8), .ref (g 9), .ref (g 10), .int (nI bl), .int (nI sf), .int (nI zn)])), (g 7, .inl (cL, 169, .inr (.inl (fun j => lN (xa j))))), (g 8, .inl (cL, 169, .inr (.inl (fun j => lN (xb j))))), (g 9, .inl (cI, 4, .inl (fun j => nI (en j)))), (g 10, .inl (cI, 4, .inl (fun j => nI (be j))))] [(g 6, .inr (3, [.ref (g 7), .ref (g 8), .ref (g 9), .ref (g 10), .int (nI (oV u.2.1)), .int (nI F), .int (nI k)])), (g 7, .inl (cL, 169, .inr (.inl (fun j => lN (xa j))))), (g 8, .inl (cL, 169, .inr (.inl (fun j => lN (xb j))))), (g 9, .inl (cI, 4, .inl (fun j => nI ((u.1) j)))), (g 10, .inl (cI, 4, .inl (fun j => nI ((u.2.2) j))))] sz ()) (va_A [(g 6, .inr (3, [.ref (g 7), .ref (g 8), .ref (g 9), .ref (g 10), .int (nI bl), .int (nI sf), .int (nI zn)])), (g 7, .inl (cL, 169, .inr (.inl (fun j => lN (xa j))))), (g 8, .inl (cL, 169, .inr (.inl (fun j => lN (xb j))))), (g 9, .inl (cI, 4, .inl (fun j => nI (en j)))), (g 10, .inl (cI, 4, .inl (fun j => nI (be j))))] sz)) 0 0 (va_A [(g 6, .inr (3, [.ref (g 7), .ref (g 8), .ref (g 9), .ref (g 10), .int (nI bl), .int (nI sf), .int (nI zn)])), (g 7, .inl (cL, 169, .inr (.inl (fun j => lN (xa j))))), (g 8, .inl (cL, 169, .inr (.inl (fun j => lN (xb j))))), (g 9, .inl (cI, 4, .inl (fun j => nI (en j)))), (g 10, .inl (cI, 4, .inl (fun j => nI (be j))))] sz) := by
  refine Met.ofW (cc := b_S_findBest) (maxL := 3) (ret := none) (by decide) rfl ?_
  intro p e s m args below meth c s₁ B hml hv
  obtain ⟨rfl, hsz, hC, hP, hD0⟩ := hv
  have hx := B.exec
  have hb := B.bytes
  have hr := B.returns
  have hts : ∀ w ∈ gw, w.before ([.ref (g 6), .int (nI F), .int (nI k)] : List Value).toArray s = true := fun w hw => atoms_spec (ws := Cond.code y_S_findBest b_S_findBest 3 none :: gw) B.pre w (List.mem_cons_of_mem _ hw)
  have hown : s.vm.findClass R_S = some m.cls := findClass_of_methodNamed B.named
  have hlocks := B.notSynchronized
  have hK := hC.1
  have hfr : 7 ≤ (headSpec (Cond.code y_S_findBest b_S_findBest 3 none :: gw) ({ frames := 7, cells := 0, slots := 0, locals := 460 } : Room)).room.frames := Nat.le_refl _
  have hlo : 460 ≤ (headSpec (Cond.code y_S_findBest b_S_findBest 3 none :: gw) ({ frames := 7, cells := 0, slots := 0, locals := 460 } : Room)).room.locals := Nat.le_refl _
  have hce : 0 ≤ (headSpec (Cond.code y_S_findBest b_S_findBest 3 none :: gw) ({ frames := 7, cells := 0, slots := 0, locals := 460 } : Room)).room.cells := Nat.zero_le _
  have hsl : 0 ≤ (headSpec (Cond.code y_S_findBest b_S_findBest 3 none :: gw) ({ frames := 7, cells := 0, slots := 0, locals := 460 } : Room)).room.slots := Nat.zero_le _
  subst hsz
  have hD := hD0.self (sz := s.heap.size)
  unfold wB
  generalize hAe : va_A [(g 6, .inr (3, [.ref (g 7), .ref (g 8), .ref (g 9), .ref (g 10), .int (nI bl), .int (nI sf), .int (nI zn)])), (g 7, .inl (cL, 169, .inr (.inl (fun j => lN (xa j))))), (g 8, .inl (cL, 169, .inr (.inl (fun j => lN (xb j))))), (g 9, .inl (cI, 4, .inl (fun j => nI (en j)))), (g 10, .inl (cI, 4, .inl (fun j => nI (be j))))] s.heap.size = A at hD ⊢
  have hA : ∀ q : Nat, s.heap.size ≤ q → A q := fun q h => by rw [← hAe]; exact Or.inr h
  have hS : va_S A s.heap s.heap [] := va_S.rf
  have hl := lv_entry ([.ref (g 6), .int (nI F), .int (nI k)]) (n := 3) (Nat.le_of_ble_eq_true rfl)
  rw [lg_entry_eq]
  generalize (lg_sl ([.ref (g 6), .int (nI F), .int (nI k)]) ++ List.replicate (3 - (lg_sl ([.ref (g 6), .int (nI F), .int (nI k)])).length) Slot.unset).toArray = ls at hl ⊢
  have hl : lv_has ls 3 [(0, .ref (g 6)), (1, .int (nI F)), (2, .int (nI k))] := hl
  refine lv_aload_n hx hb d_S_findBest_0 rfl (lv_at hl 0 rfl) ?_
  refine lv_iload_n hx hb d_S_findBest_1 rfl (lv_at hl 1 rfl) ?_
  refine va_put (D := (dC, dI)) (ci := 3) (v := .int (nI F)) (ty := (.int)) (C := R_S) (T := F_S) (N := 7) hx hb hts i_S ft_S ft_S_ok n_S hown hK hP hD hS 0 rfl rfl 5 (by decide) (hts _ k_87) (fun _ h9 => h9) rfl (by decide +kernel) rfl rfl (Nat.le_of_ble_eq_true rfl) d_S_findBest_2 (fun H locs hP hD hS => ?_)
  have hP : va_P (dC, dI) vwCl [(g 6, .inr (3, [.ref (g 7), .ref (g 8), .ref (g 9), .ref (g 10), .int (nI bl), .int (nI F), .int (nI zn)])), (g 7, .inl (cL, 169, .inr (.inl (fun j => lN (xa j))))), (g 8, .inl (cL, 169, .inr (.inl (fun j => lN (xb j))))), (g 9, .inl (cI, 4, .inl (fun j => nI (en j)))), (g 10, .inl (cI, 4, .inl (fun j => nI (be j))))] H := hP
  have hD : va_D A [(g 6, .inr (3, [.ref (g 7), .ref (g 8), .ref (g 9), .ref (g 10), .int (nI bl), .int (nI F), .int (nI zn)])), (g 7, .inl (cL, 169, .inr (.inl (fun j => lN (xa j))))), (g 8, .inl (cL, 169, .inr (.inl (fun j => lN (xb j))))), (g 9, .inl (cI, 4, .inl (fun j => nI (en j)))), (g 10, .inl (cI, 4, .inl (fun j => nI (be j))))] := hD
  refine lv_aload_n hx hb d_S_findBest_5 rfl (lv_at hl 0 rfl) ?_
  refine lv_iload_n hx hb d_S_findBest_6 rfl (lv_at hl 2 rfl) ?_
  refine va_put (D := (dC, dI)) (ci := 3) (v := .int (nI k)) (ty := (.int)) (C := R_S) (T := F_S) (N := 7) hx hb hts i_S ft_S ft_S_ok n_S hown hK hP hD hS 0 rfl rfl 6 (by decide) (hts _ k_88) (fun _ h9 => h9) rfl (by decide +kernel) rfl rfl (Nat.le_of_ble_eq_true rfl) d_S_findBest_7 (fun H locs hP hD hS => ?_)
  have hP : va_P (dC, dI) vwCl [(g 6, .inr (3, [.ref (g 7), .ref (g 8), .ref (g 9), .ref (g 10), .int (nI bl), .int (nI F), .int (nI k)])), (g 7, .inl (cL, 169, .inr (.inl (fun j => lN (xa j))))), (g 8, .inl (cL, 169, .inr (.inl (fun j => lN (xb j))))), (g 9, .inl (cI, 4, .inl (fun j => nI (en j)))), (g 10, .inl (cI, 4, .inl (fun j => nI (be j))))] H := hP
  have hD : va_D A [(g 6, .inr (3, [.ref (g 7), .ref (g 8), .ref (g 9), .ref (g 10), .int (nI bl), .int (nI F), .int (nI k)])), (g 7, .inl (cL, 169, .inr (.inl (fun j => lN (xa j))))), (g 8, .inl (cL, 169, .inr (.inl (fun j => lN (xb j))))), (g 9, .inl (cI, 4, .inl (fun j => nI (en j)))), (g 10, .inl (cI, 4, .inl (fun j => nI (be j))))] := hD
  refine lv_aload_n hx hb d_S_findBest_10 rfl (lv_at hl 0 rfl) ?_
  refine lv_iconst (v := nI 0) hx hb d_S_findBest_11 (by decide) ?_
  refine va_put (D := (dC, dI)) (ci := 3) (v := .int (nI 0)) (ty := (.int)) (C := R_S) (T := F_S) (N := 7) hx hb hts i_S ft_S ft_S_ok n_S hown hK hP hD hS 0 rfl rfl 4 (by decide) (hts _ k_86) (fun _ h9 => h9) rfl (by decide +kernel) rfl rfl (Nat.le_of_ble_eq_true rfl) d_S_findBest_12 (fun H locs hP hD hS => ?_)
  have hP : va_P (dC, dI) vwCl [(g 6, .inr (3, [.ref (g 7), .ref (g 8), .ref (g 9), .ref (g 10), .int (nI 0), .int (nI F), .int (nI k)])), (g 7, .inl (cL, 169, .inr (.inl (fun j => lN (xa j))))), (g 8, .inl (cL, 169, .inr (.inl (fun j => lN (xb j))))), (g 9, .inl (cI, 4, .inl (fun j => nI (en j)))), (g 10, .inl (cI, 4, .inl (fun j => nI (be j))))] H := hP
  have hD : va_D A [(g 6, .inr (3, [.ref (g 7), .ref (g 8), .ref (g 9), .ref (g 10), .int (nI 0), .int (nI F), .int (nI k)])), (g 7, .inl (cL, 169, .inr (.inl (fun j => lN (xa j))))), (g 8, .inl (cL, 169, .inr (.inl (fun j => lN (xb j))))), (g 9, .inl (cI, 4, .inl (fun j => nI (en j)))), (g 10, .inl (cI, 4, .inl (fun j => nI (be j))))] := hD
  refine lv_aload_n hx hb d_S_findBest_15 rfl (lv_at hl 0 rfl) ?_
  refine lv_iconst (v := nI 0) hx hb d_S_findBest_16 (by decide) ?_
  refine lv_iconst (v := nI 1) hx hb d_S_findBest_17 (by decide) ?_
  refine lv_iconst (v := nI 0) hx hb d_S_findBest_18 (by decide) ?_
  rcases (show k = 1 ∨ k = 2 ∨ k = 3 ∨ k = 4 by omega) with hk | hk | hk | hk
  · have hPc := hP.sub (ws' := [(g 6, .inr (3, [.ref (g 7), .ref (g 8), .ref (g 9), .ref (g 10), .int (nI 0), .int (nI F), .int (nI k)])), (g 7, .inl (cL, 169, .inr (.inl (fun j => lN (xa j))))), (g 8, .inl (cL, 169, .inr (.inl (fun j => lN (xb j))))), (g 9, .inl (cI, 4, .inl (fun j => nI (en j)))), (g 10, .inl (cI, 4, .inl (fun j => nI (be j))))]) [0, 1, 2, 3, 4] rfl
    have hDc := hD.sub (ws' := [(g 6, .inr (3, [.ref (g 7), .ref (g 8), .ref (g 9), .ref (g 10), .int (nI 0), .int (nI F), .int (nI k)])), (g 7, .inl (cL, 169, .inr (.inl (fun j => lN (xa j))))), (g 8, .inl (cL, 169, .inr (.inl (fun j => lN (xb j))))), (g 9, .inl (cI, 4, .inl (fun j => nI (en j)))), (g 10, .inl (cI, 4, .inl (fun j => nI (be j))))]) [0, 1, 2, 3, 4] (by decide) rfl
    have hFc := va_free (wc := [(g 6, .inr (3, [.ref (g 7), .ref (g 8), .ref (g 9), .ref (g 10), .int (nI 0), .int (nI F), .int (nI k)])), (g 7, .inl (cL, 169, .inr (.inl (fun j => lN (xa j))))), (g 8, .inl (cL, 169, .inr (.inl (fun j => lN (xb j))))), (g 9, .inl (cI, 4, .inl (fun j => nI (en j)))), (g 10, .inl (cI, 4, .inl (fun j => nI (be j))))]) hD hS hA [0, 1, 2, 3, 4] rfl
    refine va_callv (va_runV (As := [.int (nI 0), .int (nI 1), .int (nI 0)]) (rest := []) ⟨hx, hb, hml, hown, hts⟩ (c_S_tryZonesFrom_0 l _ g F k xa xb TA TB 0 1 none none en be hF12 hk1 hk4 hTp hX hX0 hT (by omega) (fun z hz => absurd hz (by omega)) rfl (by omega) rfl (fun e => PA_0)) (cwV 3 hts (gw_V k_418 k_415 k_417 ks_S_tryZonesFrom k_4) rfl rfl rfl (by decide +kernel) ⟨Nat.le_trans (Nat.le_of_ble_eq_true rfl) hfr, Nat.le_trans (Nat.le_of_ble_eq_true rfl) hlo⟩) ⟨wr_blind, va_recv hK hP (ci := 3) (q0 := 0) rfl rfl, wr_at hC hPc hDc⟩ rfl rfl hl.1 rfl (lv_room (Nat.le_of_ble_eq_true rfl)) d_S_findBest_19 ⟨hce, hsl⟩) hS (fun q _ h => hFc q h) hFc (fun u t H1 locs ht hvm hw hB hz1 hk1 hS => ?_)
    obtain ⟨hP1, hD1⟩ := hB
    rw [ht] at hP1
    obtain ⟨hP, hD⟩ := va_join (wr := []) (w1 := [(g 6, .inr (3, [.ref (g 7), .ref (g 8), .ref (g 9), .ref (g 10), .int (nI (oV u.2.1)), .int (nI F), .int (nI k)])), (g 7, .inl (cL, 169, .inr (.inl (fun j => lN (xa j))))), (g 8, .inl (cL, 169, .inr (.inl (fun j => lN (xb j))))), (g 9, .inl (cI, 4, .inl (fun j => nI ((u.1) j)))), (g 10, .inl (cI, 4, .inl (fun j => nI ((u.2.2) j))))]) hP hD [0, 1, 2, 3, 4] [] rfl rfl (by decide) (by decide) hk1 hFc hP1 hD1
    generalize H1 = H at hP hS ⊢
    have hP := hP.sub (ws' := [(g 6, .inr (3, [.ref (g 7), .ref (g 8), .ref (g 9), .ref (g 10), .int (nI (oV u.2.1)), .int (nI F), .int (nI k)])), (g 7, .inl (cL, 169, .inr (.inl (fun j => lN (xa j))))), (g 8, .inl (cL, 169, .inr (.inl (fun j => lN (xb j))))), (g 9, .inl (cI, 4, .inl (fun j => nI ((u.1) j)))), (g 10, .inl (cI, 4, .inl (fun j => nI ((u.2.2) j))))]) [0, 1, 2, 3, 4] rfl
    have hD := hD.sub (ws' := [(g 6, .inr (3, [.ref (g 7), .ref (g 8), .ref (g 9), .ref (g 10), .int (nI (oV u.2.1)), .int (nI F), .int (nI k)])), (g 7, .inl (cL, 169, .inr (.inl (fun j => lN (xa j))))), (g 8, .inl (cL, 169, .inr (.inl (fun j => lN (xb j))))), (g 9, .inl (cI, 4, .inl (fun j => nI ((u.1) j)))), (g 10, .inl (cI, 4, .inl (fun j => nI ((u.2.2) j))))]) [0, 1, 2, 3, 4] (by decide) rfl
    exact W.vret hx hb hr (fun t ht hW => ⟨⟨u, rfl, Bs_congr hw.2 (fun e => PB_0), by rw [ht]; exact hP, hD⟩, hS.F ht⟩) hS.2.2 d_S_findBest_22
  · have hPc := hP.sub (ws' := [(g 6, .inr (3, [.ref (g 7), .ref (g 8), .ref (g 9), .ref (g 10), .int (nI 0), .int (nI F), .int (nI k)])), (g 7, .inl (cL, 169, .inr (.inl (fun j => lN (xa j))))), (g 8, .inl (cL, 169, .inr (.inl (fun j => lN (xb j))))), (g 9, .inl (cI, 4, .inl (fun j => nI (en j)))), (g 10, .inl (cI, 4, .inl (fun j => nI (be j))))]) [0, 1, 2, 3, 4] rfl
    have hDc := hD.sub (ws' := [(g 6, .inr (3, [.ref (g 7), .ref (g 8), .ref (g 9), .ref (g 10), .int (nI 0), .int (nI F), .int (nI k)])), (g 7, .inl (cL, 169, .inr (.inl (fun j => lN (xa j))))), (g 8, .inl (cL, 169, .inr (.inl (fun j => lN (xb j))))), (g 9, .inl (cI, 4, .inl (fun j => nI (en j)))), (g 10, .inl (cI, 4, .inl (fun j => nI (be j))))]) [0, 1, 2, 3, 4] (by decide) rfl
    have hFc := va_free (wc := [(g 6, .inr (3, [.ref (g 7), .ref (g 8), .ref (g 9), .ref (g 10), .int (nI 0), .int (nI F), .int (nI k)])), (g 7, .inl (cL, 169, .inr (.inl (fun j => lN (xa j))))), (g 8, .inl (cL, 169, .inr (.inl (fun j => lN (xb j))))), (g 9, .inl (cI, 4, .inl (fun j => nI (en j)))), (g 10, .inl (cI, 4, .inl (fun j => nI (be j))))]) hD hS hA [0, 1, 2, 3, 4] rfl
    refine va_callv (va_runV (As := [.int (nI 0), .int (nI 1), .int (nI 0)]) (rest := []) ⟨hx, hb, hml, hown, hts⟩ (c_S_tryZonesFrom_1 l _ g F k xa xb TA TB 0 1 none none en be hF12 hk1 hk4 hTp hX hX0 hT (by omega) (fun z hz => absurd hz (by omega)) rfl (by omega) rfl (fun e => PA_0)) (cwV 3 hts (gw_V k_418 k_415 k_417 ks_S_tryZonesFrom k_4) rfl rfl rfl (by decide +kernel) ⟨Nat.le_trans (Nat.le_of_ble_eq_true rfl) hfr, Nat.le_trans (Nat.le_of_ble_eq_true rfl) hlo⟩) ⟨wr_blind, va_recv hK hP (ci := 3) (q0 := 0) rfl rfl, wr_at hC hPc hDc⟩ rfl rfl hl.1 rfl (lv_room (Nat.le_of_ble_eq_true rfl)) d_S_findBest_19 ⟨hce, hsl⟩) hS (fun q _ h => hFc q h) hFc (fun u t H1 locs ht hvm hw hB hz1 hk1 hS => ?_)
    obtain ⟨hP1, hD1⟩ := hB
    rw [ht] at hP1
    obtain ⟨hP, hD⟩ := va_join (wr := []) (w1 := [(g 6, .inr (3, [.ref (g 7), .ref (g 8), .ref (g 9), .ref (g 10), .int (nI (oV u.2.1)), .int (nI F), .int (nI k)])), (g 7, .inl (cL, 169, .inr (.inl (fun j => lN (xa j))))), (g 8, .inl (cL, 169, .inr (.inl (fun j => lN (xb j))))), (g 9, .inl (cI, 4, .inl (fun j => nI ((u.1) j)))), (g 10, .inl (cI, 4, .inl (fun j => nI ((u.2.2) j))))]) hP hD [0, 1, 2, 3, 4] [] rfl rfl (by decide) (by decide) hk1 hFc hP1 hD1
    generalize H1 = H at hP hS ⊢
    have hP := hP.sub (ws' := [(g 6, .inr (3, [.ref (g 7), .ref (g 8), .ref (g 9), .ref (g 10), .int (nI (oV u.2.1)), .int (nI F), .int (nI k)])), (g 7, .inl (cL, 169, .inr (.inl (fun j => lN (xa j))))), (g 8, .inl (cL, 169, .inr (.inl (fun j => lN (xb j))))), (g 9, .inl (cI, 4, .inl (fun j => nI ((u.1) j)))), (g 10, .inl (cI, 4, .inl (fun j => nI ((u.2.2) j))))]) [0, 1, 2, 3, 4] rfl
    have hD := hD.sub (ws' := [(g 6, .inr (3, [.ref (g 7), .ref (g 8), .ref (g 9), .ref (g 10), .int (nI (oV u.2.1)), .int (nI F), .int (nI k)])), (g 7, .inl (cL, 169, .inr (.inl (fun j => lN (xa j))))), (g 8, .inl (cL, 169, .inr (.inl (fun j => lN (xb j))))), (g 9, .inl (cI, 4, .inl (fun j => nI ((u.1) j)))), (g 10, .inl (cI, 4, .inl (fun j => nI ((u.2.2) j))))]) [0, 1, 2, 3, 4] (by decide) rfl
    exact W.vret hx hb hr (fun t ht hW => ⟨⟨u, rfl, Bs_congr hw.2 (fun e => PB_0), by rw [ht]; exact hP, hD⟩, hS.F ht⟩) hS.2.2 d_S_findBest_22
  · have hPc := hP.sub (ws' := [(g 6, .inr (3, [.ref (g 7), .ref (g 8), .ref (g 9), .ref (g 10), .int (nI 0), .int (nI F), .int (nI k)])), (g 7, .inl (cL, 169, .inr (.inl (fun j => lN (xa j))))), (g 8, .inl (cL, 169, .inr (.inl (fun j => lN (xb j))))), (g 9, .inl (cI, 4, .inl (fun j => nI (en j)))), (g 10, .inl (cI, 4, .inl (fun j => nI (be j))))]) [0, 1, 2, 3, 4] rfl
    have hDc := hD.sub (ws' := [(g 6, .inr (3, [.ref (g 7), .ref (g 8), .ref (g 9), .ref (g 10), .int (nI 0), .int (nI F), .int (nI k)])), (g 7, .inl (cL, 169, .inr (.inl (fun j => lN (xa j))))), (g 8, .inl (cL, 169, .inr (.inl (fun j => lN (xb j))))), (g 9, .inl (cI, 4, .inl (fun j => nI (en j)))), (g 10, .inl (cI, 4, .inl (fun j => nI (be j))))]) [0, 1, 2, 3, 4] (by decide) rfl
    have hFc := va_free (wc := [(g 6, .inr (3, [.ref (g 7), .ref (g 8), .ref (g 9), .ref (g 10), .int (nI 0), .int (nI F), .int (nI k)])), (g 7, .inl (cL, 169, .inr (.inl (fun j => lN (xa j))))), (g 8, .inl (cL, 169, .inr (.inl (fun j => lN (xb j))))), (g 9, .inl (cI, 4, .inl (fun j => nI (en j)))), (g 10, .inl (cI, 4, .inl (fun j => nI (be j))))]) hD hS hA [0, 1, 2, 3, 4] rfl
    refine va_callv (va_runV (As := [.int (nI 0), .int (nI 1), .int (nI 0)]) (rest := []) ⟨hx, hb, hml, hown, hts⟩ (c_S_tryZonesFrom_2 l _ g F k xa xb TA TB 0 1 none none en be hF12 hk1 hk4 hTp hX hX0 hT (by omega) (fun z hz => absurd hz (by omega)) rfl (by omega) rfl (fun e => PA_0)) (cwV 3 hts (gw_V k_418 k_415 k_417 ks_S_tryZonesFrom k_4) rfl rfl rfl (by decide +kernel) ⟨Nat.le_trans (Nat.le_of_ble_eq_true rfl) hfr, Nat.le_trans (Nat.le_of_ble_eq_true rfl) hlo⟩) ⟨wr_blind, va_recv hK hP (ci := 3) (q0 := 0) rfl rfl, wr_at hC hPc hDc⟩ rfl rfl hl.1 rfl (lv_room (Nat.le_of_ble_eq_true rfl)) d_S_findBest_19 ⟨hce, hsl⟩) hS (fun q _ h => hFc q h) hFc (fun u t H1 locs ht hvm hw hB hz1 hk1 hS => ?_)
    obtain ⟨hP1, hD1⟩ := hB
    rw [ht] at hP1
    obtain ⟨hP, hD⟩ := va_join (wr := []) (w1 := [(g 6, .inr (3, [.ref (g 7), .ref (g 8), .ref (g 9), .ref (g 10), .int (nI (oV u.2.1)), .int (nI F), .int (nI k)])), (g 7, .inl (cL, 169, .inr (.inl (fun j => lN (xa j))))), (g 8, .inl (cL, 169, .inr (.inl (fun j => lN (xb j))))), (g 9, .inl (cI, 4, .inl (fun j => nI ((u.1) j)))), (g 10, .inl (cI, 4, .inl (fun j => nI ((u.2.2) j))))]) hP hD [0, 1, 2, 3, 4] [] rfl rfl (by decide) (by decide) hk1 hFc hP1 hD1
    generalize H1 = H at hP hS ⊢
    have hP := hP.sub (ws' := [(g 6, .inr (3, [.ref (g 7), .ref (g 8), .ref (g 9), .ref (g 10), .int (nI (oV u.2.1)), .int (nI F), .int (nI k)])), (g 7, .inl (cL, 169, .inr (.inl (fun j => lN (xa j))))), (g 8, .inl (cL, 169, .inr (.inl (fun j => lN (xb j))))), (g 9, .inl (cI, 4, .inl (fun j => nI ((u.1) j)))), (g 10, .inl (cI, 4, .inl (fun j => nI ((u.2.2) j))))]) [0, 1, 2, 3, 4] rfl
    have hD := hD.sub (ws' := [(g 6, .inr (3, [.ref (g 7), .ref (g 8), .ref (g 9), .ref (g 10), .int (nI (oV u.2.1)), .int (nI F), .int (nI k)])), (g 7, .inl (cL, 169, .inr (.inl (fun j => lN (xa j))))), (g 8, .inl (cL, 169, .inr (.inl (fun j => lN (xb j))))), (g 9, .inl (cI, 4, .inl (fun j => nI ((u.1) j)))), (g 10, .inl (cI, 4, .inl (fun j => nI ((u.2.2) j))))]) [0, 1, 2, 3, 4] (by decide) rfl
    exact W.vret hx hb hr (fun t ht hW => ⟨⟨u, rfl, Bs_congr hw.2 (fun e => PB_0), by rw [ht]; exact hP, hD⟩, hS.F ht⟩) hS.2.2 d_S_findBest_22
  · have hPc := hP.sub (ws' := [(g 6, .inr (3, [.ref (g 7), .ref (g 8), .ref (g 9), .ref (g 10), .int (nI 0), .int (nI F), .int (nI k)])), (g 7, .inl (cL, 169, .inr (.inl (fun j => lN (xa j))))), (g 8, .inl (cL, 169, .inr (.inl (fun j => lN (xb j))))), (g 9, .inl (cI, 4, .inl (fun j => nI (en j)))), (g 10, .inl (cI, 4, .inl (fun j => nI (be j))))]) [0, 1, 2, 3, 4] rfl
    have hDc := hD.sub (ws' := [(g 6, .inr (3, [.ref (g 7), .ref (g 8), .ref (g 9), .ref (g 10), .int (nI 0), .int (nI F), .int (nI k)])), (g 7, .inl (cL, 169, .inr (.inl (fun j => lN (xa j))))), (g 8, .inl (cL, 169, .inr (.inl (fun j => lN (xb j))))), (g 9, .inl (cI, 4, .inl (fun j => nI (en j)))), (g 10, .inl (cI, 4, .inl (fun j => nI (be j))))]) [0, 1, 2, 3, 4] (by decide) rfl
    have hFc := va_free (wc := [(g 6, .inr (3, [.ref (g 7), .ref (g 8), .ref (g 9), .ref (g 10), .int (nI 0), .int (nI F), .int (nI k)])), (g 7, .inl (cL, 169, .inr (.inl (fun j => lN (xa j))))), (g 8, .inl (cL, 169, .inr (.inl (fun j => lN (xb j))))), (g 9, .inl (cI, 4, .inl (fun j => nI (en j)))), (g 10, .inl (cI, 4, .inl (fun j => nI (be j))))]) hD hS hA [0, 1, 2, 3, 4] rfl
    refine va_callv (va_runV (As := [.int (nI 0), .int (nI 1), .int (nI 0)]) (rest := []) ⟨hx, hb, hml, hown, hts⟩ (c_S_tryZonesFrom_3 l _ g F k xa xb TA TB 0 1 none none en be hF12 hk1 hk4 hTp hX hX0 hT (by omega) (fun z hz => absurd hz (by omega)) rfl (by omega) rfl (fun e => PA_0)) (cwV 3 hts (gw_V k_418 k_415 k_417 ks_S_tryZonesFrom k_4) rfl rfl rfl (by decide +kernel) ⟨Nat.le_trans (Nat.le_of_ble_eq_true rfl) hfr, Nat.le_trans (Nat.le_of_ble_eq_true rfl) hlo⟩) ⟨wr_blind, va_recv hK hP (ci := 3) (q0 := 0) rfl rfl, wr_at hC hPc hDc⟩ rfl rfl hl.1 rfl (lv_room (Nat.le_of_ble_eq_true rfl)) d_S_findBest_19 ⟨hce, hsl⟩) hS (fun q _ h => hFc q h) hFc (fun u t H1 locs ht hvm hw hB hz1 hk1 hS => ?_)
    obtain ⟨hP1, hD1⟩ := hB
    rw [ht] at hP1
    obtain ⟨hP, hD⟩ := va_join (wr := []) (w1 := [(g 6, .inr (3, [.ref (g 7), .ref (g 8), .ref (g 9), .ref (g 10), .int (nI (oV u.2.1)), .int (nI F), .int (nI k)])), (g 7, .inl (cL, 169, .inr (.inl (fun j => lN (xa j))))), (g 8, .inl (cL, 169, .inr (.inl (fun j => lN (xb j))))), (g 9, .inl (cI, 4, .inl (fun j => nI ((u.1) j)))), (g 10, .inl (cI, 4, .inl (fun j => nI ((u.2.2) j))))]) hP hD [0, 1, 2, 3, 4] [] rfl rfl (by decide) (by decide) hk1 hFc hP1 hD1
    generalize H1 = H at hP hS ⊢
    have hP := hP.sub (ws' := [(g 6, .inr (3, [.ref (g 7), .ref (g 8), .ref (g 9), .ref (g 10), .int (nI (oV u.2.1)), .int (nI F), .int (nI k)])), (g 7, .inl (cL, 169, .inr (.inl (fun j => lN (xa j))))), (g 8, .inl (cL, 169, .inr (.inl (fun j => lN (xb j))))), (g 9, .inl (cI, 4, .inl (fun j => nI ((u.1) j)))), (g 10, .inl (cI, 4, .inl (fun j => nI ((u.2.2) j))))]) [0, 1, 2, 3, 4] rfl
    have hD := hD.sub (ws' := [(g 6, .inr (3, [.ref (g 7), .ref (g 8), .ref (g 9), .ref (g 10), .int (nI (oV u.2.1)), .int (nI F), .int (nI k)])), (g 7, .inl (cL, 169, .inr (.inl (fun j => lN (xa j))))), (g 8, .inl (cL, 169, .inr (.inl (fun j => lN (xb j))))), (g 9, .inl (cI, 4, .inl (fun j => nI ((u.1) j)))), (g 10, .inl (cI, 4, .inl (fun j => nI ((u.2.2) j))))]) [0, 1, 2, 3, 4] (by decide) rfl
    exact W.vret hx hb hr (fun t ht hW => ⟨⟨u, rfl, Bs_congr hw.2 (fun e => PB_0), by rw [ht]; exact hP, hD⟩, hS.F ht⟩) hS.2.2 d_S_findBest_22
set_option maxHeartbeats 4000000 in
set_option maxRecDepth 100000 in
theorem c_T_split (l : Launch) {dC : Nat → ClassId} {dI : Nat → Nat → Nat} {cI cL cT : ClassId} {sa : Nat → Nat} (sz : Nat) (g ca : Nat → Nat) (F nt E e0 wy so ho bl sf zn : Nat) (pp hh rm sd dr pe ce xa xb en be : Nat → Nat) (t0 k j : Nat) (hF12 : F ≤ 12) (hU2 : sm pp 1 F ≤ 200) (hhh : ∀ k, k < F → hh (1 + k) ≤ 1200) (hn6 : nt ≤ 6) (ht0 : t0 < nt) (hk1 : 1 ≤ k) (hk4 : k ≤ 4) (hj : j ≤ k - 1) (hkF : k ≤ F) (hrm : 1 ≤ rm t0 ∧ rm t0 ≤ 5) (hsd : 1 ≤ sd t0 ∧ sd t0 ≤ 100) (hdr : dr t0 ≤ 30) (hpe : pe t0 ≤ 10) (hX0 : xa 0 = 0 ∧ xb 0 = 1) : Met l y_T_split (Cond.code y_T_split b_T_split 5 (some .int) :: gw) ({ frames := 8, cells := 0, slots := 0, locals := 500 } : Room) (wr dC dI cI cL cT sa [.ref (g 0), .int (nI t0), .int (nI k), .int (nI j)] [(g 0, .inr (5, [.ref (g 1), .ref (g 4), .int (nI nt), .ref (g 5), .ref (g 6), .ref (g 11)])), (g 1, .inr (0, [.ref (g 2), .ref (g 3), .int (nI F), .int (nI E)])), (g 4, .inl (cT, 6, .inr (.inr (.inr (.inr (tq ca nt)))))), (g 2, .inl (cI, 13, .inl (fun j => nI (pp j)))), (g 3, .inl (cI, 13, .inl (fun j => nI (hh j)))), (g 5, .inr (2, [.int (nI e0), .long (lN wy), .long (lN so), .long (lN ho)])), (g 6, .inr (3, [.ref (g 7), .ref (g 8), .ref (g 9), .ref (g 10), .int (nI bl), .int (nI sf), .int (nI zn)])), (g 7, .inl (cL, 169, .inr (.inl (fun j => lN (xa j))))), (g 8, .inl (cL, 169, .inr (.inl (fun j => lN (xb j))))), (g 9, .inl (cI, 4, .inl (fun j => nI (en j)))), (g 10, .inl (cI, 4, .inl (fun j => nI (be j)))), (ca t0, .inr (1, [.int (nI (rm t0)), .int (nI (sd t0)), .int (nI (dr t0)), .int (nI (pe t0)), .int (nI (ce t0))]))] sz) (va_Qi (fun r (u : (Nat → Nat) × (Nat → Nat) × (Nat × Nat × Nat × Nat) × Option Nat × (Nat → Nat) × (Nat → Nat)) => (u.1 0 = 0 ∧ u.2.1 0 = 1) ∧ ∃ be bl, isBst (zA pp hh (rm t0) (sd t0) (dr t0) (pe t0)) (zB pp (rm t0) (sd t0)) k (vs F k) be bl ∧ r = nI (be j)) (fun (u : (Nat → Nat) × (Nat → Nat) × (Nat × Nat × Nat × Nat) × Option Nat × (Nat → Nat) × (Nat → Nat)) => wB dC dI [(g 0, .inr (5, [.ref (g 1), .ref (g 4), .int (nI nt), .ref (g 5), .ref (g 6), .ref (g 11)])), (g 1, .inr (0, [.ref (g 2), .ref (g 3), .int (nI F), .int (nI E)])), (g 4, .inl (cT, 6, .inr (.inr (.inr (.inr (tq ca nt)))))), (g 2, .inl (cI, 13, .inl (fun j => nI (pp j)))), (g 3, .inl (cI, 13, .inl (fun j => nI (hh j)))), (g 5, .inr (2, [.int (nI e0), .long (lN wy), .long (lN so), .long (lN ho)])), (g 6, .inr (3, [.ref (g 7), .ref (g 8), .ref (g 9), .ref (g 10), .int (nI bl), .int (nI sf), .int (nI zn)])), (g 7, .inl (cL, 169, .inr (.inl (fun j => lN (xa j))))), (g 8, .inl (cL, 169, .inr (.inl (fun j => lN (xb j))))), (g 9, .inl (cI, 4, .inl (fun j => nI (en j)))), (g 10, .inl (cI, 4, .inl (fun j => nI (be j)))), (ca t0, .inr (1, [.int (nI (rm t0)), .int (nI (sd t0)), .int (nI (dr t0)), .int (nI (pe t0)), .int (nI (ce t0))]))] [(g 0, .inr (5, [.ref (g 1), .ref (g 4), .int (nI nt), .ref (g 5), .ref (g 6), .ref (g 11)])), (g 1, .inr (0, [.ref (g 2), .ref (g 3), .int (nI F), .int (nI E)])), (g 4, .inl (cT, 6, .inr (.inr (.inr (.inr (tq ca nt)))))), (g 2, .inl (cI, 13, .inl (fun j => nI (pp j)))), (g 3, .inl (cI, 13, .inl (fun j => nI (hh j)))), (g 5, .inr (2, [.int (nI u.2.2.1.1), .long (lN u.2.2.1.2.1), .long (lN u.2.2.1.2.2.1), .long (lN u.2.2.1.2.2.2)])), (g 6, .inr (3, [.ref (g 7), .ref (g 8), .ref (g 9), .ref (g 10), .int (nI (oV u.2.2.2.1)), .int (nI F), .int (nI k)])), (g 7, .inl (cL, 169, .inr (.inl (fun j => lN ((u.1) j))))), (g 8, .inl (cL, 169, .inr (.inl (fun j => lN ((u.2.1) j))))), (g 9, .inl (cI, 4, .inl (fun j => nI ((u.2.2.2.2.1) j)))), (g 10, .inl (cI, 4, .inl (fun j => nI ((u.2.2.2.2.2) j)))), (ca t0, .inr (1, [.int (nI (rm t0)), .int (nI (sd t0)), .int (nI (dr t0)), .int (nI (pe t0)), .int (nI (ce t0))]))] sz ()) (va_A [(g 0, .inr (5, [.ref (g 1), .ref (g 4), .int (nI nt), .ref (g 5), .ref (g 6), .ref (g 11)])), (g 1, .inr (0, [.ref (g 2), .ref (g 3), .int (nI F), .int (nI E)])), (g 4, .inl (cT, 6, .inr (.inr (.inr (.inr (tq ca nt)))))), (g 2, .inl (cI, 13, .inl (fun j => nI (pp j)))), (g 3, .inl (cI, 13, .inl (fun j => nI (hh j)))), (g 5, .inr (2, [.int (nI e0), .long (lN wy), .long (lN so), .long (lN ho)])), (g 6, .inr (3, [.ref (g 7), .ref (g 8), .ref (g 9), .ref (g 10), .int (nI bl), .int (nI sf), .int (nI zn)])), (g 7, .inl (cL, 169, .inr (.inl (fun j => lN (xa j))))), (g 8, .inl (cL, 169, .inr (.inl (fun j => lN (xb j))))), (g 9, .inl (cI, 4, .inl (fun j => nI (en j)))), (g 10, .inl (cI, 4, .inl (fun j => nI (be j)))), (ca t0, .inr (1, [.int (nI (rm t0)), .int (nI (sd t0)), .int (nI (dr t0)), .int (nI (pe t0)), .int (nI (ce t0))]))] sz)) 0 0 (va_A [(g 0, .inr (5, [.ref (g 1), .ref (g 4), .int (nI nt), .ref (g 5), .ref (g 6), .ref (g 11)])), (g 1, .inr (0, [.ref (g 2), .ref (g 3), .int (nI F), .int (nI E)])), (g 4, .inl (cT, 6, .inr (.inr (.inr (.inr (tq ca nt)))))), (g 2, .inl (cI, 13, .inl (fun j => nI (pp j)))), (g 3, .inl (cI, 13, .inl (fun j => nI (hh j)))), (g 5, .inr (2, [.int (nI e0), .long (lN wy), .long (lN so), .long (lN ho)])), (g 6, .inr (3, [.ref (g 7), .ref (g 8), .ref (g 9), .ref (g 10), .int (nI bl), .int (nI sf), .int (nI zn)])), (g 7, .inl (cL, 169, .inr (.inl (fun j => lN (xa j))))), (g 8, .inl (cL, 169, .inr (.inl (fun j => lN (xb j))))), (g 9, .inl (cI, 4, .inl (fun j => nI (en j)))), (g 10, .inl (cI, 4, .inl (fun j => nI (be j)))), (ca t0, .inr (1, [.int (nI (rm t0)), .int (nI (sd t0)), .int (nI (dr t0)), .int (nI (pe t0)), .int (nI (ce t0))]))] sz) := by
  refine Met.ofW (cc := b_T_split) (maxL := 5) (ret := (some .int)) (by decide) rfl ?_
  intro p e s m args below meth c s₁ B hml hv
  obtain ⟨rfl, hsz, hC, hP, hD0⟩ := hv
  have hx := B.exec
  have hb := B.bytes
  have hr := B.returns
  have hts : ∀ w ∈ gw, w.before ([.ref (g 0), .int (nI t0), .int (nI k), .int (nI j)] : List Value).toArray s = true := fun w hw => atoms_spec (ws := Cond.code y_T_split b_T_split 5 (some .int) :: gw) B.pre w (List.mem_cons_of_mem _ hw)
  have hown : s.vm.findClass R_T = some m.cls := findClass_of_methodNamed B.named
  have hlocks := B.notSynchronized
  have hK := hC.1
  have hfr : 8 ≤ (headSpec (Cond.code y_T_split b_T_split 5 (some .int) :: gw) ({ frames := 8, cells := 0, slots := 0, locals := 500 } : Room)).room.frames := Nat.le_refl _
  have hlo : 500 ≤ (headSpec (Cond.code y_T_split b_T_split 5 (some .int) :: gw) ({ frames := 8, cells := 0, slots := 0, locals := 500 } : Room)).room.locals := Nat.le_refl _
  have hce : 0 ≤ (headSpec (Cond.code y_T_split b_T_split 5 (some .int) :: gw) ({ frames := 8, cells := 0, slots := 0, locals := 500 } : Room)).room.cells := Nat.zero_le _
  have hsl : 0 ≤ (headSpec (Cond.code y_T_split b_T_split 5 (some .int) :: gw) ({ frames := 8, cells := 0, slots := 0, locals := 500 } : Room)).room.slots := Nat.zero_le _
  subst hsz
  have hD := hD0.self (sz := s.heap.size)
  unfold wB
  generalize hAe : va_A [(g 0, .inr (5, [.ref (g 1), .ref (g 4), .int (nI nt), .ref (g 5), .ref (g 6), .ref (g 11)])), (g 1, .inr (0, [.ref (g 2), .ref (g 3), .int (nI F), .int (nI E)])), (g 4, .inl (cT, 6, .inr (.inr (.inr (.inr (tq ca nt)))))), (g 2, .inl (cI, 13, .inl (fun j => nI (pp j)))), (g 3, .inl (cI, 13, .inl (fun j => nI (hh j)))), (g 5, .inr (2, [.int (nI e0), .long (lN wy), .long (lN so), .long (lN ho)])), (g 6, .inr (3, [.ref (g 7), .ref (g 8), .ref (g 9), .ref (g 10), .int (nI bl), .int (nI sf), .int (nI zn)])), (g 7, .inl (cL, 169, .inr (.inl (fun j => lN (xa j))))), (g 8, .inl (cL, 169, .inr (.inl (fun j => lN (xb j))))), (g 9, .inl (cI, 4, .inl (fun j => nI (en j)))), (g 10, .inl (cI, 4, .inl (fun j => nI (be j)))), (ca t0, .inr (1, [.int (nI (rm t0)), .int (nI (sd t0)), .int (nI (dr t0)), .int (nI (pe t0)), .int (nI (ce t0))]))] s.heap.size = A at hD ⊢
  have hA : ∀ q : Nat, s.heap.size ≤ q → A q := fun q h => by rw [← hAe]; exact Or.inr h
  have hS : va_S A s.heap s.heap [] := va_S.rf
  have hl := lv_entry ([.ref (g 0), .int (nI t0), .int (nI k), .int (nI j)]) (n := 5) (Nat.le_of_ble_eq_true rfl)
  rw [lg_entry_eq]
  generalize (lg_sl ([.ref (g 0), .int (nI t0), .int (nI k), .int (nI j)]) ++ List.replicate (5 - (lg_sl ([.ref (g 0), .int (nI t0), .int (nI k), .int (nI j)])).length) Slot.unset).toArray = ls at hl ⊢
  have hl : lv_has ls 5 [(0, .ref (g 0)), (1, .int (nI t0)), (2, .int (nI k)), (3, .int (nI j))] := hl
  have hkk := hk1
  refine lv_aload_n hx hb d_T_split_0 rfl (lv_at hl 0 rfl) ?_
  refine lv_iload_n hx hb d_T_split_1 rfl (lv_at hl 1 rfl) ?_
  refine ro_callr (va_runV (As := [.int (nI t0)]) (rest := []) ⟨hx, hb, hml, hown, hts⟩ (c_T_requireType l g ca nt t0 hn6 ht0) (cwV 1 hts (gw_V k_305 k_302 k_304 ks_T_requireType k_1) rfl rfl rfl (by decide +kernel) ⟨Nat.le_trans (Nat.le_of_ble_eq_true rfl) hfr, Nat.le_trans (Nat.le_of_ble_eq_true rfl) hlo⟩) ⟨pr_blind, va_recv hK hP (ci := 5) (q0 := 0) rfl rfl, pr_at hC (hP.sub (ws' := [(g 0, .inr (5, [.ref (g 1), .ref (g 4), .int (nI nt), .ref (g 5), .ref (g 6), .ref (g 11)])), (g 4, .inl (cT, 6, .inr (.inr (.inr (.inr (tq ca nt))))))]) [0, 2] rfl)⟩ rfl rfl hl.1 rfl (lv_room (Nat.le_of_ble_eq_true rfl)) d_T_split_2 ⟨hce, hsl⟩) ?_
  refine lv_astore (lv' := [(4, .ref (ca t0)), (0, .ref (g 0)), (1, .int (nI t0)), (2, .int (nI k)), (3, .int (nI j))]) hx hb d_T_split_5 hl (by decide) rfl (fun ls hl => ?_)
  refine lv_iload_n hx hb d_T_split_7 rfl (lv_at hl 3 rfl) ?_
  refine lv_iconst (v := nI 1) hx hb d_T_split_8 (by decide) ?_
  refine lv_iconst (v := nI 4) hx hb d_T_split_9 (by decide) ?_
  refine ro_callv (va_runS (As := [.int (nI k), .int (nI 1), .int (nI 4)]) (rest := []) ⟨hx, hb, hml, hown, hts⟩ (c_T_requireWithin l (nI k) (nI 1) (nI 4) 1 4 (nI_toInt (by decide)) (nI_toInt (by decide)) (by rw [nI_toInt (by omega)]; omega)) (cwS 3 hts (gw_S k_150 k_148 k_149 k_1) rfl rfl rfl (by decide +kernel) ⟨Nat.le_trans (Nat.le_of_ble_eq_true rfl) hfr, Nat.le_trans (Nat.le_of_ble_eq_true rfl) hlo⟩) ⟨pr_blind, pr_at hC (fun k q h => by simp at h)⟩ rfl rfl hl.1 rfl (lv_room (Nat.le_of_ble_eq_true rfl)) d_T_split_10 ⟨hce, hsl⟩) ?_
  refine lv_iload_n hx hb d_T_split_13 rfl (lv_at hl 4 rfl) ?_
  refine lv_iconst (v := nI 0) hx hb d_T_split_14 (by decide) ?_
  refine lv_iload_n hx hb d_T_split_15 rfl (lv_at hl 3 rfl) ?_
  refine lv_iconst (v := nI 1) hx hb d_T_split_16 (by decide) ?_
  refine nx_isub hx hb d_T_split_17 (by omega) ?_
  refine ro_callv (va_runS (As := [.int (nI j), .int (nI 0), .int (nI (k - 1))]) (rest := []) ⟨hx, hb, hml, hown, hts⟩ (c_T_requireWithin l (nI j) (nI 0) (nI (k - 1)) 0 ((k : Int) - 1) (nI_toInt (by decide)) (by rw [nI_toInt (by omega)]; omega) (by rw [nI_toInt (by omega)]; omega)) (cwS 3 hts (gw_S k_150 k_148 k_149 k_1) rfl rfl rfl (by decide +kernel) ⟨Nat.le_trans (Nat.le_of_ble_eq_true rfl) hfr, Nat.le_trans (Nat.le_of_ble_eq_true rfl) hlo⟩) ⟨pr_blind, pr_at hC (fun k q h => by simp at h)⟩ rfl rfl hl.1 rfl (lv_room (Nat.le_of_ble_eq_true rfl)) d_T_split_18 ⟨hce, hsl⟩) ?_
  refine lv_aload_n hx hb d_T_split_21 rfl (lv_at hl 1 rfl) ?_
  refine va_get (D := (dC, dI)) (ci := 5) (v := .ref (g 1)) (C := R_T) (T := F_T) (N := 6) hx hb hts i_T hown hK hP 0 rfl rfl 0 (by decide) (hts _ k_120) (fun _ h9 => h9) rfl d_T_split_22 ?_
  refine va_get (D := (dC, dI)) (ci := 0) (v := .int (nI F)) (C := R_B) (T := F_B) (N := 4) hx hb hts i_B hown hK hP 1 rfl rfl 2 (by decide) (hts _ k_37) (fun _ h9 => h9) rfl d_T_split_25 ?_
  refine lv_iload_n hx hb d_T_split_28 rfl (lv_at hl 3 rfl) ?_
  refine nx_icmp_ge (tgt := 42) hx hb d_T_split_29 (by decide) (by omega) (by omega) (fun h1 => ?_) (fun h1 => ?_)
  · refine lv_aload_n hx hb d_T_split_42 rfl (lv_at hl 1 rfl) ?_
    refine va_get (D := (dC, dI)) (ci := 5) (v := .ref (g 6)) (C := R_T) (T := F_T) (N := 6) hx hb hts i_T hown hK hP 0 rfl rfl 4 (by decide) (hts _ k_124) (fun _ h9 => h9) rfl d_T_split_43 ?_
    refine lv_aload_n hx hb d_T_split_46 rfl (lv_at hl 1 rfl) ?_
    refine va_get (D := (dC, dI)) (ci := 5) (v := .ref (g 1)) (C := R_T) (T := F_T) (N := 6) hx hb hts i_T hown hK hP 0 rfl rfl 0 (by decide) (hts _ k_120) (fun _ h9 => h9) rfl d_T_split_47 ?_
    refine lv_aload hx hb d_T_split_50 (lv_at hl 0 rfl) ?_
    refine lv_aload_n hx hb d_T_split_52 rfl (lv_at hl 1 rfl) ?_
    refine va_get (D := (dC, dI)) (ci := 5) (v := .ref (g 5)) (C := R_T) (T := F_T) (N := 6) hx hb hts i_T hown hK hP 0 rfl rfl 3 (by decide) (hts _ k_123) (fun _ h9 => h9) rfl d_T_split_53 ?_
    have hPc := hP.sub (ws' := [(g 6, .inr (3, [.ref (g 7), .ref (g 8), .ref (g 9), .ref (g 10), .int (nI bl), .int (nI sf), .int (nI zn)])), (g 7, .inl (cL, 169, .inr (.inl (fun j => lN (xa j))))), (g 8, .inl (cL, 169, .inr (.inl (fun j => lN (xb j))))), (g 1, .inr (0, [.ref (g 2), .ref (g 3), .int (nI F), .int (nI E)])), (g 2, .inl (cI, 13, .inl (fun j => nI (pp j)))), (g 3, .inl (cI, 13, .inl (fun j => nI (hh j)))), (g 5, .inr (2, [.int (nI e0), .long (lN wy), .long (lN so), .long (lN ho)])), (ca t0, .inr (1, [.int (nI (rm t0)), .int (nI (sd t0)), .int (nI (dr t0)), .int (nI (pe t0)), .int (nI (ce t0))]))]) [6, 7, 8, 1, 3, 4, 5, 11] rfl
    have hDc := hD.sub (ws' := [(g 6, .inr (3, [.ref (g 7), .ref (g 8), .ref (g 9), .ref (g 10), .int (nI bl), .int (nI sf), .int (nI zn)])), (g 7, .inl (cL, 169, .inr (.inl (fun j => lN (xa j))))), (g 8, .inl (cL, 169, .inr (.inl (fun j => lN (xb j))))), (g 1, .inr (0, [.ref (g 2), .ref (g 3), .int (nI F), .int (nI E)])), (g 2, .inl (cI, 13, .inl (fun j => nI (pp j)))), (g 3, .inl (cI, 13, .inl (fun j => nI (hh j)))), (g 5, .inr (2, [.int (nI e0), .long (lN wy), .long (lN so), .long (lN ho)])), (ca t0, .inr (1, [.int (nI (rm t0)), .int (nI (sd t0)), .int (nI (dr t0)), .int (nI (pe t0)), .int (nI (ce t0))]))]) [6, 7, 8, 1, 3, 4, 5, 11] (by decide) rfl
    have hFc := va_free (wc := [(g 6, .inr (3, [.ref (g 7), .ref (g 8), .ref (g 9), .ref (g 10), .int (nI bl), .int (nI sf), .int (nI zn)])), (g 7, .inl (cL, 169, .inr (.inl (fun j => lN (xa j))))), (g 8, .inl (cL, 169, .inr (.inl (fun j => lN (xb j))))), (g 1, .inr (0, [.ref (g 2), .ref (g 3), .int (nI F), .int (nI E)])), (g 2, .inl (cI, 13, .inl (fun j => nI (pp j)))), (g 3, .inl (cI, 13, .inl (fun j => nI (hh j)))), (g 5, .inr (2, [.int (nI e0), .long (lN wy), .long (lN so), .long (lN ho)])), (ca t0, .inr (1, [.int (nI (rm t0)), .int (nI (sd t0)), .int (nI (dr t0)), .int (nI (pe t0)), .int (nI (ce t0))]))]) hD hS hA [6, 7, 8, 1, 3, 4, 5, 11] rfl
    refine va_callv (va_runV (As := [.ref (g 1), .ref (ca t0), .ref (g 5)]) (rest := []) ⟨hx, hb, hml, hown, hts⟩ (c_S_measureZones l _ g ca F E bl sf zn pp hh rm sd dr pe ce t0 xa xb e0 wy so ho hF12 hU2 hhh hrm hsd hdr hpe hX0) (cwV 3 hts (gw_V k_404 k_401 k_402 k_403 k_4) rfl rfl rfl (by decide +kernel) ⟨Nat.le_trans (Nat.le_of_ble_eq_true rfl) hfr, Nat.le_trans (Nat.le_of_ble_eq_true rfl) hlo⟩) ⟨wr_blind, va_recv hK hP (ci := 3) (q0 := 6) rfl rfl, wr_at hC hPc hDc⟩ rfl rfl hl.1 rfl (lv_room (Nat.le_of_ble_eq_true rfl)) d_T_split_56 ⟨hce, hsl⟩) hS (fun q _ h => hFc q h) hFc (fun u t H1 locs ht hvm hw hB hz1 hk1 hS => ?_)
    obtain ⟨hP1, hD1⟩ := hB
    rw [ht] at hP1
    obtain ⟨hP, hD⟩ := va_join (wr := [(g 0, .inr (5, [.ref (g 1), .ref (g 4), .int (nI nt), .ref (g 5), .ref (g 6), .ref (g 11)])), (g 4, .inl (cT, 6, .inr (.inr (.inr (.inr (tq ca nt)))))), (g 9, .inl (cI, 4, .inl (fun j => nI (en j)))), (g 10, .inl (cI, 4, .inl (fun j => nI (be j))))]) (w1 := [(g 6, .inr (3, [.ref (g 7), .ref (g 8), .ref (g 9), .ref (g 10), .int (nI bl), .int (nI sf), .int (nI zn)])), (g 7, .inl (cL, 169, .inr (.inl (fun j => lN ((u.1) j))))), (g 8, .inl (cL, 169, .inr (.inl (fun j => lN ((u.2.1) j))))), (g 1, .inr (0, [.ref (g 2), .ref (g 3), .int (nI F), .int (nI E)])), (g 2, .inl (cI, 13, .inl (fun j => nI (pp j)))), (g 3, .inl (cI, 13, .inl (fun j => nI (hh j)))), (g 5, .inr (2, [.int (nI u.2.2.1), .long (lN u.2.2.2.1), .long (lN u.2.2.2.2.1), .long (lN u.2.2.2.2.2)])), (ca t0, .inr (1, [.int (nI (rm t0)), .int (nI (sd t0)), .int (nI (dr t0)), .int (nI (pe t0)), .int (nI (ce t0))]))]) hP hD [6, 7, 8, 1, 3, 4, 5, 11] [0, 2, 9, 10] rfl rfl (by decide) (by decide) hk1 hFc hP1 hD1
    generalize H1 = H at hP hS ⊢
    have hP := hP.sub (ws' := [(g 0, .inr (5, [.ref (g 1), .ref (g 4), .int (nI nt), .ref (g 5), .ref (g 6), .ref (g 11)])), (g 1, .inr (0, [.ref (g 2), .ref (g 3), .int (nI F), .int (nI E)])), (g 4, .inl (cT, 6, .inr (.inr (.inr (.inr (tq ca nt)))))), (g 2, .inl (cI, 13, .inl (fun j => nI (pp j)))), (g 3, .inl (cI, 13, .inl (fun j => nI (hh j)))), (g 5, .inr (2, [.int (nI u.2.2.1), .long (lN u.2.2.2.1), .long (lN u.2.2.2.2.1), .long (lN u.2.2.2.2.2)])), (g 6, .inr (3, [.ref (g 7), .ref (g 8), .ref (g 9), .ref (g 10), .int (nI bl), .int (nI sf), .int (nI zn)])), (g 7, .inl (cL, 169, .inr (.inl (fun j => lN ((u.1) j))))), (g 8, .inl (cL, 169, .inr (.inl (fun j => lN ((u.2.1) j))))), (g 9, .inl (cI, 4, .inl (fun j => nI (en j)))), (g 10, .inl (cI, 4, .inl (fun j => nI (be j)))), (ca t0, .inr (1, [.int (nI (rm t0)), .int (nI (sd t0)), .int (nI (dr t0)), .int (nI (pe t0)), .int (nI (ce t0))]))]) [0, 7, 1, 8, 9, 10, 4, 5, 6, 2, 3, 11] rfl
    have hD := hD.sub (ws' := [(g 0, .inr (5, [.ref (g 1), .ref (g 4), .int (nI nt), .ref (g 5), .ref (g 6), .ref (g 11)])), (g 1, .inr (0, [.ref (g 2), .ref (g 3), .int (nI F), .int (nI E)])), (g 4, .inl (cT, 6, .inr (.inr (.inr (.inr (tq ca nt)))))), (g 2, .inl (cI, 13, .inl (fun j => nI (pp j)))), (g 3, .inl (cI, 13, .inl (fun j => nI (hh j)))), (g 5, .inr (2, [.int (nI u.2.2.1), .long (lN u.2.2.2.1), .long (lN u.2.2.2.2.1), .long (lN u.2.2.2.2.2)])), (g 6, .inr (3, [.ref (g 7), .ref (g 8), .ref (g 9), .ref (g 10), .int (nI bl), .int (nI sf), .int (nI zn)])), (g 7, .inl (cL, 169, .inr (.inl (fun j => lN ((u.1) j))))), (g 8, .inl (cL, 169, .inr (.inl (fun j => lN ((u.2.1) j))))), (g 9, .inl (cI, 4, .inl (fun j => nI (en j)))), (g 10, .inl (cI, 4, .inl (fun j => nI (be j)))), (ca t0, .inr (1, [.int (nI (rm t0)), .int (nI (sd t0)), .int (nI (dr t0)), .int (nI (pe t0)), .int (nI (ce t0))]))]) [0, 7, 1, 8, 9, 10, 4, 5, 6, 2, 3, 11] (by decide) rfl
    obtain ⟨xa1, xb1, e1, wy1, so1, ho1⟩ := u
    obtain ⟨hX1, hX01⟩ := hw
    have hP : va_P (dC, dI) vwCl [(g 0, .inr (5, [.ref (g 1), .ref (g 4), .int (nI nt), .ref (g 5), .ref (g 6), .ref (g 11)])), (g 1, .inr (0, [.ref (g 2), .ref (g 3), .int (nI F), .int (nI E)])), (g 4, .inl (cT, 6, .inr (.inr (.inr (.inr (tq ca nt)))))), (g 2, .inl (cI, 13, .inl (fun j => nI (pp j)))), (g 3, .inl (cI, 13, .inl (fun j => nI (hh j)))), (g 5, .inr (2, [.int (nI e1), .long (lN wy1), .long (lN so1), .long (lN ho1)])), (g 6, .inr (3, [.ref (g 7), .ref (g 8), .ref (g 9), .ref (g 10), .int (nI bl), .int (nI sf), .int (nI zn)])), (g 7, .inl (cL, 169, .inr (.inl (fun j => lN (xa1 j))))), (g 8, .inl (cL, 169, .inr (.inl (fun j => lN (xb1 j))))), (g 9, .inl (cI, 4, .inl (fun j => nI (en j)))), (g 10, .inl (cI, 4, .inl (fun j => nI (be j)))), (ca t0, .inr (1, [.int (nI (rm t0)), .int (nI (sd t0)), .int (nI (dr t0)), .int (nI (pe t0)), .int (nI (ce t0))]))] H := hP
    have hD : va_D A [(g 0, .inr (5, [.ref (g 1), .ref (g 4), .int (nI nt), .ref (g 5), .ref (g 6), .ref (g 11)])), (g 1, .inr (0, [.ref (g 2), .ref (g 3), .int (nI F), .int (nI E)])), (g 4, .inl (cT, 6, .inr (.inr (.inr (.inr (tq ca nt)))))), (g 2, .inl (cI, 13, .inl (fun j => nI (pp j)))), (g 3, .inl (cI, 13, .inl (fun j => nI (hh j)))), (g 5, .inr (2, [.int (nI e1), .long (lN wy1), .long (lN so1), .long (lN ho1)])), (g 6, .inr (3, [.ref (g 7), .ref (g 8), .ref (g 9), .ref (g 10), .int (nI bl), .int (nI sf), .int (nI zn)])), (g 7, .inl (cL, 169, .inr (.inl (fun j => lN (xa1 j))))), (g 8, .inl (cL, 169, .inr (.inl (fun j => lN (xb1 j))))), (g 9, .inl (cI, 4, .inl (fun j => nI (en j)))), (g 10, .inl (cI, 4, .inl (fun j => nI (be j)))), (ca t0, .inr (1, [.int (nI (rm t0)), .int (nI (sd t0)), .int (nI (dr t0)), .int (nI (pe t0)), .int (nI (ce t0))]))] := hD
    have hX1 : ∀ j, zok F j → xa1 j = (zA pp hh (rm t0) (sd t0) (dr t0) (pe t0)) j ∧ xb1 j = (zB pp (rm t0) (sd t0)) j := hX1
    have hX01 : xa1 0 = 0 ∧ xb1 0 = 1 := hX01
    refine lv_aload_n hx hb d_T_split_59 rfl (lv_at hl 1 rfl) ?_
    refine va_get (D := (dC, dI)) (ci := 5) (v := .ref (g 6)) (C := R_T) (T := F_T) (N := 6) hx hb hts i_T hown hK hP 0 rfl rfl 4 (by decide) (hts _ k_124) (fun _ h9 => h9) rfl d_T_split_60 ?_
    refine lv_aload_n hx hb d_T_split_63 rfl (lv_at hl 1 rfl) ?_
    refine va_get (D := (dC, dI)) (ci := 5) (v := .ref (g 1)) (C := R_T) (T := F_T) (N := 6) hx hb hts i_T hown hK hP 0 rfl rfl 0 (by decide) (hts _ k_120) (fun _ h9 => h9) rfl d_T_split_64 ?_
    refine va_get (D := (dC, dI)) (ci := 0) (v := .int (nI F)) (C := R_B) (T := F_B) (N := 4) hx hb hts i_B hown hK hP 1 rfl rfl 2 (by decide) (hts _ k_37) (fun _ h9 => h9) rfl d_T_split_67 ?_
    refine lv_iload_n hx hb d_T_split_70 rfl (lv_at hl 3 rfl) ?_
    have hPc := hP.sub (ws' := [(g 6, .inr (3, [.ref (g 7), .ref (g 8), .ref (g 9), .ref (g 10), .int (nI bl), .int (nI sf), .int (nI zn)])), (g 7, .inl (cL, 169, .inr (.inl (fun j => lN (xa1 j))))), (g 8, .inl (cL, 169, .inr (.inl (fun j => lN (xb1 j))))), (g 9, .inl (cI, 4, .inl (fun j => nI (en j)))), (g 10, .inl (cI, 4, .inl (fun j => nI (be j))))]) [6, 7, 8, 9, 10] rfl
    have hDc := hD.sub (ws' := [(g 6, .inr (3, [.ref (g 7), .ref (g 8), .ref (g 9), .ref (g 10), .int (nI bl), .int (nI sf), .int (nI zn)])), (g 7, .inl (cL, 169, .inr (.inl (fun j => lN (xa1 j))))), (g 8, .inl (cL, 169, .inr (.inl (fun j => lN (xb1 j))))), (g 9, .inl (cI, 4, .inl (fun j => nI (en j)))), (g 10, .inl (cI, 4, .inl (fun j => nI (be j))))]) [6, 7, 8, 9, 10] (by decide) rfl
    have hFc := va_free (wc := [(g 6, .inr (3, [.ref (g 7), .ref (g 8), .ref (g 9), .ref (g 10), .int (nI bl), .int (nI sf), .int (nI zn)])), (g 7, .inl (cL, 169, .inr (.inl (fun j => lN (xa1 j))))), (g 8, .inl (cL, 169, .inr (.inl (fun j => lN (xb1 j))))), (g 9, .inl (cI, 4, .inl (fun j => nI (en j)))), (g 10, .inl (cI, 4, .inl (fun j => nI (be j))))]) hD hS hA [6, 7, 8, 9, 10] rfl
    refine va_callv (va_runV (As := [.int (nI F), .int (nI k)]) (rest := []) ⟨hx, hb, hml, hown, hts⟩ (c_S_findBest l _ g F k xa1 xb1 (zA pp hh (rm t0) (sd t0) (dr t0) (pe t0)) (zB pp (rm t0) (sd t0)) bl sf zn en be hF12 hkk hk4 (zB_pos hsd.1) hX1 hX01 (z_lim hF12 hU2 hhh hrm.2 hsd.2 hdr hpe) hkF) (cwV 2 hts (gw_V k_414 k_411 k_412 k_413 k_4) rfl rfl rfl (by decide +kernel) ⟨Nat.le_trans (Nat.le_of_ble_eq_true rfl) hfr, Nat.le_trans (Nat.le_of_ble_eq_true rfl) hlo⟩) ⟨wr_blind, va_recv hK hP (ci := 3) (q0 := 6) rfl rfl, wr_at hC hPc hDc⟩ rfl rfl hl.1 rfl (lv_room (Nat.le_of_ble_eq_true rfl)) d_T_split_71 ⟨hce, hsl⟩) hS (fun q _ h => hFc q h) hFc (fun u t H1 locs ht hvm hw hB hz1 hk1 hS => ?_)
    obtain ⟨hP1, hD1⟩ := hB
    rw [ht] at hP1
    obtain ⟨hP, hD⟩ := va_join (wr := [(g 0, .inr (5, [.ref (g 1), .ref (g 4), .int (nI nt), .ref (g 5), .ref (g 6), .ref (g 11)])), (g 1, .inr (0, [.ref (g 2), .ref (g 3), .int (nI F), .int (nI E)])), (g 4, .inl (cT, 6, .inr (.inr (.inr (.inr (tq ca nt)))))), (g 2, .inl (cI, 13, .inl (fun j => nI (pp j)))), (g 3, .inl (cI, 13, .inl (fun j => nI (hh j)))), (g 5, .inr (2, [.int (nI e1), .long (lN wy1), .long (lN so1), .long (lN ho1)])), (ca t0, .inr (1, [.int (nI (rm t0)), .int (nI (sd t0)), .int (nI (dr t0)), .int (nI (pe t0)), .int (nI (ce t0))]))]) (w1 := [(g 6, .inr (3, [.ref (g 7), .ref (g 8), .ref (g 9), .ref (g 10), .int (nI (oV u.2.1)), .int (nI F), .int (nI k)])), (g 7, .inl (cL, 169, .inr (.inl (fun j => lN (xa1 j))))), (g 8, .inl (cL, 169, .inr (.inl (fun j => lN (xb1 j))))), (g 9, .inl (cI, 4, .inl (fun j => nI ((u.1) j)))), (g 10, .inl (cI, 4, .inl (fun j => nI ((u.2.2) j))))]) hP hD [6, 7, 8, 9, 10] [0, 1, 2, 3, 4, 5, 11] rfl rfl (by decide) (by decide) hk1 hFc hP1 hD1
    generalize H1 = H at hP hS ⊢
    have hP := hP.sub (ws' := [(g 0, .inr (5, [.ref (g 1), .ref (g 4), .int (nI nt), .ref (g 5), .ref (g 6), .ref (g 11)])), (g 1, .inr (0, [.ref (g 2), .ref (g 3), .int (nI F), .int (nI E)])), (g 4, .inl (cT, 6, .inr (.inr (.inr (.inr (tq ca nt)))))), (g 2, .inl (cI, 13, .inl (fun j => nI (pp j)))), (g 3, .inl (cI, 13, .inl (fun j => nI (hh j)))), (g 5, .inr (2, [.int (nI e1), .long (lN wy1), .long (lN so1), .long (lN ho1)])), (g 6, .inr (3, [.ref (g 7), .ref (g 8), .ref (g 9), .ref (g 10), .int (nI (oV u.2.1)), .int (nI F), .int (nI k)])), (g 7, .inl (cL, 169, .inr (.inl (fun j => lN (xa1 j))))), (g 8, .inl (cL, 169, .inr (.inl (fun j => lN (xb1 j))))), (g 9, .inl (cI, 4, .inl (fun j => nI ((u.1) j)))), (g 10, .inl (cI, 4, .inl (fun j => nI ((u.2.2) j)))), (ca t0, .inr (1, [.int (nI (rm t0)), .int (nI (sd t0)), .int (nI (dr t0)), .int (nI (pe t0)), .int (nI (ce t0))]))]) [0, 1, 2, 3, 4, 5, 7, 8, 9, 10, 11, 6] rfl
    have hD := hD.sub (ws' := [(g 0, .inr (5, [.ref (g 1), .ref (g 4), .int (nI nt), .ref (g 5), .ref (g 6), .ref (g 11)])), (g 1, .inr (0, [.ref (g 2), .ref (g 3), .int (nI F), .int (nI E)])), (g 4, .inl (cT, 6, .inr (.inr (.inr (.inr (tq ca nt)))))), (g 2, .inl (cI, 13, .inl (fun j => nI (pp j)))), (g 3, .inl (cI, 13, .inl (fun j => nI (hh j)))), (g 5, .inr (2, [.int (nI e1), .long (lN wy1), .long (lN so1), .long (lN ho1)])), (g 6, .inr (3, [.ref (g 7), .ref (g 8), .ref (g 9), .ref (g 10), .int (nI (oV u.2.1)), .int (nI F), .int (nI k)])), (g 7, .inl (cL, 169, .inr (.inl (fun j => lN (xa1 j))))), (g 8, .inl (cL, 169, .inr (.inl (fun j => lN (xb1 j))))), (g 9, .inl (cI, 4, .inl (fun j => nI ((u.1) j)))), (g 10, .inl (cI, 4, .inl (fun j => nI ((u.2.2) j)))), (ca t0, .inr (1, [.int (nI (rm t0)), .int (nI (sd t0)), .int (nI (dr t0)), .int (nI (pe t0)), .int (nI (ce t0))]))]) [0, 1, 2, 3, 4, 5, 7, 8, 9, 10, 11, 6] (by decide) rfl
    refine lv_aload_n hx hb d_T_split_74 rfl (lv_at hl 1 rfl) ?_
    refine va_get (D := (dC, dI)) (ci := 5) (v := .ref (g 6)) (C := R_T) (T := F_T) (N := 6) hx hb hts i_T hown hK hP 0 rfl rfl 4 (by decide) (hts _ k_124) (fun _ h9 => h9) rfl d_T_split_75 ?_
    refine va_get (D := (dC, dI)) (ci := 3) (v := .ref (g 10)) (C := R_S) (T := F_S) (N := 7) hx hb hts i_S hown hK hP 6 rfl rfl 3 (by decide) (hts _ k_85) (fun _ h9 => h9) rfl d_T_split_78 ?_
    refine lv_iload_n hx hb d_T_split_81 rfl (lv_at hl 4 rfl) ?_
    refine nx_iald hx hb hK hP 10 0 rfl rfl (k := j) (v := nI ((u.2.2) j)) (by omega) (by decide) rfl d_T_split_82 ?_
    obtain ⟨en1, o1, be1⟩ := u
    have hw : Bs (zA pp hh (rm t0) (sd t0) (dr t0) (pe t0)) (zB pp (rm t0) (sd t0)) k (vs F k) o1 be1 := hw
    obtain ⟨b1, rfl⟩ : ∃ b1, o1 = some b1 := by cases o1 with | none => exact absurd (vs_ex hkk hkF) (hw _) | some b1 => exact ⟨b1, rfl⟩
    exact W.iret hx hb hr (fun t ht hW => ⟨⟨_, (xa1, xb1, (e1, wy1, so1, ho1), some b1, en1, be1), rfl, ⟨hX01, be1, b1, hw, rfl⟩, by rw [ht]; exact hP, hD⟩, hS.F ht⟩) hS.2.2 d_T_split_83
  · exact absurd h1 (by omega)
