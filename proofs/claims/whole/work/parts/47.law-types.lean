theorem va_lts {D : va_G} {cl : List vw_C} {ws : va_W} {H : Heap} (hP : va_P D cl ws H) : ∀ a ∈ ws.map Prod.fst, a < H.size := fun a ha => by
  obtain ⟨x, hx, rfl⟩ := List.mem_map.mp ha
  obtain ⟨k, hk⟩ := List.getElem?_of_mem hx
  exact (hP k x hk).lt
theorem fresh3 {sz a0 a1 a2 uc : Nat} {e0 e1 e2 f0 f1 f2 f3 : va_E} (h : va_D (va_A [(a0, e0), (a1, e1), (a2, e2)] sz) [(a0, f0), (a1, f1), (uc, f2), (a2, f3)]) : sz ≤ uc := by
  rcases h.2 2 _ rfl with ⟨k, e, hk⟩ | hk
  · have h3 : k < 3 := (List.getElem?_eq_some_iff.mp hk).1
    rcases (show k = 0 ∨ k = 1 ∨ k = 2 by omega) with rfl | rfl | rfl
    · cases hk; exact absurd (h.1 0 2 _ _ rfl rfl rfl) (by decide)
    · cases hk; exact absurd (h.1 1 2 _ _ rfl rfl rfl) (by decide)
    · cases hk; exact absurd (h.1 3 2 _ _ rfl rfl rfl) (by decide)
  · exact hk
theorem nn_ex {v : Int32} (h : 0 ≤ v.toInt) : ∃ k : Nat, k < 2 ^ 31 ∧ v = nI k := by
  have := Int32.toInt_lt v
  refine ⟨v.toInt.toNat, by omega, Int32.toInt_inj.mp ?_⟩
  rw [nI_toInt (by omega)]
  omega
theorem in_ex2 {k : Nat} {u v : Int32} (h1 : 1 ≤ k) (h4 : k ≤ 4) (hu : u = nI k) (h : 0 ≤ v.toInt ∧ v.toInt ≤ u.toInt - 1) : ∃ j : Nat, j ≤ k - 1 ∧ v = nI j := by
  rw [hu, nI_toInt (by omega)] at h
  refine ⟨v.toInt.toNat, by omega, Int32.toInt_inj.mp ?_⟩
  rw [nI_toInt (by omega)]
  omega
theorem le_of_I {a b : Nat} {u v : Int32} (ha : a ≤ 12) (hb : b ≤ 12) (hu : u = nI a) (hv : v = nI b) (h : u.toInt ≤ v.toInt) : a ≤ b := by
  rw [hu, hv, nI_toInt (by omega), nI_toInt (by omega)] at h
  omega
set_option maxHeartbeats 4000000 in
set_option maxRecDepth 100000 in
theorem law_type {p : Program} {l : Launch} {e : Env} {s : State} {m : MethodId} {below : List Frame} {meth : Method} {c : Code} {b L : Nat} {xs : Nat → Int32} {dC : Nat → ClassId} {dI : Nat → Nat → Nat} {cI cL cT : ClassId} {sa : Nat → Nat} {g q : Nat → Nat} {o0 : Nat} (hL : L ≤ 3072) (C0 : lw_At p s m meth c b L xs) (hlt : l.stackTraces = false) (hC : CT dC dI cI cL cT sa s) (hTH : TH s) (hNc : va_Nc E_sta E_arg s) {n : Nat} (hn : 6 * n + 6 ≤ L) (kend : ∀ (F nt : Nat) (pp hh rm sd dr pe ce ca : Nat → Nat) (e0 wy so ho bl sf zn ins : Nat) (xa xb en be aa : Nat → Nat) (th : Int32) (ab bw : Int64) (xc xd ef bs ac : Nat → Nat) (ov : Nat → Int64), inv F nt pp hh rm sd dr pe ce xa xb →  ∀ (H : Heap) (locs : List Loc) (ls : Array Slot), va_P (dC, dI) vwCl [(g 0, .inr (5, [.ref (g 1), .ref (g 4), .int (nI nt), .ref (g 5), .ref (g 6), .ref (g 11)])), (g 1, .inr (0, [.ref (g 2), .ref (g 3), .int (nI F), .int (nI (sm pp 1 F))])), (g 2, .inl (cI, 13, .inl (fun j => nI (pp j)))), (g 3, .inl (cI, 13, .inl (fun j => nI (hh j)))), (g 4, .inl (cT, 6, .inr (.inr (.inr (.inr (tq ca nt)))))), (g 5, .inr (2, [.int (nI e0), .long (lN wy), .long (lN so), .long (lN ho)])), (g 6, .inr (3, [.ref (g 7), .ref (g 8), .ref (g 9), .ref (g 10), .int (nI bl), .int (nI sf), .int (nI zn)])), (g 7, .inl (cL, 169, .inr (.inl (fun j => lN (xa j))))), (g 8, .inl (cL, 169, .inr (.inl (fun j => lN (xb j))))), (g 9, .inl (cI, 4, .inl (fun j => nI (en j)))), (g 10, .inl (cI, 4, .inl (fun j => nI (be j)))), (g 11, .inr (4, [.ref (g 12), .int (nI ins)])), (g 12, .inl (cI, 13, .inl (fun j => nI (aa j)))), (o0, .inl (cL, 1, .inr (.inl (ov)))), (q 0, .inr (6, (mF q th F nt ab bw))), (q 1, .inl (cI, 13, .inl (fun j => nI (pp j)))), (q 2, .inl (cI, 13, .inl (fun j => nI (hh j)))), (q 4, .inl (cI, 6, .inl (fun j => nI (rm j)))), (q 5, .inl (cI, 6, .inl (fun j => nI (sd j)))), (q 6, .inl (cI, 6, .inl (fun j => nI (dr j)))), (q 7, .inl (cI, 6, .inl (fun j => nI (pe j)))), (q 8, .inl (cI, 6, .inl (fun j => nI (ce j)))), (q 12, .inl (cL, 169, .inr (.inl (fun j => lN (xc j))))), (q 13, .inl (cL, 169, .inr (.inl (fun j => lN (xd j))))), (q 14, .inl (cI, 4, .inl (fun j => nI (ef j)))), (q 15, .inl (cI, 4, .inl (fun j => nI (bs j)))), (q 16, .inl (cI, 13, .inl (fun j => nI (ac j))))] H → va_D (fun q : Nat => s.heap.size ≤ q) [(g 0, .inr (5, [.ref (g 1), .ref (g 4), .int (nI nt), .ref (g 5), .ref (g 6), .ref (g 11)])), (g 1, .inr (0, [.ref (g 2), .ref (g 3), .int (nI F), .int (nI (sm pp 1 F))])), (g 2, .inl (cI, 13, .inl (fun j => nI (pp j)))), (g 3, .inl (cI, 13, .inl (fun j => nI (hh j)))), (g 4, .inl (cT, 6, .inr (.inr (.inr (.inr (tq ca nt)))))), (g 5, .inr (2, [.int (nI e0), .long (lN wy), .long (lN so), .long (lN ho)])), (g 6, .inr (3, [.ref (g 7), .ref (g 8), .ref (g 9), .ref (g 10), .int (nI bl), .int (nI sf), .int (nI zn)])), (g 7, .inl (cL, 169, .inr (.inl (fun j => lN (xa j))))), (g 8, .inl (cL, 169, .inr (.inl (fun j => lN (xb j))))), (g 9, .inl (cI, 4, .inl (fun j => nI (en j)))), (g 10, .inl (cI, 4, .inl (fun j => nI (be j)))), (g 11, .inr (4, [.ref (g 12), .int (nI ins)])), (g 12, .inl (cI, 13, .inl (fun j => nI (aa j)))), (o0, .inl (cL, 1, .inr (.inl (ov)))), (q 0, .inr (6, (mF q th F nt ab bw))), (q 1, .inl (cI, 13, .inl (fun j => nI (pp j)))), (q 2, .inl (cI, 13, .inl (fun j => nI (hh j)))), (q 4, .inl (cI, 6, .inl (fun j => nI (rm j)))), (q 5, .inl (cI, 6, .inl (fun j => nI (sd j)))), (q 6, .inl (cI, 6, .inl (fun j => nI (dr j)))), (q 7, .inl (cI, 6, .inl (fun j => nI (pe j)))), (q 8, .inl (cI, 6, .inl (fun j => nI (ce j)))), (q 12, .inl (cL, 169, .inr (.inl (fun j => lN (xc j))))), (q 13, .inl (cL, 169, .inr (.inl (fun j => lN (xd j))))), (q 14, .inl (cI, 4, .inl (fun j => nI (ef j)))), (q 15, .inl (cI, 4, .inl (fun j => nI (bs j)))), (q 16, .inl (cI, 13, .inl (fun j => nI (ac j))))] → va_S (fun q : Nat => s.heap.size ≤ q) s.heap H locs → crs (dC, dI) s.heap.size (LA g q o0) ca rm sd dr pe ce nt H → lv_has ls 8 [(0, .ref b), (1, .ref (g 0)), (2, .ref (q 0)), (3, .ref o0), (4, .int (nI (6 * n)))] → W p l e room_1 s m #[Value.ref b] below meth c H locs (40 + n + 1) (1000 + 6 * n + 6) (lw_Z below #[Value.ref b] s) (F0 m 1120 ls [])) : ∀ (F nt : Nat) (pp hh rm sd dr pe ce ca : Nat → Nat) (e0 wy so ho bl sf zn ins : Nat) (xa xb en be aa : Nat → Nat) (th : Int32) (ab bw : Int64) (xc xd ef bs ac : Nat → Nat) (ov : Nat → Int64), inv F nt pp hh rm sd dr pe ce xa xb →  ∀ (H : Heap) (locs : List Loc) (ls : Array Slot), va_P (dC, dI) vwCl [(g 0, .inr (5, [.ref (g 1), .ref (g 4), .int (nI nt), .ref (g 5), .ref (g 6), .ref (g 11)])), (g 1, .inr (0, [.ref (g 2), .ref (g 3), .int (nI F), .int (nI (sm pp 1 F))])), (g 2, .inl (cI, 13, .inl (fun j => nI (pp j)))), (g 3, .inl (cI, 13, .inl (fun j => nI (hh j)))), (g 4, .inl (cT, 6, .inr (.inr (.inr (.inr (tq ca nt)))))), (g 5, .inr (2, [.int (nI e0), .long (lN wy), .long (lN so), .long (lN ho)])), (g 6, .inr (3, [.ref (g 7), .ref (g 8), .ref (g 9), .ref (g 10), .int (nI bl), .int (nI sf), .int (nI zn)])), (g 7, .inl (cL, 169, .inr (.inl (fun j => lN (xa j))))), (g 8, .inl (cL, 169, .inr (.inl (fun j => lN (xb j))))), (g 9, .inl (cI, 4, .inl (fun j => nI (en j)))), (g 10, .inl (cI, 4, .inl (fun j => nI (be j)))), (g 11, .inr (4, [.ref (g 12), .int (nI ins)])), (g 12, .inl (cI, 13, .inl (fun j => nI (aa j)))), (o0, .inl (cL, 1, .inr (.inl (ov)))), (q 0, .inr (6, (mF q th F nt ab bw))), (q 1, .inl (cI, 13, .inl (fun j => nI (pp j)))), (q 2, .inl (cI, 13, .inl (fun j => nI (hh j)))), (q 4, .inl (cI, 6, .inl (fun j => nI (rm j)))), (q 5, .inl (cI, 6, .inl (fun j => nI (sd j)))), (q 6, .inl (cI, 6, .inl (fun j => nI (dr j)))), (q 7, .inl (cI, 6, .inl (fun j => nI (pe j)))), (q 8, .inl (cI, 6, .inl (fun j => nI (ce j)))), (q 12, .inl (cL, 169, .inr (.inl (fun j => lN (xc j))))), (q 13, .inl (cL, 169, .inr (.inl (fun j => lN (xd j))))), (q 14, .inl (cI, 4, .inl (fun j => nI (ef j)))), (q 15, .inl (cI, 4, .inl (fun j => nI (bs j)))), (q 16, .inl (cI, 13, .inl (fun j => nI (ac j))))] H → va_D (fun q : Nat => s.heap.size ≤ q) [(g 0, .inr (5, [.ref (g 1), .ref (g 4), .int (nI nt), .ref (g 5), .ref (g 6), .ref (g 11)])), (g 1, .inr (0, [.ref (g 2), .ref (g 3), .int (nI F), .int (nI (sm pp 1 F))])), (g 2, .inl (cI, 13, .inl (fun j => nI (pp j)))), (g 3, .inl (cI, 13, .inl (fun j => nI (hh j)))), (g 4, .inl (cT, 6, .inr (.inr (.inr (.inr (tq ca nt)))))), (g 5, .inr (2, [.int (nI e0), .long (lN wy), .long (lN so), .long (lN ho)])), (g 6, .inr (3, [.ref (g 7), .ref (g 8), .ref (g 9), .ref (g 10), .int (nI bl), .int (nI sf), .int (nI zn)])), (g 7, .inl (cL, 169, .inr (.inl (fun j => lN (xa j))))), (g 8, .inl (cL, 169, .inr (.inl (fun j => lN (xb j))))), (g 9, .inl (cI, 4, .inl (fun j => nI (en j)))), (g 10, .inl (cI, 4, .inl (fun j => nI (be j)))), (g 11, .inr (4, [.ref (g 12), .int (nI ins)])), (g 12, .inl (cI, 13, .inl (fun j => nI (aa j)))), (o0, .inl (cL, 1, .inr (.inl (ov)))), (q 0, .inr (6, (mF q th F nt ab bw))), (q 1, .inl (cI, 13, .inl (fun j => nI (pp j)))), (q 2, .inl (cI, 13, .inl (fun j => nI (hh j)))), (q 4, .inl (cI, 6, .inl (fun j => nI (rm j)))), (q 5, .inl (cI, 6, .inl (fun j => nI (sd j)))), (q 6, .inl (cI, 6, .inl (fun j => nI (dr j)))), (q 7, .inl (cI, 6, .inl (fun j => nI (pe j)))), (q 8, .inl (cI, 6, .inl (fun j => nI (ce j)))), (q 12, .inl (cL, 169, .inr (.inl (fun j => lN (xc j))))), (q 13, .inl (cL, 169, .inr (.inl (fun j => lN (xd j))))), (q 14, .inl (cI, 4, .inl (fun j => nI (ef j)))), (q 15, .inl (cI, 4, .inl (fun j => nI (bs j)))), (q 16, .inl (cI, 13, .inl (fun j => nI (ac j))))] → va_S (fun q : Nat => s.heap.size ≤ q) s.heap H locs → crs (dC, dI) s.heap.size (LA g q o0) ca rm sd dr pe ce nt H → lv_has ls 8 [(0, .ref b), (1, .ref (g 0)), (2, .ref (q 0)), (3, .ref o0), (4, .int (nI (6 * n)))] → W p l e room_1 s m #[Value.ref b] below meth c H locs (40 + n) (1000 + 6 * n) (lw_Z below #[Value.ref b] s) (F0 m 244 ls []) := by
  obtain ⟨hx, hb, hr, hml, hown, hts0, hX, hbl, hlocks, hgv⟩ := id C0
  have hts := gw_tbl hts0
  have hK := hC.1
  have hbA : ¬ (fun q : Nat => s.heap.size ≤ q) b := Nat.not_le.mpr hbl
  have hA : ∀ q : Nat, s.heap.size ≤ q → (fun q : Nat => s.heap.size ≤ q) q := fun _ h => h
  intro F nt pp hh rm sd dr pe ce ca e0 wy so ho bl sf zn ins xa xb en be aa th ab bw xc xd ef bs ac ov hinv H locs ls hP hD hS hcr hl
  obtain ⟨hF12, hn6, hE, hpz, hhz, hcar, hx0⟩ := id hinv
  have hhl := hh_lim hF12 hhz
  have hce : 40 + n + 1 ≤ room_1.cells := by show _ ≤ 601024; omega
  have hsl : 1000 + 6 * n + 6 ≤ room_1.slots := by show _ ≤ 7293034; omega
  have hce1 := hce
  have hsl1 := hsl
  have hce0 : 40 + n ≤ room_1.cells := by omega
  have hsl0 : 1000 + 6 * n ≤ room_1.slots := by omega
  have hsl5 : 1000 + 6 * n + 5 ≤ room_1.slots := by omega
  have hfr : 100 ≤ room_1.frames := Nat.le_of_ble_eq_true rfl
  have hlo : 1000 ≤ room_1.locals := Nat.le_of_ble_eq_true rfl
  by_cases hb0 : (1 ≤ (xs (6 * n + 1)).toInt ∧ (xs (6 * n + 1)).toInt ≤ 5) ∧ (1 ≤ (xs (6 * n + 2)).toInt ∧ (xs (6 * n + 2)).toInt ≤ 100) ∧ (0 ≤ (xs (6 * n + 3)).toInt ∧ (xs (6 * n + 3)).toInt ≤ 30) ∧ (0 ≤ (xs (6 * n + 4)).toInt ∧ (xs (6 * n + 4)).toInt ≤ 10) ∧ (1 ≤ (xs (6 * n + 5)).toInt ∧ (xs (6 * n + 5)).toInt ≤ 100000)
  · obtain ⟨a0, ha0l, ha0h, ea0⟩ := in_ex (lo := 1) (hi := 5) (by decide) hb0.1
    obtain ⟨a1, ha1l, ha1h, ea1⟩ := in_ex (lo := 1) (hi := 100) (by decide) hb0.2.1
    obtain ⟨a2, ha2l, ha2h, ea2⟩ := in_ex (lo := 0) (hi := 30) (by decide) hb0.2.2.1
    obtain ⟨a3, ha3l, ha3h, ea3⟩ := in_ex (lo := 0) (hi := 10) (by decide) hb0.2.2.2.1
    obtain ⟨a4, ha4l, ha4h, ea4⟩ := in_ex (lo := 1) (hi := 100000) (by decide) hb0.2.2.2.2
    by_cases hb1 : nt = 6
    · refine lv_aload_n hx hb d_L_law_244 rfl (lv_at hl 1 rfl) ?_
      refine lv_aload_n hx hb d_L_law_245 rfl (lv_at hl 0 rfl) ?_
      refine lv_iload hx hb d_L_law_246 (lv_at hl 4 rfl) ?_
      refine lv_iconst (v := nI 1) hx hb d_L_law_248 (by decide) ?_
      refine nx_iadd hx hb d_L_law_249 ?_
      refine va_sld hx hb hX hbl hbA hS (vp_in_nI (by omega) (by omega)) d_L_law_250 ?_
      rw [nI_clamp (by omega), ea0]
      refine lv_aload_n hx hb d_L_law_251 rfl (lv_at hl 0 rfl) ?_
      refine lv_iload hx hb d_L_law_252 (lv_at hl 4 rfl) ?_
      refine lv_iconst (v := nI 2) hx hb d_L_law_254 (by decide) ?_
      refine nx_iadd hx hb d_L_law_255 ?_
      refine va_sld hx hb hX hbl hbA hS (vp_in_nI (by omega) (by omega)) d_L_law_256 ?_
      rw [nI_clamp (by omega), ea1]
      refine lv_aload_n hx hb d_L_law_257 rfl (lv_at hl 0 rfl) ?_
      refine lv_iload hx hb d_L_law_258 (lv_at hl 4 rfl) ?_
      refine lv_iconst (v := nI 3) hx hb d_L_law_260 (by decide) ?_
      refine nx_iadd hx hb d_L_law_261 ?_
      refine va_sld hx hb hX hbl hbA hS (vp_in_nI (by omega) (by omega)) d_L_law_262 ?_
      rw [nI_clamp (by omega), ea2]
      refine lv_aload_n hx hb d_L_law_263 rfl (lv_at hl 0 rfl) ?_
      refine lv_iload hx hb d_L_law_264 (lv_at hl 4 rfl) ?_
      refine lv_iconst (v := nI 4) hx hb d_L_law_266 (by decide) ?_
      refine nx_iadd hx hb d_L_law_267 ?_
      refine va_sld hx hb hX hbl hbA hS (vp_in_nI (by omega) (by omega)) d_L_law_268 ?_
      rw [nI_clamp (by omega), ea3]
      refine lv_aload_n hx hb d_L_law_269 rfl (lv_at hl 0 rfl) ?_
      refine lv_iload hx hb d_L_law_270 (lv_at hl 4 rfl) ?_
      refine lv_iconst (v := nI 5) hx hb d_L_law_272 (by decide) ?_
      refine nx_iadd hx hb d_L_law_273 ?_
      refine va_sld hx hb hX hbl hbA hS (vp_in_nI (by omega) (by omega)) d_L_law_274 ?_
      rw [nI_clamp (by omega), ea4]
      refine lv_aload_n hx hb d_L_law_275 rfl (lv_at hl 3 rfl) ?_
      have hPc := hP.sub (ws' := [(g 0, .inr (5, [.ref (g 1), .ref (g 4), .int (nI nt), .ref (g 5), .ref (g 6), .ref (g 11)])), (g 1, .inr (0, [.ref (g 2), .ref (g 3), .int (nI F), .int (nI (sm pp 1 F))])), (g 4, .inl (cT, 6, .inr (.inr (.inr (.inr (tq ca nt))))))]) [0, 1, 4] rfl
      refine va_calli (vx_runSW (As := [.ref (g 0), .int (nI a0), .int (nI a1), .int (nI a2), .int (nI a3), .int (nI a4), .ref o0]) (rest := []) ⟨hx, hb, hml, hown, hts⟩ (c_L_type_b2 l hlt _ o0 g ca F nt ((sm pp 1 F)) a0 a1 a2 a3 a4 hF12 hn6 ⟨ha0l, ha0h⟩ ⟨ha1l, ha1h⟩ ⟨ha2l, ha2h⟩ ⟨ha3l, ha3h⟩ ⟨ha4l, ha4h⟩ hb1) (vx_cwSW 7 hts (gw_SW k_256 k_254 k_255 k_0) rfl rfl rfl (by decide +kernel) ⟨Nat.le_of_ble_eq_true rfl, Nat.le_of_ble_eq_true rfl⟩) ⟨lb_blind, lb_at hC hPc hTH hNc hS⟩ rfl rfl hl.1 rfl (lv_room (Nat.le_of_ble_eq_true rfl)) d_L_law_276 ⟨hce, hsl⟩) hS (fun q h1 h2 => absurd h1 (Nat.not_lt.mpr h2)) (fun q h => h.elim) (fun r9 u t H1 locs ht hvm hw hB hz1 hk1 hS => ?_)
      subst hw
      have hP := hP.kept (fun k x hx => hk1 x.1 ((hP k x hx).lt) (Nat.not_le.mpr ((hP k x hx).lt)))
      have hcr := crs_keep hcr (fun q h => hk1 q h (Nat.not_le.mpr h))
      generalize H1 = H at hP hS hcr ⊢
      refine lv_istore (lv' := [(5, .int (nI 2)), (0, .ref b), (1, .ref (g 0)), (2, .ref (q 0)), (3, .ref o0), (4, .int (nI (6 * n)))]) hx hb d_L_law_279 hl (by decide) rfl (fun ls hl => ?_)
      refine lv_aload_n hx hb d_L_law_281 rfl (lv_at hl 3 rfl) ?_
      refine lv_aload_n hx hb d_L_law_282 rfl (lv_at hl 1 rfl) ?_
      refine lv_iload hx hb d_L_law_283 (lv_at hl 5 rfl) ?_
      refine lv_iconst (v := nI 1) hx hb d_L_law_285 (by decide) ?_
      refine nx_iadd hx hb d_L_law_286 ?_
      refine va_sld hx hb hX hbl hbA hS (vp_in_nI (by omega) (by omega)) d_L_law_287 ?_
      rw [nI_clamp (by omega), ea0]
      refine lv_aload_n hx hb d_L_law_288 rfl (lv_at hl 1 rfl) ?_
      refine lv_iload hx hb d_L_law_289 (lv_at hl 5 rfl) ?_
      refine lv_iconst (v := nI 2) hx hb d_L_law_291 (by decide) ?_
      refine nx_iadd hx hb d_L_law_292 ?_
      refine va_sld hx hb hX hbl hbA hS (vp_in_nI (by omega) (by omega)) d_L_law_293 ?_
      rw [nI_clamp (by omega), ea1]
      refine lv_aload_n hx hb d_L_law_294 rfl (lv_at hl 1 rfl) ?_
      refine lv_iload hx hb d_L_law_295 (lv_at hl 5 rfl) ?_
      refine lv_iconst (v := nI 3) hx hb d_L_law_297 (by decide) ?_
      refine nx_iadd hx hb d_L_law_298 ?_
      refine va_sld hx hb hX hbl hbA hS (vp_in_nI (by omega) (by omega)) d_L_law_299 ?_
      rw [nI_clamp (by omega), ea2]
      refine lv_aload_n hx hb d_L_law_300 rfl (lv_at hl 1 rfl) ?_
      refine lv_iload hx hb d_L_law_301 (lv_at hl 5 rfl) ?_
      refine lv_iconst (v := nI 4) hx hb d_L_law_303 (by decide) ?_
      refine nx_iadd hx hb d_L_law_304 ?_
      refine va_sld hx hb hX hbl hbA hS (vp_in_nI (by omega) (by omega)) d_L_law_305 ?_
      rw [nI_clamp (by omega), ea3]
      refine lv_aload_n hx hb d_L_law_306 rfl (lv_at hl 1 rfl) ?_
      refine lv_iload hx hb d_L_law_307 (lv_at hl 5 rfl) ?_
      refine lv_iconst (v := nI 5) hx hb d_L_law_309 (by decide) ?_
      refine nx_iadd hx hb d_L_law_310 ?_
      refine va_sld hx hb hX hbl hbA hS (vp_in_nI (by omega) (by omega)) d_L_law_311 ?_
      rw [nI_clamp (by omega), ea4]
      have hPc := hP.sub (ws' := [(q 0, .inr (6, (mF q th F nt ab bw))), (q 4, .inl (cI, 6, .inl (fun j => nI (rm j)))), (q 5, .inl (cI, 6, .inl (fun j => nI (sd j)))), (q 6, .inl (cI, 6, .inl (fun j => nI (dr j)))), (q 7, .inl (cI, 6, .inl (fun j => nI (pe j)))), (q 8, .inl (cI, 6, .inl (fun j => nI (ce j))))]) [14, 17, 18, 19, 20, 21] rfl
      have hDc := hD.sub (ws' := [(q 0, .inr (6, (mF q th F nt ab bw))), (q 4, .inl (cI, 6, .inl (fun j => nI (rm j)))), (q 5, .inl (cI, 6, .inl (fun j => nI (sd j)))), (q 6, .inl (cI, 6, .inl (fun j => nI (dr j)))), (q 7, .inl (cI, 6, .inl (fun j => nI (pe j)))), (q 8, .inl (cI, 6, .inl (fun j => nI (ce j))))]) [14, 17, 18, 19, 20, 21] (by decide) rfl
      have hFc := va_free (wc := [(q 0, .inr (6, (mF q th F nt ab bw))), (q 4, .inl (cI, 6, .inl (fun j => nI (rm j)))), (q 5, .inl (cI, 6, .inl (fun j => nI (sd j)))), (q 6, .inl (cI, 6, .inl (fun j => nI (dr j)))), (q 7, .inl (cI, 6, .inl (fun j => nI (pe j)))), (q 8, .inl (cI, 6, .inl (fun j => nI (ce j))))]) hD hS hA [14, 17, 18, 19, 20, 21] rfl
      refine va_calli (va_runV (As := [.int (nI a0), .int (nI a1), .int (nI a2), .int (nI a3), .int (nI a4)]) (rest := []) ⟨hx, hb, hml, hown, hts⟩ (c_M_type_b2 l _ q th F nt ab bw rm sd dr pe ce a0 a1 a2 a3 a4 ⟨ha0l, ha0h⟩ ⟨ha1l, ha1h⟩ ⟨ha2l, ha2h⟩ ⟨ha3l, ha3h⟩ ⟨ha4l, ha4h⟩ hn6 hb1) (cwV 5 hts (gw_V k_555 k_552 k_553 k_554 k_6) rfl rfl rfl (by decide +kernel) ⟨Nat.le_of_ble_eq_true rfl, Nat.le_of_ble_eq_true rfl⟩) ⟨wr_blind, va_recv hK hP (ci := 6) (q0 := 14) rfl rfl, wr_at hC hPc hDc⟩ rfl rfl hl.1 rfl (lv_room (Nat.le_of_ble_eq_true rfl)) d_L_law_312 ⟨hce1, hsl1⟩) hS (fun q _ h => hFc q h) hFc (fun r9 u t H1 locs ht hvm hw hB hz1 hk1 hS => ?_)
      obtain ⟨hP1, hD1⟩ := hB
      rw [ht] at hP1
      have hcr := crs_call hcr (wc := [(q 0, .inr (6, (mF q th F nt ab bw))), (q 4, .inl (cI, 6, .inl (fun j => nI (rm j)))), (q 5, .inl (cI, 6, .inl (fun j => nI (sd j)))), (q 6, .inl (cI, 6, .inl (fun j => nI (dr j)))), (q 7, .inl (cI, 6, .inl (fun j => nI (pe j)))), (q 8, .inl (cI, 6, .inl (fun j => nI (ce j))))]) [] (fun x hx => by simp only [List.map_cons, List.map_nil, List.mem_cons, List.not_mem_nil, or_false] at hx; rcases hx with rfl | rfl | rfl | rfl | rfl | rfl <;> first | exact Or.inl (by simp [LA])) hk1 (fun t ht => by cases ht)
      obtain ⟨hP, hD⟩ := va_join (wr := [(g 0, .inr (5, [.ref (g 1), .ref (g 4), .int (nI nt), .ref (g 5), .ref (g 6), .ref (g 11)])), (g 1, .inr (0, [.ref (g 2), .ref (g 3), .int (nI F), .int (nI (sm pp 1 F))])), (g 2, .inl (cI, 13, .inl (fun j => nI (pp j)))), (g 3, .inl (cI, 13, .inl (fun j => nI (hh j)))), (g 4, .inl (cT, 6, .inr (.inr (.inr (.inr (tq ca nt)))))), (g 5, .inr (2, [.int (nI e0), .long (lN wy), .long (lN so), .long (lN ho)])), (g 6, .inr (3, [.ref (g 7), .ref (g 8), .ref (g 9), .ref (g 10), .int (nI bl), .int (nI sf), .int (nI zn)])), (g 7, .inl (cL, 169, .inr (.inl (fun j => lN (xa j))))), (g 8, .inl (cL, 169, .inr (.inl (fun j => lN (xb j))))), (g 9, .inl (cI, 4, .inl (fun j => nI (en j)))), (g 10, .inl (cI, 4, .inl (fun j => nI (be j)))), (g 11, .inr (4, [.ref (g 12), .int (nI ins)])), (g 12, .inl (cI, 13, .inl (fun j => nI (aa j)))), (o0, .inl (cL, 1, .inr (.inl (ov)))), (q 1, .inl (cI, 13, .inl (fun j => nI (pp j)))), (q 2, .inl (cI, 13, .inl (fun j => nI (hh j)))), (q 12, .inl (cL, 169, .inr (.inl (fun j => lN (xc j))))), (q 13, .inl (cL, 169, .inr (.inl (fun j => lN (xd j))))), (q 14, .inl (cI, 4, .inl (fun j => nI (ef j)))), (q 15, .inl (cI, 4, .inl (fun j => nI (bs j)))), (q 16, .inl (cI, 13, .inl (fun j => nI (ac j))))]) (w1 := [(q 0, .inr (6, (mF q (nI 2) F nt ab bw))), (q 4, .inl (cI, 6, .inl (fun j => nI (rm j)))), (q 5, .inl (cI, 6, .inl (fun j => nI (sd j)))), (q 6, .inl (cI, 6, .inl (fun j => nI (dr j)))), (q 7, .inl (cI, 6, .inl (fun j => nI (pe j)))), (q 8, .inl (cI, 6, .inl (fun j => nI (ce j))))]) hP hD [14, 17, 18, 19, 20, 21] [0, 1, 2, 3, 4, 5, 6, 7, 8, 9, 10, 11, 12, 13, 15, 16, 22, 23, 24, 25, 26] rfl rfl (by decide) (by decide) hk1 hFc hP1 hD1
      generalize H1 = H at hP hS hcr ⊢
      have hP := hP.sub (ws' := [(g 0, .inr (5, [.ref (g 1), .ref (g 4), .int (nI nt), .ref (g 5), .ref (g 6), .ref (g 11)])), (g 1, .inr (0, [.ref (g 2), .ref (g 3), .int (nI F), .int (nI (sm pp 1 F))])), (g 2, .inl (cI, 13, .inl (fun j => nI (pp j)))), (g 3, .inl (cI, 13, .inl (fun j => nI (hh j)))), (g 4, .inl (cT, 6, .inr (.inr (.inr (.inr (tq ca nt)))))), (g 5, .inr (2, [.int (nI e0), .long (lN wy), .long (lN so), .long (lN ho)])), (g 6, .inr (3, [.ref (g 7), .ref (g 8), .ref (g 9), .ref (g 10), .int (nI bl), .int (nI sf), .int (nI zn)])), (g 7, .inl (cL, 169, .inr (.inl (fun j => lN (xa j))))), (g 8, .inl (cL, 169, .inr (.inl (fun j => lN (xb j))))), (g 9, .inl (cI, 4, .inl (fun j => nI (en j)))), (g 10, .inl (cI, 4, .inl (fun j => nI (be j)))), (g 11, .inr (4, [.ref (g 12), .int (nI ins)])), (g 12, .inl (cI, 13, .inl (fun j => nI (aa j)))), (o0, .inl (cL, 1, .inr (.inl (ov)))), (q 0, .inr (6, (mF q (nI 2) F nt ab bw))), (q 1, .inl (cI, 13, .inl (fun j => nI (pp j)))), (q 2, .inl (cI, 13, .inl (fun j => nI (hh j)))), (q 4, .inl (cI, 6, .inl (fun j => nI (rm j)))), (q 5, .inl (cI, 6, .inl (fun j => nI (sd j)))), (q 6, .inl (cI, 6, .inl (fun j => nI (dr j)))), (q 7, .inl (cI, 6, .inl (fun j => nI (pe j)))), (q 8, .inl (cI, 6, .inl (fun j => nI (ce j)))), (q 12, .inl (cL, 169, .inr (.inl (fun j => lN (xc j))))), (q 13, .inl (cL, 169, .inr (.inl (fun j => lN (xd j))))), (q 14, .inl (cI, 4, .inl (fun j => nI (ef j)))), (q 15, .inl (cI, 4, .inl (fun j => nI (bs j)))), (q 16, .inl (cI, 13, .inl (fun j => nI (ac j))))]) [0, 1, 2, 3, 4, 5, 6, 7, 8, 9, 10, 11, 12, 13, 21, 14, 15, 22, 23, 24, 25, 26, 16, 17, 18, 19, 20] rfl
      have hD := hD.sub (ws' := [(g 0, .inr (5, [.ref (g 1), .ref (g 4), .int (nI nt), .ref (g 5), .ref (g 6), .ref (g 11)])), (g 1, .inr (0, [.ref (g 2), .ref (g 3), .int (nI F), .int (nI (sm pp 1 F))])), (g 2, .inl (cI, 13, .inl (fun j => nI (pp j)))), (g 3, .inl (cI, 13, .inl (fun j => nI (hh j)))), (g 4, .inl (cT, 6, .inr (.inr (.inr (.inr (tq ca nt)))))), (g 5, .inr (2, [.int (nI e0), .long (lN wy), .long (lN so), .long (lN ho)])), (g 6, .inr (3, [.ref (g 7), .ref (g 8), .ref (g 9), .ref (g 10), .int (nI bl), .int (nI sf), .int (nI zn)])), (g 7, .inl (cL, 169, .inr (.inl (fun j => lN (xa j))))), (g 8, .inl (cL, 169, .inr (.inl (fun j => lN (xb j))))), (g 9, .inl (cI, 4, .inl (fun j => nI (en j)))), (g 10, .inl (cI, 4, .inl (fun j => nI (be j)))), (g 11, .inr (4, [.ref (g 12), .int (nI ins)])), (g 12, .inl (cI, 13, .inl (fun j => nI (aa j)))), (o0, .inl (cL, 1, .inr (.inl (ov)))), (q 0, .inr (6, (mF q (nI 2) F nt ab bw))), (q 1, .inl (cI, 13, .inl (fun j => nI (pp j)))), (q 2, .inl (cI, 13, .inl (fun j => nI (hh j)))), (q 4, .inl (cI, 6, .inl (fun j => nI (rm j)))), (q 5, .inl (cI, 6, .inl (fun j => nI (sd j)))), (q 6, .inl (cI, 6, .inl (fun j => nI (dr j)))), (q 7, .inl (cI, 6, .inl (fun j => nI (pe j)))), (q 8, .inl (cI, 6, .inl (fun j => nI (ce j)))), (q 12, .inl (cL, 169, .inr (.inl (fun j => lN (xc j))))), (q 13, .inl (cL, 169, .inr (.inl (fun j => lN (xd j))))), (q 14, .inl (cI, 4, .inl (fun j => nI (ef j)))), (q 15, .inl (cI, 4, .inl (fun j => nI (bs j)))), (q 16, .inl (cI, 13, .inl (fun j => nI (ac j))))]) [0, 1, 2, 3, 4, 5, 6, 7, 8, 9, 10, 11, 12, 13, 21, 14, 15, 22, 23, 24, 25, 26, 16, 17, 18, 19, 20] (by decide) rfl
      subst hw
      refine lv_istore (lv' := [(6, .int (nI 0)), (5, .int (nI 2)), (0, .ref b), (1, .ref (g 0)), (2, .ref (q 0)), (3, .ref o0), (4, .int (nI (6 * n)))]) hx hb d_L_law_315 hl (by decide) rfl (fun ls hl => ?_)
      refine lv_aload_n hx hb d_L_law_317 rfl (lv_at hl 4 rfl) ?_
      refine ro_calli (va_runV (As := []) (rest := []) ⟨hx, hb, hml, hown, hts⟩ (c_M_thrown l q (nI 2) F nt ab bw) (cwV 0 hts (gw_V k_532 k_529 k_530 k_531 k_6) rfl rfl rfl (by decide +kernel) ⟨Nat.le_trans (Nat.le_of_ble_eq_true rfl) hfr, Nat.le_trans (Nat.le_of_ble_eq_true rfl) hlo⟩) ⟨pr_blind, va_recv hK hP (ci := 6) (q0 := 14) rfl rfl, pr_at hC (hP.sub (ws' := [(q 0, .inr (6, (mF q (nI 2) F nt ab bw)))]) [14] rfl)⟩ rfl rfl hl.1 rfl (lv_room (Nat.le_of_ble_eq_true rfl)) d_L_law_318 ⟨hce, hsl⟩) (fun r9 h9 => ?_)
      subst h9
      refine lv_iload hx hb d_L_law_321 (lv_at hl 1 rfl) ?_
      refine nx_icmp_eq (tgt := 328) hx hb d_L_law_323 (by decide) (by omega) (by omega) (fun k1 => ?_) (fun k1 => ?_)
      · refine lv_iload hx hb d_L_law_328 (lv_at hl 1 rfl) ?_
        refine nx_if_ne (tgt := 345) hx hb d_L_law_330 (by decide) (by omega) (fun k2 => ?_) (fun k2 => ?_)
        · refine lv_goto (tgt := 1120) hx hb d_L_law_345 (by decide) ?_
          exact kend F nt pp hh rm sd dr pe ce ca e0 wy so ho bl sf zn ins xa xb en be aa (nI 2) ab bw xc xd ef bs ac ov (hinv) H locs ls hP hD hS hcr (lv_sub hl [2, 3, 4, 5, 6] rfl)
        · exact absurd k2 (by omega)
      · exact absurd rfl k1
    · have hgood : nt < 6 := by omega
      refine lv_aload_n hx hb d_L_law_244 rfl (lv_at hl 1 rfl) ?_
      refine lv_aload_n hx hb d_L_law_245 rfl (lv_at hl 0 rfl) ?_
      refine lv_iload hx hb d_L_law_246 (lv_at hl 4 rfl) ?_
      refine lv_iconst (v := nI 1) hx hb d_L_law_248 (by decide) ?_
      refine nx_iadd hx hb d_L_law_249 ?_
      refine va_sld hx hb hX hbl hbA hS (vp_in_nI (by omega) (by omega)) d_L_law_250 ?_
      rw [nI_clamp (by omega), ea0]
      refine lv_aload_n hx hb d_L_law_251 rfl (lv_at hl 0 rfl) ?_
      refine lv_iload hx hb d_L_law_252 (lv_at hl 4 rfl) ?_
      refine lv_iconst (v := nI 2) hx hb d_L_law_254 (by decide) ?_
      refine nx_iadd hx hb d_L_law_255 ?_
      refine va_sld hx hb hX hbl hbA hS (vp_in_nI (by omega) (by omega)) d_L_law_256 ?_
      rw [nI_clamp (by omega), ea1]
      refine lv_aload_n hx hb d_L_law_257 rfl (lv_at hl 0 rfl) ?_
      refine lv_iload hx hb d_L_law_258 (lv_at hl 4 rfl) ?_
      refine lv_iconst (v := nI 3) hx hb d_L_law_260 (by decide) ?_
      refine nx_iadd hx hb d_L_law_261 ?_
      refine va_sld hx hb hX hbl hbA hS (vp_in_nI (by omega) (by omega)) d_L_law_262 ?_
      rw [nI_clamp (by omega), ea2]
      refine lv_aload_n hx hb d_L_law_263 rfl (lv_at hl 0 rfl) ?_
      refine lv_iload hx hb d_L_law_264 (lv_at hl 4 rfl) ?_
      refine lv_iconst (v := nI 4) hx hb d_L_law_266 (by decide) ?_
      refine nx_iadd hx hb d_L_law_267 ?_
      refine va_sld hx hb hX hbl hbA hS (vp_in_nI (by omega) (by omega)) d_L_law_268 ?_
      rw [nI_clamp (by omega), ea3]
      refine lv_aload_n hx hb d_L_law_269 rfl (lv_at hl 0 rfl) ?_
      refine lv_iload hx hb d_L_law_270 (lv_at hl 4 rfl) ?_
      refine lv_iconst (v := nI 5) hx hb d_L_law_272 (by decide) ?_
      refine nx_iadd hx hb d_L_law_273 ?_
      refine va_sld hx hb hX hbl hbA hS (vp_in_nI (by omega) (by omega)) d_L_law_274 ?_
      rw [nI_clamp (by omega), ea4]
      refine lv_aload_n hx hb d_L_law_275 rfl (lv_at hl 3 rfl) ?_
      have hPc := hP.sub (ws' := [(g 0, .inr (5, [.ref (g 1), .ref (g 4), .int (nI nt), .ref (g 5), .ref (g 6), .ref (g 11)])), (g 4, .inl (cT, 6, .inr (.inr (.inr (.inr (tq ca nt)))))), (o0, .inl (cL, 1, .inr (.inl (ov))))]) [0, 4, 13] rfl
      have hDc := hD.sub (ws' := [(g 0, .inr (5, [.ref (g 1), .ref (g 4), .int (nI nt), .ref (g 5), .ref (g 6), .ref (g 11)])), (g 4, .inl (cT, 6, .inr (.inr (.inr (.inr (tq ca nt)))))), (o0, .inl (cL, 1, .inr (.inl (ov))))]) [0, 4, 13] (by decide) rfl
      have hFc := va_free (wc := [(g 0, .inr (5, [.ref (g 1), .ref (g 4), .int (nI nt), .ref (g 5), .ref (g 6), .ref (g 11)])), (g 4, .inl (cT, 6, .inr (.inr (.inr (.inr (tq ca nt)))))), (o0, .inl (cL, 1, .inr (.inl (ov))))]) hD hS hA [0, 4, 13] rfl
      have hS0 := hS
      refine va_calli (vx_runSW (As := [.ref (g 0), .int (nI a0), .int (nI a1), .int (nI a2), .int (nI a3), .int (nI a4), .ref o0]) (rest := []) ⟨hx, hb, hml, hown, hts⟩ (c_L_type l _ o0 ov g ca nt a0 a1 a2 a3 a4 ⟨ha0l, ha0h⟩ ⟨ha1l, ha1h⟩ ⟨ha2l, ha2h⟩ ⟨ha3l, ha3h⟩ ⟨ha4l, ha4h⟩ hgood) (vx_cwSW 7 hts (gw_SW k_256 k_254 k_255 k_0) rfl rfl rfl (by decide +kernel) ⟨Nat.le_of_ble_eq_true rfl, Nat.le_of_ble_eq_true rfl⟩) ⟨wr_blind, wr_at hC hPc hDc⟩ rfl rfl hl.1 rfl (lv_room (Nat.le_of_ble_eq_true rfl)) d_L_law_276 ⟨hce, hsl5⟩) hS (fun q _ h => hFc q h) hFc (fun r9 u t H1 locs ht hvm hw hB hz1 hk1 hS => ?_)
      obtain ⟨hP1, hD1⟩ := hB
      rw [ht] at hP1
      subst hw
      obtain ⟨uc, rfl⟩ : ∃ z, z = u := ⟨_, rfl⟩
      have hfresh : H.size ≤ uc := fresh3 hD1
      have hlts : ∀ a ∈ LA g q o0, a < H.size := va_lts hP
      have hcs := crs_call hcr (wc := [(g 0, .inr (5, [.ref (g 1), .ref (g 4), .int (nI nt), .ref (g 5), .ref (g 6), .ref (g 11)])), (g 4, .inl (cT, 6, .inr (.inr (.inr (.inr (tq ca nt)))))), (o0, .inl (cL, 1, .inr (.inl (ov))))]) [] (fun x hx => by simp only [List.map_cons, List.map_nil, List.mem_cons, List.not_mem_nil, or_false] at hx; rcases hx with rfl | rfl | rfl <;> first | exact Or.inl (by simp [LA])) hk1 (fun t ht => by cases ht)
      have hcs := crs_push hcs (hP1 2 _ rfl) (Nat.le_trans hS0.1 hfresh) (fun z => absurd (hlts _ z) (Nat.not_lt.mpr hfresh)) (fun k hk z => absurd ((crs_at hcr hk).lt) (Nat.not_lt.mpr (Nat.le_trans hfresh (Nat.le_of_eq z.symm))))
      have hcr := hcs
      obtain ⟨hP, hD⟩ := va_join (wr := [(g 1, .inr (0, [.ref (g 2), .ref (g 3), .int (nI F), .int (nI (sm pp 1 F))])), (g 2, .inl (cI, 13, .inl (fun j => nI (pp j)))), (g 3, .inl (cI, 13, .inl (fun j => nI (hh j)))), (g 5, .inr (2, [.int (nI e0), .long (lN wy), .long (lN so), .long (lN ho)])), (g 6, .inr (3, [.ref (g 7), .ref (g 8), .ref (g 9), .ref (g 10), .int (nI bl), .int (nI sf), .int (nI zn)])), (g 7, .inl (cL, 169, .inr (.inl (fun j => lN (xa j))))), (g 8, .inl (cL, 169, .inr (.inl (fun j => lN (xb j))))), (g 9, .inl (cI, 4, .inl (fun j => nI (en j)))), (g 10, .inl (cI, 4, .inl (fun j => nI (be j)))), (g 11, .inr (4, [.ref (g 12), .int (nI ins)])), (g 12, .inl (cI, 13, .inl (fun j => nI (aa j)))), (q 0, .inr (6, (mF q th F nt ab bw))), (q 1, .inl (cI, 13, .inl (fun j => nI (pp j)))), (q 2, .inl (cI, 13, .inl (fun j => nI (hh j)))), (q 4, .inl (cI, 6, .inl (fun j => nI (rm j)))), (q 5, .inl (cI, 6, .inl (fun j => nI (sd j)))), (q 6, .inl (cI, 6, .inl (fun j => nI (dr j)))), (q 7, .inl (cI, 6, .inl (fun j => nI (pe j)))), (q 8, .inl (cI, 6, .inl (fun j => nI (ce j)))), (q 12, .inl (cL, 169, .inr (.inl (fun j => lN (xc j))))), (q 13, .inl (cL, 169, .inr (.inl (fun j => lN (xd j))))), (q 14, .inl (cI, 4, .inl (fun j => nI (ef j)))), (q 15, .inl (cI, 4, .inl (fun j => nI (bs j)))), (q 16, .inl (cI, 13, .inl (fun j => nI (ac j))))]) (w1 := [(g 0, .inr (5, [.ref (g 1), .ref (g 4), .int (nI (nt + 1)), .ref (g 5), .ref (g 6), .ref (g 11)])), (g 4, .inl (cT, 6, .inr (.inr (.inr (.inr (tq (up ca nt uc) (nt + 1))))))), (uc, .inr (1, [.int (nI a0), .int (nI a1), .int (nI a2), .int (nI a3), .int (nI a4)])), (o0, .inl (cL, 1, .inr (.inl (vp_updL (ov) (0) ((nI nt).toInt64)))))]) hP hD [0, 4, 13] [1, 2, 3, 5, 6, 7, 8, 9, 10, 11, 12, 14, 15, 16, 17, 18, 19, 20, 21, 22, 23, 24, 25, 26] rfl rfl (by decide) (by decide) hk1 hFc hP1 hD1
      generalize H1 = H at hP hS hcr ⊢
      have hP := hP.sub (ws' := [(g 0, .inr (5, [.ref (g 1), .ref (g 4), .int (nI (nt + 1)), .ref (g 5), .ref (g 6), .ref (g 11)])), (g 1, .inr (0, [.ref (g 2), .ref (g 3), .int (nI F), .int (nI (sm pp 1 F))])), (g 2, .inl (cI, 13, .inl (fun j => nI (pp j)))), (g 3, .inl (cI, 13, .inl (fun j => nI (hh j)))), (g 4, .inl (cT, 6, .inr (.inr (.inr (.inr (tq (up ca nt uc) (nt + 1))))))), (g 5, .inr (2, [.int (nI e0), .long (lN wy), .long (lN so), .long (lN ho)])), (g 6, .inr (3, [.ref (g 7), .ref (g 8), .ref (g 9), .ref (g 10), .int (nI bl), .int (nI sf), .int (nI zn)])), (g 7, .inl (cL, 169, .inr (.inl (fun j => lN (xa j))))), (g 8, .inl (cL, 169, .inr (.inl (fun j => lN (xb j))))), (g 9, .inl (cI, 4, .inl (fun j => nI (en j)))), (g 10, .inl (cI, 4, .inl (fun j => nI (be j)))), (g 11, .inr (4, [.ref (g 12), .int (nI ins)])), (g 12, .inl (cI, 13, .inl (fun j => nI (aa j)))), (o0, .inl (cL, 1, .inr (.inl (vp_updL (ov) (0) ((nI nt).toInt64))))), (q 0, .inr (6, (mF q th F nt ab bw))), (q 1, .inl (cI, 13, .inl (fun j => nI (pp j)))), (q 2, .inl (cI, 13, .inl (fun j => nI (hh j)))), (q 4, .inl (cI, 6, .inl (fun j => nI (rm j)))), (q 5, .inl (cI, 6, .inl (fun j => nI (sd j)))), (q 6, .inl (cI, 6, .inl (fun j => nI (dr j)))), (q 7, .inl (cI, 6, .inl (fun j => nI (pe j)))), (q 8, .inl (cI, 6, .inl (fun j => nI (ce j)))), (q 12, .inl (cL, 169, .inr (.inl (fun j => lN (xc j))))), (q 13, .inl (cL, 169, .inr (.inl (fun j => lN (xd j))))), (q 14, .inl (cI, 4, .inl (fun j => nI (ef j)))), (q 15, .inl (cI, 4, .inl (fun j => nI (bs j)))), (q 16, .inl (cI, 13, .inl (fun j => nI (ac j))))]) [24, 0, 1, 2, 25, 3, 4, 5, 6, 7, 8, 9, 10, 27, 11, 12, 13, 14, 15, 16, 17, 18, 19, 20, 21, 22, 23] rfl
      have hD := hD.sub (ws' := [(g 0, .inr (5, [.ref (g 1), .ref (g 4), .int (nI (nt + 1)), .ref (g 5), .ref (g 6), .ref (g 11)])), (g 1, .inr (0, [.ref (g 2), .ref (g 3), .int (nI F), .int (nI (sm pp 1 F))])), (g 2, .inl (cI, 13, .inl (fun j => nI (pp j)))), (g 3, .inl (cI, 13, .inl (fun j => nI (hh j)))), (g 4, .inl (cT, 6, .inr (.inr (.inr (.inr (tq (up ca nt uc) (nt + 1))))))), (g 5, .inr (2, [.int (nI e0), .long (lN wy), .long (lN so), .long (lN ho)])), (g 6, .inr (3, [.ref (g 7), .ref (g 8), .ref (g 9), .ref (g 10), .int (nI bl), .int (nI sf), .int (nI zn)])), (g 7, .inl (cL, 169, .inr (.inl (fun j => lN (xa j))))), (g 8, .inl (cL, 169, .inr (.inl (fun j => lN (xb j))))), (g 9, .inl (cI, 4, .inl (fun j => nI (en j)))), (g 10, .inl (cI, 4, .inl (fun j => nI (be j)))), (g 11, .inr (4, [.ref (g 12), .int (nI ins)])), (g 12, .inl (cI, 13, .inl (fun j => nI (aa j)))), (o0, .inl (cL, 1, .inr (.inl (vp_updL (ov) (0) ((nI nt).toInt64))))), (q 0, .inr (6, (mF q th F nt ab bw))), (q 1, .inl (cI, 13, .inl (fun j => nI (pp j)))), (q 2, .inl (cI, 13, .inl (fun j => nI (hh j)))), (q 4, .inl (cI, 6, .inl (fun j => nI (rm j)))), (q 5, .inl (cI, 6, .inl (fun j => nI (sd j)))), (q 6, .inl (cI, 6, .inl (fun j => nI (dr j)))), (q 7, .inl (cI, 6, .inl (fun j => nI (pe j)))), (q 8, .inl (cI, 6, .inl (fun j => nI (ce j)))), (q 12, .inl (cL, 169, .inr (.inl (fun j => lN (xc j))))), (q 13, .inl (cL, 169, .inr (.inl (fun j => lN (xd j))))), (q 14, .inl (cI, 4, .inl (fun j => nI (ef j)))), (q 15, .inl (cI, 4, .inl (fun j => nI (bs j)))), (q 16, .inl (cI, 13, .inl (fun j => nI (ac j))))]) [24, 0, 1, 2, 25, 3, 4, 5, 6, 7, 8, 9, 10, 27, 11, 12, 13, 14, 15, 16, 17, 18, 19, 20, 21, 22, 23] (by decide) rfl
      refine W.widen (k := 40 + n + 1) (n := 1000 + 6 * n + 6) (by omega) (by omega) ?_
      refine lv_istore (lv' := [(5, .int (nI 0)), (0, .ref b), (1, .ref (g 0)), (2, .ref (q 0)), (3, .ref o0), (4, .int (nI (6 * n)))]) hx hb d_L_law_279 hl (by decide) rfl (fun ls hl => ?_)
      refine lv_aload_n hx hb d_L_law_281 rfl (lv_at hl 3 rfl) ?_
      refine lv_aload_n hx hb d_L_law_282 rfl (lv_at hl 1 rfl) ?_
      refine lv_iload hx hb d_L_law_283 (lv_at hl 5 rfl) ?_
      refine lv_iconst (v := nI 1) hx hb d_L_law_285 (by decide) ?_
      refine nx_iadd hx hb d_L_law_286 ?_
      refine va_sld hx hb hX hbl hbA hS (vp_in_nI (by omega) (by omega)) d_L_law_287 ?_
      rw [nI_clamp (by omega), ea0]
      refine lv_aload_n hx hb d_L_law_288 rfl (lv_at hl 1 rfl) ?_
      refine lv_iload hx hb d_L_law_289 (lv_at hl 5 rfl) ?_
      refine lv_iconst (v := nI 2) hx hb d_L_law_291 (by decide) ?_
      refine nx_iadd hx hb d_L_law_292 ?_
      refine va_sld hx hb hX hbl hbA hS (vp_in_nI (by omega) (by omega)) d_L_law_293 ?_
      rw [nI_clamp (by omega), ea1]
      refine lv_aload_n hx hb d_L_law_294 rfl (lv_at hl 1 rfl) ?_
      refine lv_iload hx hb d_L_law_295 (lv_at hl 5 rfl) ?_
      refine lv_iconst (v := nI 3) hx hb d_L_law_297 (by decide) ?_
      refine nx_iadd hx hb d_L_law_298 ?_
      refine va_sld hx hb hX hbl hbA hS (vp_in_nI (by omega) (by omega)) d_L_law_299 ?_
      rw [nI_clamp (by omega), ea2]
      refine lv_aload_n hx hb d_L_law_300 rfl (lv_at hl 1 rfl) ?_
      refine lv_iload hx hb d_L_law_301 (lv_at hl 5 rfl) ?_
      refine lv_iconst (v := nI 4) hx hb d_L_law_303 (by decide) ?_
      refine nx_iadd hx hb d_L_law_304 ?_
      refine va_sld hx hb hX hbl hbA hS (vp_in_nI (by omega) (by omega)) d_L_law_305 ?_
      rw [nI_clamp (by omega), ea3]
      refine lv_aload_n hx hb d_L_law_306 rfl (lv_at hl 1 rfl) ?_
      refine lv_iload hx hb d_L_law_307 (lv_at hl 5 rfl) ?_
      refine lv_iconst (v := nI 5) hx hb d_L_law_309 (by decide) ?_
      refine nx_iadd hx hb d_L_law_310 ?_
      refine va_sld hx hb hX hbl hbA hS (vp_in_nI (by omega) (by omega)) d_L_law_311 ?_
      rw [nI_clamp (by omega), ea4]
      have hPc := hP.sub (ws' := [(q 0, .inr (6, (mF q th F nt ab bw))), (q 4, .inl (cI, 6, .inl (fun j => nI (rm j)))), (q 5, .inl (cI, 6, .inl (fun j => nI (sd j)))), (q 6, .inl (cI, 6, .inl (fun j => nI (dr j)))), (q 7, .inl (cI, 6, .inl (fun j => nI (pe j)))), (q 8, .inl (cI, 6, .inl (fun j => nI (ce j))))]) [14, 17, 18, 19, 20, 21] rfl
      have hDc := hD.sub (ws' := [(q 0, .inr (6, (mF q th F nt ab bw))), (q 4, .inl (cI, 6, .inl (fun j => nI (rm j)))), (q 5, .inl (cI, 6, .inl (fun j => nI (sd j)))), (q 6, .inl (cI, 6, .inl (fun j => nI (dr j)))), (q 7, .inl (cI, 6, .inl (fun j => nI (pe j)))), (q 8, .inl (cI, 6, .inl (fun j => nI (ce j))))]) [14, 17, 18, 19, 20, 21] (by decide) rfl
      have hFc := va_free (wc := [(q 0, .inr (6, (mF q th F nt ab bw))), (q 4, .inl (cI, 6, .inl (fun j => nI (rm j)))), (q 5, .inl (cI, 6, .inl (fun j => nI (sd j)))), (q 6, .inl (cI, 6, .inl (fun j => nI (dr j)))), (q 7, .inl (cI, 6, .inl (fun j => nI (pe j)))), (q 8, .inl (cI, 6, .inl (fun j => nI (ce j))))]) hD hS hA [14, 17, 18, 19, 20, 21] rfl
      refine va_calli (va_runV (As := [.int (nI a0), .int (nI a1), .int (nI a2), .int (nI a3), .int (nI a4)]) (rest := []) ⟨hx, hb, hml, hown, hts⟩ (c_M_type l _ q th F nt ab bw rm sd dr pe ce a0 a1 a2 a3 a4 ⟨ha0l, ha0h⟩ ⟨ha1l, ha1h⟩ ⟨ha2l, ha2h⟩ ⟨ha3l, ha3h⟩ ⟨ha4l, ha4h⟩ hn6 hgood) (cwV 5 hts (gw_V k_555 k_552 k_553 k_554 k_6) rfl rfl rfl (by decide +kernel) ⟨Nat.le_of_ble_eq_true rfl, Nat.le_of_ble_eq_true rfl⟩) ⟨wr_blind, va_recv hK hP (ci := 6) (q0 := 14) rfl rfl, wr_at hC hPc hDc⟩ rfl rfl hl.1 rfl (lv_room (Nat.le_of_ble_eq_true rfl)) d_L_law_312 ⟨hce1, hsl1⟩) hS (fun q _ h => hFc q h) hFc (fun r9 u t H1 locs ht hvm hw hB hz1 hk1 hS => ?_)
      obtain ⟨hP1, hD1⟩ := hB
      rw [ht] at hP1
      have hcr := crs_call hcr (wc := [(q 0, .inr (6, (mF q th F nt ab bw))), (q 4, .inl (cI, 6, .inl (fun j => nI (rm j)))), (q 5, .inl (cI, 6, .inl (fun j => nI (sd j)))), (q 6, .inl (cI, 6, .inl (fun j => nI (dr j)))), (q 7, .inl (cI, 6, .inl (fun j => nI (pe j)))), (q 8, .inl (cI, 6, .inl (fun j => nI (ce j))))]) [] (fun x hx => by simp only [List.map_cons, List.map_nil, List.mem_cons, List.not_mem_nil, or_false] at hx; rcases hx with rfl | rfl | rfl | rfl | rfl | rfl <;> first | exact Or.inl (by simp [LA])) hk1 (fun t ht => by cases ht)
      obtain ⟨hP, hD⟩ := va_join (wr := [(g 0, .inr (5, [.ref (g 1), .ref (g 4), .int (nI (nt + 1)), .ref (g 5), .ref (g 6), .ref (g 11)])), (g 1, .inr (0, [.ref (g 2), .ref (g 3), .int (nI F), .int (nI (sm pp 1 F))])), (g 2, .inl (cI, 13, .inl (fun j => nI (pp j)))), (g 3, .inl (cI, 13, .inl (fun j => nI (hh j)))), (g 4, .inl (cT, 6, .inr (.inr (.inr (.inr (tq (up ca nt uc) (nt + 1))))))), (g 5, .inr (2, [.int (nI e0), .long (lN wy), .long (lN so), .long (lN ho)])), (g 6, .inr (3, [.ref (g 7), .ref (g 8), .ref (g 9), .ref (g 10), .int (nI bl), .int (nI sf), .int (nI zn)])), (g 7, .inl (cL, 169, .inr (.inl (fun j => lN (xa j))))), (g 8, .inl (cL, 169, .inr (.inl (fun j => lN (xb j))))), (g 9, .inl (cI, 4, .inl (fun j => nI (en j)))), (g 10, .inl (cI, 4, .inl (fun j => nI (be j)))), (g 11, .inr (4, [.ref (g 12), .int (nI ins)])), (g 12, .inl (cI, 13, .inl (fun j => nI (aa j)))), (o0, .inl (cL, 1, .inr (.inl (vp_updL (ov) (0) ((nI nt).toInt64))))), (q 1, .inl (cI, 13, .inl (fun j => nI (pp j)))), (q 2, .inl (cI, 13, .inl (fun j => nI (hh j)))), (q 12, .inl (cL, 169, .inr (.inl (fun j => lN (xc j))))), (q 13, .inl (cL, 169, .inr (.inl (fun j => lN (xd j))))), (q 14, .inl (cI, 4, .inl (fun j => nI (ef j)))), (q 15, .inl (cI, 4, .inl (fun j => nI (bs j)))), (q 16, .inl (cI, 13, .inl (fun j => nI (ac j))))]) (w1 := [(q 0, .inr (6, (mF q (nI 0) F (nt + 1) ab bw))), (q 4, .inl (cI, 6, .inl (fun j => nI ((up rm nt a0) j)))), (q 5, .inl (cI, 6, .inl (fun j => nI ((up sd nt a1) j)))), (q 6, .inl (cI, 6, .inl (fun j => nI ((up dr nt a2) j)))), (q 7, .inl (cI, 6, .inl (fun j => nI ((up pe nt a3) j)))), (q 8, .inl (cI, 6, .inl (fun j => nI ((up ce nt a4) j))))]) hP hD [14, 17, 18, 19, 20, 21] [0, 1, 2, 3, 4, 5, 6, 7, 8, 9, 10, 11, 12, 13, 15, 16, 22, 23, 24, 25, 26] rfl rfl (by decide) (by decide) hk1 hFc hP1 hD1
      generalize H1 = H at hP hS hcr ⊢
      have hP := hP.sub (ws' := [(g 0, .inr (5, [.ref (g 1), .ref (g 4), .int (nI (nt + 1)), .ref (g 5), .ref (g 6), .ref (g 11)])), (g 1, .inr (0, [.ref (g 2), .ref (g 3), .int (nI F), .int (nI (sm pp 1 F))])), (g 2, .inl (cI, 13, .inl (fun j => nI (pp j)))), (g 3, .inl (cI, 13, .inl (fun j => nI (hh j)))), (g 4, .inl (cT, 6, .inr (.inr (.inr (.inr (tq (up ca nt uc) (nt + 1))))))), (g 5, .inr (2, [.int (nI e0), .long (lN wy), .long (lN so), .long (lN ho)])), (g 6, .inr (3, [.ref (g 7), .ref (g 8), .ref (g 9), .ref (g 10), .int (nI bl), .int (nI sf), .int (nI zn)])), (g 7, .inl (cL, 169, .inr (.inl (fun j => lN (xa j))))), (g 8, .inl (cL, 169, .inr (.inl (fun j => lN (xb j))))), (g 9, .inl (cI, 4, .inl (fun j => nI (en j)))), (g 10, .inl (cI, 4, .inl (fun j => nI (be j)))), (g 11, .inr (4, [.ref (g 12), .int (nI ins)])), (g 12, .inl (cI, 13, .inl (fun j => nI (aa j)))), (o0, .inl (cL, 1, .inr (.inl (vp_updL (ov) (0) ((nI nt).toInt64))))), (q 0, .inr (6, (mF q (nI 0) F (nt + 1) ab bw))), (q 1, .inl (cI, 13, .inl (fun j => nI (pp j)))), (q 2, .inl (cI, 13, .inl (fun j => nI (hh j)))), (q 4, .inl (cI, 6, .inl (fun j => nI ((up rm nt a0) j)))), (q 5, .inl (cI, 6, .inl (fun j => nI ((up sd nt a1) j)))), (q 6, .inl (cI, 6, .inl (fun j => nI ((up dr nt a2) j)))), (q 7, .inl (cI, 6, .inl (fun j => nI ((up pe nt a3) j)))), (q 8, .inl (cI, 6, .inl (fun j => nI ((up ce nt a4) j)))), (q 12, .inl (cL, 169, .inr (.inl (fun j => lN (xc j))))), (q 13, .inl (cL, 169, .inr (.inl (fun j => lN (xd j))))), (q 14, .inl (cI, 4, .inl (fun j => nI (ef j)))), (q 15, .inl (cI, 4, .inl (fun j => nI (bs j)))), (q 16, .inl (cI, 13, .inl (fun j => nI (ac j))))]) [0, 1, 2, 3, 4, 5, 6, 7, 8, 9, 10, 11, 12, 13, 21, 14, 15, 22, 23, 24, 25, 26, 16, 17, 18, 19, 20] rfl
      have hD := hD.sub (ws' := [(g 0, .inr (5, [.ref (g 1), .ref (g 4), .int (nI (nt + 1)), .ref (g 5), .ref (g 6), .ref (g 11)])), (g 1, .inr (0, [.ref (g 2), .ref (g 3), .int (nI F), .int (nI (sm pp 1 F))])), (g 2, .inl (cI, 13, .inl (fun j => nI (pp j)))), (g 3, .inl (cI, 13, .inl (fun j => nI (hh j)))), (g 4, .inl (cT, 6, .inr (.inr (.inr (.inr (tq (up ca nt uc) (nt + 1))))))), (g 5, .inr (2, [.int (nI e0), .long (lN wy), .long (lN so), .long (lN ho)])), (g 6, .inr (3, [.ref (g 7), .ref (g 8), .ref (g 9), .ref (g 10), .int (nI bl), .int (nI sf), .int (nI zn)])), (g 7, .inl (cL, 169, .inr (.inl (fun j => lN (xa j))))), (g 8, .inl (cL, 169, .inr (.inl (fun j => lN (xb j))))), (g 9, .inl (cI, 4, .inl (fun j => nI (en j)))), (g 10, .inl (cI, 4, .inl (fun j => nI (be j)))), (g 11, .inr (4, [.ref (g 12), .int (nI ins)])), (g 12, .inl (cI, 13, .inl (fun j => nI (aa j)))), (o0, .inl (cL, 1, .inr (.inl (vp_updL (ov) (0) ((nI nt).toInt64))))), (q 0, .inr (6, (mF q (nI 0) F (nt + 1) ab bw))), (q 1, .inl (cI, 13, .inl (fun j => nI (pp j)))), (q 2, .inl (cI, 13, .inl (fun j => nI (hh j)))), (q 4, .inl (cI, 6, .inl (fun j => nI ((up rm nt a0) j)))), (q 5, .inl (cI, 6, .inl (fun j => nI ((up sd nt a1) j)))), (q 6, .inl (cI, 6, .inl (fun j => nI ((up dr nt a2) j)))), (q 7, .inl (cI, 6, .inl (fun j => nI ((up pe nt a3) j)))), (q 8, .inl (cI, 6, .inl (fun j => nI ((up ce nt a4) j)))), (q 12, .inl (cL, 169, .inr (.inl (fun j => lN (xc j))))), (q 13, .inl (cL, 169, .inr (.inl (fun j => lN (xd j))))), (q 14, .inl (cI, 4, .inl (fun j => nI (ef j)))), (q 15, .inl (cI, 4, .inl (fun j => nI (bs j)))), (q 16, .inl (cI, 13, .inl (fun j => nI (ac j))))]) [0, 1, 2, 3, 4, 5, 6, 7, 8, 9, 10, 11, 12, 13, 21, 14, 15, 22, 23, 24, 25, 26, 16, 17, 18, 19, 20] (by decide) rfl
      subst hw
      refine lv_istore (lv' := [(6, .int (nI nt)), (5, .int (nI 0)), (0, .ref b), (1, .ref (g 0)), (2, .ref (q 0)), (3, .ref o0), (4, .int (nI (6 * n)))]) hx hb d_L_law_315 hl (by decide) rfl (fun ls hl => ?_)
      refine lv_aload_n hx hb d_L_law_317 rfl (lv_at hl 4 rfl) ?_
      refine ro_calli (va_runV (As := []) (rest := []) ⟨hx, hb, hml, hown, hts⟩ (c_M_thrown l q (nI 0) F (nt + 1) ab bw) (cwV 0 hts (gw_V k_532 k_529 k_530 k_531 k_6) rfl rfl rfl (by decide +kernel) ⟨Nat.le_trans (Nat.le_of_ble_eq_true rfl) hfr, Nat.le_trans (Nat.le_of_ble_eq_true rfl) hlo⟩) ⟨pr_blind, va_recv hK hP (ci := 6) (q0 := 14) rfl rfl, pr_at hC (hP.sub (ws' := [(q 0, .inr (6, (mF q (nI 0) F (nt + 1) ab bw)))]) [14] rfl)⟩ rfl rfl hl.1 rfl (lv_room (Nat.le_of_ble_eq_true rfl)) d_L_law_318 ⟨hce, hsl⟩) (fun r9 h9 => ?_)
      subst h9
      refine lv_iload hx hb d_L_law_321 (lv_at hl 1 rfl) ?_
      refine nx_icmp_eq (tgt := 328) hx hb d_L_law_323 (by decide) (by omega) (by omega) (fun k1 => ?_) (fun k1 => ?_)
      · refine lv_iload hx hb d_L_law_328 (lv_at hl 1 rfl) ?_
        refine nx_if_ne (tgt := 345) hx hb d_L_law_330 (by decide) (by omega) (fun k2 => ?_) (fun k2 => ?_)
        · exact absurd k2 (by omega)
        · refine lv_aload_n hx hb d_L_law_333 rfl (lv_at hl 5 rfl) ?_
          refine lv_iconst (v := nI 0) hx hb d_L_law_334 (by decide) ?_
          refine nx_lald hx hb hK hP 13 1 rfl rfl (k := 0) (v := (nI nt).toInt64) (by decide) (by decide) pk_uLs d_L_law_335 ?_
          refine lv_iload hx hb d_L_law_336 (lv_at hl 0 rfl) ?_
          refine lv_i2l (v := (nI nt).toInt64) hx hb d_L_law_338 rfl ?_
          refine nx_lc_eq (tgt := 345) hx hb d_L_law_339 d_L_law_340 (by decide) (fun k3 => ?_) (fun k3 => ?_)
          · refine lv_goto (tgt := 1120) hx hb d_L_law_345 (by decide) ?_
            exact kend F (nt + 1) pp hh (up rm nt a0) (up sd nt a1) (up dr nt a2) (up pe nt a3) (up ce nt a4) (up ca nt uc) e0 wy so ho bl sf zn ins xa xb en be aa (nI 0) ab bw xc xd ef bs ac (vp_updL (ov) (0) ((nI nt).toInt64)) (inv_type hinv hgood ⟨ha0l, ha0h⟩ ⟨ha1l, ha1h⟩ ha2h ha3h ⟨ha4l, ha4h⟩) H locs ls hP hD hS hcr (lv_sub hl [2, 3, 4, 5, 6] rfl)
          · exact absurd (rfl) k3
      · exact absurd rfl k1
  · refine lv_aload_n hx hb d_L_law_244 rfl (lv_at hl 1 rfl) ?_
    refine lv_aload_n hx hb d_L_law_245 rfl (lv_at hl 0 rfl) ?_
    refine lv_iload hx hb d_L_law_246 (lv_at hl 4 rfl) ?_
    refine lv_iconst (v := nI 1) hx hb d_L_law_248 (by decide) ?_
    refine nx_iadd hx hb d_L_law_249 ?_
    refine va_sld hx hb hX hbl hbA hS (vp_in_nI (by omega) (by omega)) d_L_law_250 ?_
    rw [nI_clamp (by omega)]
    refine lv_aload_n hx hb d_L_law_251 rfl (lv_at hl 0 rfl) ?_
    refine lv_iload hx hb d_L_law_252 (lv_at hl 4 rfl) ?_
    refine lv_iconst (v := nI 2) hx hb d_L_law_254 (by decide) ?_
    refine nx_iadd hx hb d_L_law_255 ?_
    refine va_sld hx hb hX hbl hbA hS (vp_in_nI (by omega) (by omega)) d_L_law_256 ?_
    rw [nI_clamp (by omega)]
    refine lv_aload_n hx hb d_L_law_257 rfl (lv_at hl 0 rfl) ?_
    refine lv_iload hx hb d_L_law_258 (lv_at hl 4 rfl) ?_
    refine lv_iconst (v := nI 3) hx hb d_L_law_260 (by decide) ?_
    refine nx_iadd hx hb d_L_law_261 ?_
    refine va_sld hx hb hX hbl hbA hS (vp_in_nI (by omega) (by omega)) d_L_law_262 ?_
    rw [nI_clamp (by omega)]
    refine lv_aload_n hx hb d_L_law_263 rfl (lv_at hl 0 rfl) ?_
    refine lv_iload hx hb d_L_law_264 (lv_at hl 4 rfl) ?_
    refine lv_iconst (v := nI 4) hx hb d_L_law_266 (by decide) ?_
    refine nx_iadd hx hb d_L_law_267 ?_
    refine va_sld hx hb hX hbl hbA hS (vp_in_nI (by omega) (by omega)) d_L_law_268 ?_
    rw [nI_clamp (by omega)]
    refine lv_aload_n hx hb d_L_law_269 rfl (lv_at hl 0 rfl) ?_
    refine lv_iload hx hb d_L_law_270 (lv_at hl 4 rfl) ?_
    refine lv_iconst (v := nI 5) hx hb d_L_law_272 (by decide) ?_
    refine nx_iadd hx hb d_L_law_273 ?_
    refine va_sld hx hb hX hbl hbA hS (vp_in_nI (by omega) (by omega)) d_L_law_274 ?_
    rw [nI_clamp (by omega)]
    refine lv_aload_n hx hb d_L_law_275 rfl (lv_at hl 3 rfl) ?_
    have hPc := hP.sub (ws' := [(g 0, .inr (5, [.ref (g 1), .ref (g 4), .int (nI nt), .ref (g 5), .ref (g 6), .ref (g 11)])), (g 1, .inr (0, [.ref (g 2), .ref (g 3), .int (nI F), .int (nI (sm pp 1 F))])), (g 4, .inl (cT, 6, .inr (.inr (.inr (.inr (tq ca nt))))))]) [0, 1, 4] rfl
    refine va_calli (vx_runSW (As := [.ref (g 0), .int (xs ((6 * n) + 1)), .int (xs ((6 * n) + 2)), .int (xs ((6 * n) + 3)), .int (xs ((6 * n) + 4)), .int (xs ((6 * n) + 5)), .ref o0]) (rest := []) ⟨hx, hb, hml, hown, hts⟩ (c_L_type_b1 l hlt _ o0 g ca F nt ((sm pp 1 F)) (xs (6 * n + 1)) (xs (6 * n + 2)) (xs (6 * n + 3)) (xs (6 * n + 4)) (xs (6 * n + 5)) hF12 hn6 hb0) (vx_cwSW 7 hts (gw_SW k_256 k_254 k_255 k_0) rfl rfl rfl (by decide +kernel) ⟨Nat.le_of_ble_eq_true rfl, Nat.le_of_ble_eq_true rfl⟩) ⟨lb_blind, lb_at hC hPc hTH hNc hS⟩ rfl rfl hl.1 rfl (lv_room (Nat.le_of_ble_eq_true rfl)) d_L_law_276 ⟨hce, hsl⟩) hS (fun q h1 h2 => absurd h1 (Nat.not_lt.mpr h2)) (fun q h => h.elim) (fun r9 u t H1 locs ht hvm hw hB hz1 hk1 hS => ?_)
    subst hw
    have hP := hP.kept (fun k x hx => hk1 x.1 ((hP k x hx).lt) (Nat.not_le.mpr ((hP k x hx).lt)))
    have hcr := crs_keep hcr (fun q h => hk1 q h (Nat.not_le.mpr h))
    generalize H1 = H at hP hS hcr ⊢
    refine lv_istore (lv' := [(5, .int (nI 1)), (0, .ref b), (1, .ref (g 0)), (2, .ref (q 0)), (3, .ref o0), (4, .int (nI (6 * n)))]) hx hb d_L_law_279 hl (by decide) rfl (fun ls hl => ?_)
    refine lv_aload_n hx hb d_L_law_281 rfl (lv_at hl 3 rfl) ?_
    refine lv_aload_n hx hb d_L_law_282 rfl (lv_at hl 1 rfl) ?_
    refine lv_iload hx hb d_L_law_283 (lv_at hl 5 rfl) ?_
    refine lv_iconst (v := nI 1) hx hb d_L_law_285 (by decide) ?_
    refine nx_iadd hx hb d_L_law_286 ?_
    refine va_sld hx hb hX hbl hbA hS (vp_in_nI (by omega) (by omega)) d_L_law_287 ?_
    rw [nI_clamp (by omega)]
    refine lv_aload_n hx hb d_L_law_288 rfl (lv_at hl 1 rfl) ?_
    refine lv_iload hx hb d_L_law_289 (lv_at hl 5 rfl) ?_
    refine lv_iconst (v := nI 2) hx hb d_L_law_291 (by decide) ?_
    refine nx_iadd hx hb d_L_law_292 ?_
    refine va_sld hx hb hX hbl hbA hS (vp_in_nI (by omega) (by omega)) d_L_law_293 ?_
    rw [nI_clamp (by omega)]
    refine lv_aload_n hx hb d_L_law_294 rfl (lv_at hl 1 rfl) ?_
    refine lv_iload hx hb d_L_law_295 (lv_at hl 5 rfl) ?_
    refine lv_iconst (v := nI 3) hx hb d_L_law_297 (by decide) ?_
    refine nx_iadd hx hb d_L_law_298 ?_
    refine va_sld hx hb hX hbl hbA hS (vp_in_nI (by omega) (by omega)) d_L_law_299 ?_
    rw [nI_clamp (by omega)]
    refine lv_aload_n hx hb d_L_law_300 rfl (lv_at hl 1 rfl) ?_
    refine lv_iload hx hb d_L_law_301 (lv_at hl 5 rfl) ?_
    refine lv_iconst (v := nI 4) hx hb d_L_law_303 (by decide) ?_
    refine nx_iadd hx hb d_L_law_304 ?_
    refine va_sld hx hb hX hbl hbA hS (vp_in_nI (by omega) (by omega)) d_L_law_305 ?_
    rw [nI_clamp (by omega)]
    refine lv_aload_n hx hb d_L_law_306 rfl (lv_at hl 1 rfl) ?_
    refine lv_iload hx hb d_L_law_307 (lv_at hl 5 rfl) ?_
    refine lv_iconst (v := nI 5) hx hb d_L_law_309 (by decide) ?_
    refine nx_iadd hx hb d_L_law_310 ?_
    refine va_sld hx hb hX hbl hbA hS (vp_in_nI (by omega) (by omega)) d_L_law_311 ?_
    rw [nI_clamp (by omega)]
    have hPc := hP.sub (ws' := [(q 0, .inr (6, (mF q th F nt ab bw))), (q 4, .inl (cI, 6, .inl (fun j => nI (rm j)))), (q 5, .inl (cI, 6, .inl (fun j => nI (sd j)))), (q 6, .inl (cI, 6, .inl (fun j => nI (dr j)))), (q 7, .inl (cI, 6, .inl (fun j => nI (pe j)))), (q 8, .inl (cI, 6, .inl (fun j => nI (ce j))))]) [14, 17, 18, 19, 20, 21] rfl
    have hDc := hD.sub (ws' := [(q 0, .inr (6, (mF q th F nt ab bw))), (q 4, .inl (cI, 6, .inl (fun j => nI (rm j)))), (q 5, .inl (cI, 6, .inl (fun j => nI (sd j)))), (q 6, .inl (cI, 6, .inl (fun j => nI (dr j)))), (q 7, .inl (cI, 6, .inl (fun j => nI (pe j)))), (q 8, .inl (cI, 6, .inl (fun j => nI (ce j))))]) [14, 17, 18, 19, 20, 21] (by decide) rfl
    have hFc := va_free (wc := [(q 0, .inr (6, (mF q th F nt ab bw))), (q 4, .inl (cI, 6, .inl (fun j => nI (rm j)))), (q 5, .inl (cI, 6, .inl (fun j => nI (sd j)))), (q 6, .inl (cI, 6, .inl (fun j => nI (dr j)))), (q 7, .inl (cI, 6, .inl (fun j => nI (pe j)))), (q 8, .inl (cI, 6, .inl (fun j => nI (ce j))))]) hD hS hA [14, 17, 18, 19, 20, 21] rfl
    refine va_calli (va_runV (As := [.int (xs ((6 * n) + 1)), .int (xs ((6 * n) + 2)), .int (xs ((6 * n) + 3)), .int (xs ((6 * n) + 4)), .int (xs ((6 * n) + 5))]) (rest := []) ⟨hx, hb, hml, hown, hts⟩ (c_M_type_b1 l _ q th F nt ab bw rm sd dr pe ce (xs (6 * n + 1)) (xs (6 * n + 2)) (xs (6 * n + 3)) (xs (6 * n + 4)) (xs (6 * n + 5)) hb0) (cwV 5 hts (gw_V k_555 k_552 k_553 k_554 k_6) rfl rfl rfl (by decide +kernel) ⟨Nat.le_of_ble_eq_true rfl, Nat.le_of_ble_eq_true rfl⟩) ⟨wr_blind, va_recv hK hP (ci := 6) (q0 := 14) rfl rfl, wr_at hC hPc hDc⟩ rfl rfl hl.1 rfl (lv_room (Nat.le_of_ble_eq_true rfl)) d_L_law_312 ⟨hce1, hsl1⟩) hS (fun q _ h => hFc q h) hFc (fun r9 u t H1 locs ht hvm hw hB hz1 hk1 hS => ?_)
    obtain ⟨hP1, hD1⟩ := hB
    rw [ht] at hP1
    have hcr := crs_call hcr (wc := [(q 0, .inr (6, (mF q th F nt ab bw))), (q 4, .inl (cI, 6, .inl (fun j => nI (rm j)))), (q 5, .inl (cI, 6, .inl (fun j => nI (sd j)))), (q 6, .inl (cI, 6, .inl (fun j => nI (dr j)))), (q 7, .inl (cI, 6, .inl (fun j => nI (pe j)))), (q 8, .inl (cI, 6, .inl (fun j => nI (ce j))))]) [] (fun x hx => by simp only [List.map_cons, List.map_nil, List.mem_cons, List.not_mem_nil, or_false] at hx; rcases hx with rfl | rfl | rfl | rfl | rfl | rfl <;> first | exact Or.inl (by simp [LA])) hk1 (fun t ht => by cases ht)
    obtain ⟨hP, hD⟩ := va_join (wr := [(g 0, .inr (5, [.ref (g 1), .ref (g 4), .int (nI nt), .ref (g 5), .ref (g 6), .ref (g 11)])), (g 1, .inr (0, [.ref (g 2), .ref (g 3), .int (nI F), .int (nI (sm pp 1 F))])), (g 2, .inl (cI, 13, .inl (fun j => nI (pp j)))), (g 3, .inl (cI, 13, .inl (fun j => nI (hh j)))), (g 4, .inl (cT, 6, .inr (.inr (.inr (.inr (tq ca nt)))))), (g 5, .inr (2, [.int (nI e0), .long (lN wy), .long (lN so), .long (lN ho)])), (g 6, .inr (3, [.ref (g 7), .ref (g 8), .ref (g 9), .ref (g 10), .int (nI bl), .int (nI sf), .int (nI zn)])), (g 7, .inl (cL, 169, .inr (.inl (fun j => lN (xa j))))), (g 8, .inl (cL, 169, .inr (.inl (fun j => lN (xb j))))), (g 9, .inl (cI, 4, .inl (fun j => nI (en j)))), (g 10, .inl (cI, 4, .inl (fun j => nI (be j)))), (g 11, .inr (4, [.ref (g 12), .int (nI ins)])), (g 12, .inl (cI, 13, .inl (fun j => nI (aa j)))), (o0, .inl (cL, 1, .inr (.inl (ov)))), (q 1, .inl (cI, 13, .inl (fun j => nI (pp j)))), (q 2, .inl (cI, 13, .inl (fun j => nI (hh j)))), (q 12, .inl (cL, 169, .inr (.inl (fun j => lN (xc j))))), (q 13, .inl (cL, 169, .inr (.inl (fun j => lN (xd j))))), (q 14, .inl (cI, 4, .inl (fun j => nI (ef j)))), (q 15, .inl (cI, 4, .inl (fun j => nI (bs j)))), (q 16, .inl (cI, 13, .inl (fun j => nI (ac j))))]) (w1 := [(q 0, .inr (6, (mF q (nI 1) F nt ab bw))), (q 4, .inl (cI, 6, .inl (fun j => nI (rm j)))), (q 5, .inl (cI, 6, .inl (fun j => nI (sd j)))), (q 6, .inl (cI, 6, .inl (fun j => nI (dr j)))), (q 7, .inl (cI, 6, .inl (fun j => nI (pe j)))), (q 8, .inl (cI, 6, .inl (fun j => nI (ce j))))]) hP hD [14, 17, 18, 19, 20, 21] [0, 1, 2, 3, 4, 5, 6, 7, 8, 9, 10, 11, 12, 13, 15, 16, 22, 23, 24, 25, 26] rfl rfl (by decide) (by decide) hk1 hFc hP1 hD1
    generalize H1 = H at hP hS hcr ⊢
    have hP := hP.sub (ws' := [(g 0, .inr (5, [.ref (g 1), .ref (g 4), .int (nI nt), .ref (g 5), .ref (g 6), .ref (g 11)])), (g 1, .inr (0, [.ref (g 2), .ref (g 3), .int (nI F), .int (nI (sm pp 1 F))])), (g 2, .inl (cI, 13, .inl (fun j => nI (pp j)))), (g 3, .inl (cI, 13, .inl (fun j => nI (hh j)))), (g 4, .inl (cT, 6, .inr (.inr (.inr (.inr (tq ca nt)))))), (g 5, .inr (2, [.int (nI e0), .long (lN wy), .long (lN so), .long (lN ho)])), (g 6, .inr (3, [.ref (g 7), .ref (g 8), .ref (g 9), .ref (g 10), .int (nI bl), .int (nI sf), .int (nI zn)])), (g 7, .inl (cL, 169, .inr (.inl (fun j => lN (xa j))))), (g 8, .inl (cL, 169, .inr (.inl (fun j => lN (xb j))))), (g 9, .inl (cI, 4, .inl (fun j => nI (en j)))), (g 10, .inl (cI, 4, .inl (fun j => nI (be j)))), (g 11, .inr (4, [.ref (g 12), .int (nI ins)])), (g 12, .inl (cI, 13, .inl (fun j => nI (aa j)))), (o0, .inl (cL, 1, .inr (.inl (ov)))), (q 0, .inr (6, (mF q (nI 1) F nt ab bw))), (q 1, .inl (cI, 13, .inl (fun j => nI (pp j)))), (q 2, .inl (cI, 13, .inl (fun j => nI (hh j)))), (q 4, .inl (cI, 6, .inl (fun j => nI (rm j)))), (q 5, .inl (cI, 6, .inl (fun j => nI (sd j)))), (q 6, .inl (cI, 6, .inl (fun j => nI (dr j)))), (q 7, .inl (cI, 6, .inl (fun j => nI (pe j)))), (q 8, .inl (cI, 6, .inl (fun j => nI (ce j)))), (q 12, .inl (cL, 169, .inr (.inl (fun j => lN (xc j))))), (q 13, .inl (cL, 169, .inr (.inl (fun j => lN (xd j))))), (q 14, .inl (cI, 4, .inl (fun j => nI (ef j)))), (q 15, .inl (cI, 4, .inl (fun j => nI (bs j)))), (q 16, .inl (cI, 13, .inl (fun j => nI (ac j))))]) [0, 1, 2, 3, 4, 5, 6, 7, 8, 9, 10, 11, 12, 13, 21, 14, 15, 22, 23, 24, 25, 26, 16, 17, 18, 19, 20] rfl
    have hD := hD.sub (ws' := [(g 0, .inr (5, [.ref (g 1), .ref (g 4), .int (nI nt), .ref (g 5), .ref (g 6), .ref (g 11)])), (g 1, .inr (0, [.ref (g 2), .ref (g 3), .int (nI F), .int (nI (sm pp 1 F))])), (g 2, .inl (cI, 13, .inl (fun j => nI (pp j)))), (g 3, .inl (cI, 13, .inl (fun j => nI (hh j)))), (g 4, .inl (cT, 6, .inr (.inr (.inr (.inr (tq ca nt)))))), (g 5, .inr (2, [.int (nI e0), .long (lN wy), .long (lN so), .long (lN ho)])), (g 6, .inr (3, [.ref (g 7), .ref (g 8), .ref (g 9), .ref (g 10), .int (nI bl), .int (nI sf), .int (nI zn)])), (g 7, .inl (cL, 169, .inr (.inl (fun j => lN (xa j))))), (g 8, .inl (cL, 169, .inr (.inl (fun j => lN (xb j))))), (g 9, .inl (cI, 4, .inl (fun j => nI (en j)))), (g 10, .inl (cI, 4, .inl (fun j => nI (be j)))), (g 11, .inr (4, [.ref (g 12), .int (nI ins)])), (g 12, .inl (cI, 13, .inl (fun j => nI (aa j)))), (o0, .inl (cL, 1, .inr (.inl (ov)))), (q 0, .inr (6, (mF q (nI 1) F nt ab bw))), (q 1, .inl (cI, 13, .inl (fun j => nI (pp j)))), (q 2, .inl (cI, 13, .inl (fun j => nI (hh j)))), (q 4, .inl (cI, 6, .inl (fun j => nI (rm j)))), (q 5, .inl (cI, 6, .inl (fun j => nI (sd j)))), (q 6, .inl (cI, 6, .inl (fun j => nI (dr j)))), (q 7, .inl (cI, 6, .inl (fun j => nI (pe j)))), (q 8, .inl (cI, 6, .inl (fun j => nI (ce j)))), (q 12, .inl (cL, 169, .inr (.inl (fun j => lN (xc j))))), (q 13, .inl (cL, 169, .inr (.inl (fun j => lN (xd j))))), (q 14, .inl (cI, 4, .inl (fun j => nI (ef j)))), (q 15, .inl (cI, 4, .inl (fun j => nI (bs j)))), (q 16, .inl (cI, 13, .inl (fun j => nI (ac j))))]) [0, 1, 2, 3, 4, 5, 6, 7, 8, 9, 10, 11, 12, 13, 21, 14, 15, 22, 23, 24, 25, 26, 16, 17, 18, 19, 20] (by decide) rfl
    subst hw
    refine lv_istore (lv' := [(6, .int (nI 0)), (5, .int (nI 1)), (0, .ref b), (1, .ref (g 0)), (2, .ref (q 0)), (3, .ref o0), (4, .int (nI (6 * n)))]) hx hb d_L_law_315 hl (by decide) rfl (fun ls hl => ?_)
    refine lv_aload_n hx hb d_L_law_317 rfl (lv_at hl 4 rfl) ?_
    refine ro_calli (va_runV (As := []) (rest := []) ⟨hx, hb, hml, hown, hts⟩ (c_M_thrown l q (nI 1) F nt ab bw) (cwV 0 hts (gw_V k_532 k_529 k_530 k_531 k_6) rfl rfl rfl (by decide +kernel) ⟨Nat.le_trans (Nat.le_of_ble_eq_true rfl) hfr, Nat.le_trans (Nat.le_of_ble_eq_true rfl) hlo⟩) ⟨pr_blind, va_recv hK hP (ci := 6) (q0 := 14) rfl rfl, pr_at hC (hP.sub (ws' := [(q 0, .inr (6, (mF q (nI 1) F nt ab bw)))]) [14] rfl)⟩ rfl rfl hl.1 rfl (lv_room (Nat.le_of_ble_eq_true rfl)) d_L_law_318 ⟨hce, hsl⟩) (fun r9 h9 => ?_)
    subst h9
    refine lv_iload hx hb d_L_law_321 (lv_at hl 1 rfl) ?_
    refine nx_icmp_eq (tgt := 328) hx hb d_L_law_323 (by decide) (by omega) (by omega) (fun k1 => ?_) (fun k1 => ?_)
    · refine lv_iload hx hb d_L_law_328 (lv_at hl 1 rfl) ?_
      refine nx_if_ne (tgt := 345) hx hb d_L_law_330 (by decide) (by omega) (fun k2 => ?_) (fun k2 => ?_)
      · refine lv_goto (tgt := 1120) hx hb d_L_law_345 (by decide) ?_
        exact kend F nt pp hh rm sd dr pe ce ca e0 wy so ho bl sf zn ins xa xb en be aa (nI 1) ab bw xc xd ef bs ac ov (hinv) H locs ls hP hD hS hcr (lv_sub hl [2, 3, 4, 5, 6] rfl)
      · exact absurd k2 (by omega)
    · exact absurd rfl k1
