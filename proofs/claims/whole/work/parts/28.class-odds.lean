section
variable {p : Program} {l : Launch} {e : Env} {R : Room} {s : State} {m : MethodId} {args : Array Value} {below : List Frame} {meth : Method} {c : Code} {cells slots : Nat} {Q : State → Prop} {A : Nat → Prop}
variable {dC : Nat → ClassId} {dI : Nat → Nat → Nat} {cI cL cT : ClassId} {sa : Nat → Nat}
set_option maxHeartbeats 4000000 in
set_option maxRecDepth 100000 in
theorem l_O_count (hF : CallFix p m c b_O_count 13 s args gw R_O) (hC : CT dC dI cI cL cT sa s) {g : Nat → Nat} {F E : Nat} {pp hh : Nat → Nat} {P fr to n : Nat} (hn : to + 1 = fr + n) (hto : to ≤ 12) (hU2 : sm pp fr n ≤ 200) (hhh : ∀ k, k < n → hh (fr + k) ≤ 1200) (hP1 : 1 ≤ P) (hP5 : P ≤ 5) (hfr : 1 ≤ R.frames) (hlo : 25 ≤ R.locals) (hce : cells ≤ R.cells) (hsl : slots ≤ R.slots) (hA : ∀ q : Nat, s.heap.size ≤ q → A q) (kend : ∀ (H : Heap) (locs : List Loc) (ls : Array Slot), va_P (dC, dI) vwCl [(g 5, .inr (2, [.int (nI 0), .long (lN ((sm pp fr n) ^ P)), .long (lN (sp pp (sm pp fr n) P fr n)), .long (lN (hp pp hh P fr n))])), (g 1, .inr (0, [.ref (g 2), .ref (g 3), .int (nI F), .int (nI E)])), (g 2, .inl (cI, 13, .inl (fun j => nI (pp j)))), (g 3, .inl (cI, 13, .inl (fun j => nI (hh j))))] H → va_D A [(g 5, .inr (2, [.int (nI 0), .long (lN ((sm pp fr n) ^ P)), .long (lN (sp pp (sm pp fr n) P fr n)), .long (lN (hp pp hh P fr n))])), (g 1, .inr (0, [.ref (g 2), .ref (g 3), .int (nI F), .int (nI E)])), (g 2, .inl (cI, 13, .inl (fun j => nI (pp j)))), (g 3, .inl (cI, 13, .inl (fun j => nI (hh j))))] → va_S A s.heap H locs → lv_has ls 13 [(0, .ref (g 5)), (1, .ref (g 1)), (2, .int (nI P)), (3, .int (nI fr)), (4, .int (nI to)), (5, .int (nI (sm pp fr n))), (6, .int (nI (sm pp fr n))), (7, .long (lN ((sm pp fr n) ^ P))), (9, .int (nI (fr + n)))] → W p l e R s m args below meth c H locs cells slots Q (F0 m 160 ls [])) : ∀ j k : Nat, n - k < j → k ≤ n → ∀ (H : Heap) (locs : List Loc) (ls : Array Slot), va_P (dC, dI) vwCl [(g 5, .inr (2, [.int (nI 0), .long (lN ((sm pp fr n) ^ P)), .long (lN (sp pp (sm pp fr n) P fr k)), .long (lN (hp pp hh P fr k))])), (g 1, .inr (0, [.ref (g 2), .ref (g 3), .int (nI F), .int (nI E)])), (g 2, .inl (cI, 13, .inl (fun j => nI (pp j)))), (g 3, .inl (cI, 13, .inl (fun j => nI (hh j))))] H → va_D A [(g 5, .inr (2, [.int (nI 0), .long (lN ((sm pp fr n) ^ P)), .long (lN (sp pp (sm pp fr n) P fr k)), .long (lN (hp pp hh P fr k))])), (g 1, .inr (0, [.ref (g 2), .ref (g 3), .int (nI F), .int (nI E)])), (g 2, .inl (cI, 13, .inl (fun j => nI (pp j)))), (g 3, .inl (cI, 13, .inl (fun j => nI (hh j))))] → va_S A s.heap H locs → lv_has ls 13 [(0, .ref (g 5)), (1, .ref (g 1)), (2, .int (nI P)), (3, .int (nI fr)), (4, .int (nI to)), (5, .int (nI (sm pp fr n))), (6, .int (nI (sm pp fr k))), (7, .long (lN ((sm pp fr k) ^ P))), (9, .int (nI (fr + k)))] → W p l e R s m args below meth c H locs cells slots Q (F0 m 64 ls []) := by
  obtain ⟨hx, hb, hml, hown, hts⟩ := id hF
  have hK := hC.1
  intro j
  induction j with
  | zero => intro k hj; omega
  | succ j ih =>
    intro k hj hk H locs ls hP hD hS hl
    refine lv_iload hx hb d_O_count_64 (lv_at hl 8 rfl) ?_
    refine lv_iload hx hb d_O_count_66 (lv_at hl 4 rfl) ?_
    refine nx_icmp_gt (tgt := 160) hx hb d_O_count_68 (by decide) (by omega) (by omega) (fun h => ?_) (fun h => ?_)
    · have hke : k = n := by omega
      subst hke
      exact kend H locs ls hP hD hS hl
    · have hpk : pp (fr + k) ≤ sm pp fr n := sm_le (by omega)
      have hhk := hhh k (by omega)
      have hsk : sm pp fr k ≤ sm pp fr n := sm_mono hk
      have hsk1 : sm pp fr (k + 1) ≤ sm pp fr n := sm_mono (by omega)
      have hse : sm pp fr (k + 1) = sm pp fr k + pp (fr + k) := rfl
      refine lv_aload_n hx hb d_O_count_71 rfl (lv_at hl 0 rfl) ?_
      refine va_get (D := (dC, dI)) (ci := 2) (v := .int (nI 0)) (C := R_O) (T := F_O) (N := 4) hx hb hts i_O hown hK hP 0 rfl rfl 0 (by decide) (hts _ k_59) (fun _ h9 => h9) rfl d_O_count_72 ?_
      refine nx_if_ne (tgt := 160) hx hb d_O_count_75 (by decide) (by omega) (fun h2 => ?_) (fun h2 => ?_)
      · exact absurd h2 (by omega)
      · refine lv_aload_n hx hb d_O_count_78 rfl (lv_at hl 1 rfl) ?_
        refine va_get (D := (dC, dI)) (ci := 0) (v := .ref (g 2)) (C := R_B) (T := F_B) (N := 4) hx hb hts i_B hown hK hP 1 rfl rfl 0 (by decide) (hts _ k_31) (fun _ h9 => h9) rfl d_O_count_79 ?_
        refine lv_iload hx hb d_O_count_82 (lv_at hl 8 rfl) ?_
        refine nx_iald hx hb hK hP 2 0 rfl rfl (k := fr + k) (v := nI (pp (fr + k))) (by omega) (by decide) rfl d_O_count_84 ?_
        refine lv_istore (lv' := [(10, .int (nI (pp (fr + k)))), (0, .ref (g 5)), (1, .ref (g 1)), (2, .int (nI P)), (3, .int (nI fr)), (4, .int (nI to)), (5, .int (nI (sm pp fr n))), (6, .int (nI (sm pp fr k))), (7, .long (lN ((sm pp fr k) ^ P))), (9, .int (nI (fr + k)))]) hx hb d_O_count_85 hl (by decide) rfl (fun ls hl => ?_)
        refine lv_aload_n hx hb d_O_count_87 rfl (lv_at hl 1 rfl) ?_
        refine lv_dup hx hb d_O_count_88 rfl ?_
        refine va_get (D := (dC, dI)) (ci := 2) (v := .long (lN (sp pp (sm pp fr n) P fr k))) (C := R_O) (T := F_O) (N := 4) hx hb hts i_O hown hK hP 0 rfl rfl 2 (by decide) (hts _ k_62) (fun _ h9 => h9) rfl d_O_count_89 ?_
        refine lv_aload_n hx hb d_O_count_92 rfl (lv_at hl 1 rfl) ?_
        refine va_get (D := (dC, dI)) (ci := 2) (v := .long (lN ((sm pp fr n) ^ P))) (C := R_O) (T := F_O) (N := 4) hx hb hts i_O hown hK hP 0 rfl rfl 1 (by decide) (hts _ k_60) (fun _ h9 => h9) rfl d_O_count_93 ?_
        refine lv_iload hx hb d_O_count_96 (lv_at hl 6 rfl) ?_
        refine lv_iload hx hb d_O_count_98 (lv_at hl 0 rfl) ?_
        refine nx_isub hx hb d_O_count_100 (by omega) ?_
        refine nx_i2l hx hb d_O_count_101 (by omega) ?_
        refine lv_iload_n hx hb d_O_count_102 rfl (lv_at hl 3 rfl) ?_
        refine ro_calll (va_runS (As := [.long (lN ((sm pp fr n) - (pp (fr + k)))), .int (nI P)]) (rest := [.long (lN ((sm pp fr n) ^ P)), .long (lN (sp pp (sm pp fr n) P fr k)), .ref (g 5)]) ⟨hx, hb, hml, hown, hts⟩ (c_O_power l (sm pp fr n - pp (fr + k)) P hP5) (cwS 2 hts (gw_S k_322 k_320 k_321 k_3) rfl rfl rfl (by decide +kernel) ⟨Nat.le_trans (Nat.le_of_ble_eq_true rfl) hfr, Nat.le_trans (Nat.le_of_ble_eq_true rfl) hlo⟩) ⟨pr_blind, pr_at hC (fun k q h => by simp at h)⟩ rfl rfl hl.1 rfl (lv_room (Nat.le_of_ble_eq_true rfl)) d_O_count_103 ⟨hce, hsl⟩) (fun r9 h9 => ?_)
        subst h9
        have hle : (sm pp fr n - pp (fr + k)) ^ P ≤ (sm pp fr n) ^ P := Nat.pow_le_pow_left (Nat.sub_le _ _) _
        refine nx_lsub hx hb d_O_count_106 hle ?_
        refine nx_ladd hx hb d_O_count_107 ?_
        refine va_put (D := (dC, dI)) (ci := 2) (v := .long (lN ((sp pp (sm pp fr n) P fr k) + (((sm pp fr n) ^ P) - ((sm pp fr n - pp (fr + k)) ^ P))))) (ty := (.long)) (C := R_O) (T := F_O) (N := 4) hx hb hts i_O ft_O ft_O_ok n_O hown hK hP hD hS 0 rfl rfl 2 (by decide) (hts _ k_62) (fun _ h9 => h9) rfl (by decide +kernel) rfl rfl (Nat.le_of_ble_eq_true rfl) d_O_count_108 (fun H locs hP hD hS => ?_)
        have hP : va_P (dC, dI) vwCl [(g 5, .inr (2, [.int (nI 0), .long (lN ((sm pp fr n) ^ P)), .long (lN ((sp pp (sm pp fr n) P fr k) + (((sm pp fr n) ^ P) - ((sm pp fr n - pp (fr + k)) ^ P)))), .long (lN (hp pp hh P fr k))])), (g 1, .inr (0, [.ref (g 2), .ref (g 3), .int (nI F), .int (nI E)])), (g 2, .inl (cI, 13, .inl (fun j => nI (pp j)))), (g 3, .inl (cI, 13, .inl (fun j => nI (hh j))))] H := hP
        have hD : va_D A [(g 5, .inr (2, [.int (nI 0), .long (lN ((sm pp fr n) ^ P)), .long (lN ((sp pp (sm pp fr n) P fr k) + (((sm pp fr n) ^ P) - ((sm pp fr n - pp (fr + k)) ^ P)))), .long (lN (hp pp hh P fr k))])), (g 1, .inr (0, [.ref (g 2), .ref (g 3), .int (nI F), .int (nI E)])), (g 2, .inl (cI, 13, .inl (fun j => nI (pp j)))), (g 3, .inl (cI, 13, .inl (fun j => nI (hh j))))] := hD
        refine lv_iload hx hb d_O_count_111 (lv_at hl 7 rfl) ?_
        refine lv_iload hx hb d_O_count_113 (lv_at hl 0 rfl) ?_
        refine nx_iadd hx hb d_O_count_115 ?_
        refine lv_istore (lv' := [(6, .int (nI ((sm pp fr k) + (pp (fr + k))))), (10, .int (nI (pp (fr + k)))), (0, .ref (g 5)), (1, .ref (g 1)), (2, .int (nI P)), (3, .int (nI fr)), (4, .int (nI to)), (5, .int (nI (sm pp fr n))), (7, .long (lN ((sm pp fr k) ^ P))), (9, .int (nI (fr + k)))]) hx hb d_O_count_116 hl (by decide) rfl (fun ls hl => ?_)
        refine lv_iload hx hb d_O_count_118 (lv_at hl 0 rfl) ?_
        refine nx_i2l hx hb d_O_count_120 (by omega) ?_
        refine lv_iload_n hx hb d_O_count_121 rfl (lv_at hl 4 rfl) ?_
        refine ro_calll (va_runS (As := [.long (lN ((sm pp fr k) + (pp (fr + k)))), .int (nI P)]) (rest := []) ⟨hx, hb, hml, hown, hts⟩ (c_O_power l (sm pp fr k + pp (fr + k)) P hP5) (cwS 2 hts (gw_S k_322 k_320 k_321 k_3) rfl rfl rfl (by decide +kernel) ⟨Nat.le_trans (Nat.le_of_ble_eq_true rfl) hfr, Nat.le_trans (Nat.le_of_ble_eq_true rfl) hlo⟩) ⟨pr_blind, pr_at hC (fun k q h => by simp at h)⟩ rfl rfl hl.1 rfl (lv_room (Nat.le_of_ble_eq_true rfl)) d_O_count_122 ⟨hce, hsl⟩) (fun r9 h9 => ?_)
        subst h9
        have hle2 : (sm pp fr k) ^ P ≤ (sm pp fr k + pp (fr + k)) ^ P := Nat.pow_le_pow_left (Nat.le_add_right _ _) _
        refine lv_lstore (lv' := [(11, .long (lN ((sm pp fr k + pp (fr + k)) ^ P))), (6, .int (nI ((sm pp fr k) + (pp (fr + k))))), (10, .int (nI (pp (fr + k)))), (0, .ref (g 5)), (1, .ref (g 1)), (2, .int (nI P)), (3, .int (nI fr)), (4, .int (nI to)), (5, .int (nI (sm pp fr n))), (7, .long (lN ((sm pp fr k) ^ P))), (9, .int (nI (fr + k)))]) hx hb d_O_count_125 hl (by decide) rfl (fun ls hl => ?_)
        refine lv_aload_n hx hb d_O_count_127 rfl (lv_at hl 3 rfl) ?_
        refine lv_dup hx hb d_O_count_128 rfl ?_
        refine va_get (D := (dC, dI)) (ci := 2) (v := .long (lN (hp pp hh P fr k))) (C := R_O) (T := F_O) (N := 4) hx hb hts i_O hown hK hP 0 rfl rfl 3 (by decide) (hts _ k_64) (fun _ h9 => h9) rfl d_O_count_129 ?_
        refine lv_aload_n hx hb d_O_count_132 rfl (lv_at hl 4 rfl) ?_
        refine va_get (D := (dC, dI)) (ci := 0) (v := .ref (g 3)) (C := R_B) (T := F_B) (N := 4) hx hb hts i_B hown hK hP 1 rfl rfl 1 (by decide) (hts _ k_34) (fun _ h9 => h9) rfl d_O_count_133 ?_
        refine lv_iload hx hb d_O_count_136 (lv_at hl 10 rfl) ?_
        refine nx_iald hx hb hK hP 3 0 rfl rfl (k := fr + k) (v := nI (hh (fr + k))) (by omega) (by decide) rfl d_O_count_138 ?_
        refine nx_i2l hx hb d_O_count_139 (by omega) ?_
        refine lv_lload hx hb d_O_count_140 (lv_at hl 0 rfl) ?_
        refine lv_lload hx hb d_O_count_142 (lv_at hl 9 rfl) ?_
        refine nx_lsub hx hb d_O_count_144 hle2 ?_
        refine nx_lmul hx hb d_O_count_145 ?_
        refine nx_ladd hx hb d_O_count_146 ?_
        refine va_put (D := (dC, dI)) (ci := 2) (v := .long (lN ((hp pp hh P fr k) + ((hh (fr + k)) * (((sm pp fr k + pp (fr + k)) ^ P) - ((sm pp fr k) ^ P)))))) (ty := (.long)) (C := R_O) (T := F_O) (N := 4) hx hb hts i_O ft_O ft_O_ok n_O hown hK hP hD hS 0 rfl rfl 3 (by decide) (hts _ k_64) (fun _ h9 => h9) rfl (by decide +kernel) rfl rfl (Nat.le_of_ble_eq_true rfl) d_O_count_147 (fun H locs hP hD hS => ?_)
        have hP : va_P (dC, dI) vwCl [(g 5, .inr (2, [.int (nI 0), .long (lN ((sm pp fr n) ^ P)), .long (lN ((sp pp (sm pp fr n) P fr k) + (((sm pp fr n) ^ P) - ((sm pp fr n - pp (fr + k)) ^ P)))), .long (lN ((hp pp hh P fr k) + ((hh (fr + k)) * (((sm pp fr k + pp (fr + k)) ^ P) - ((sm pp fr k) ^ P)))))])), (g 1, .inr (0, [.ref (g 2), .ref (g 3), .int (nI F), .int (nI E)])), (g 2, .inl (cI, 13, .inl (fun j => nI (pp j)))), (g 3, .inl (cI, 13, .inl (fun j => nI (hh j))))] H := hP
        have hD : va_D A [(g 5, .inr (2, [.int (nI 0), .long (lN ((sm pp fr n) ^ P)), .long (lN ((sp pp (sm pp fr n) P fr k) + (((sm pp fr n) ^ P) - ((sm pp fr n - pp (fr + k)) ^ P)))), .long (lN ((hp pp hh P fr k) + ((hh (fr + k)) * (((sm pp fr k + pp (fr + k)) ^ P) - ((sm pp fr k) ^ P)))))])), (g 1, .inr (0, [.ref (g 2), .ref (g 3), .int (nI F), .int (nI E)])), (g 2, .inl (cI, 13, .inl (fun j => nI (pp j)))), (g 3, .inl (cI, 13, .inl (fun j => nI (hh j))))] := hD
        refine lv_lload hx hb d_O_count_150 (lv_at hl 0 rfl) ?_
        refine lv_lstore (lv' := [(7, .long (lN ((sm pp fr k + pp (fr + k)) ^ P))), (11, .long (lN ((sm pp fr k + pp (fr + k)) ^ P))), (6, .int (nI ((sm pp fr k) + (pp (fr + k))))), (10, .int (nI (pp (fr + k)))), (0, .ref (g 5)), (1, .ref (g 1)), (2, .int (nI P)), (3, .int (nI fr)), (4, .int (nI to)), (5, .int (nI (sm pp fr n))), (9, .int (nI (fr + k)))]) hx hb d_O_count_152 hl (by decide) rfl (fun ls hl => ?_)
        refine nx_inc (lv' := [(9, .int (nI (fr + k + 1))), (7, .long (lN ((sm pp fr k + pp (fr + k)) ^ P))), (11, .long (lN ((sm pp fr k + pp (fr + k)) ^ P))), (6, .int (nI ((sm pp fr k) + (pp (fr + k))))), (10, .int (nI (pp (fr + k)))), (0, .ref (g 5)), (1, .ref (g 1)), (2, .int (nI P)), (3, .int (nI fr)), (4, .int (nI to)), (5, .int (nI (sm pp fr n)))]) hx hb d_O_count_154 hl (k := 10) rfl (by decide) rfl (fun ls hl => ?_)
        refine lv_goto (tgt := 64) hx hb d_O_count_157 (by decide) ?_
        exact ih (k + 1) (by omega) (by omega) H locs ls hP hD hS (lv_sub hl [5, 6, 7, 8, 9, 10, 3, 1, 0] rfl)
end
set_option maxHeartbeats 4000000 in
set_option maxRecDepth 100000 in
theorem c_O_count (l : Launch) {dC : Nat → ClassId} {dI : Nat → Nat → Nat} {cI cL cT : ClassId} {sa : Nat → Nat} (sz : Nat) (g : Nat → Nat) (e0 wy so ho F E : Nat) (pp hh : Nat → Nat) (P fr to n : Nat) (hn : to + 1 = fr + n) (hto : to ≤ 12) (hU2 : sm pp fr n ≤ 200) (hhh : ∀ k, k < n → hh (fr + k) ≤ 1200) (hP1 : 1 ≤ P) (hP5 : P ≤ 5) (hft : fr ≤ to) : Met l y_O_count (Cond.code y_O_count b_O_count 13 none :: gw) ({ frames := 1, cells := 0, slots := 0, locals := 25 } : Room) (wr dC dI cI cL cT sa [.ref (g 5), .ref (g 1), .int (nI P), .int (nI fr), .int (nI to)] [(g 5, .inr (2, [.int (nI e0), .long (lN wy), .long (lN so), .long (lN ho)])), (g 1, .inr (0, [.ref (g 2), .ref (g 3), .int (nI F), .int (nI E)])), (g 2, .inl (cI, 13, .inl (fun j => nI (pp j)))), (g 3, .inl (cI, 13, .inl (fun j => nI (hh j))))] sz) (va_Qv (fun _ : Unit => True) (wB dC dI [(g 5, .inr (2, [.int (nI e0), .long (lN wy), .long (lN so), .long (lN ho)])), (g 1, .inr (0, [.ref (g 2), .ref (g 3), .int (nI F), .int (nI E)])), (g 2, .inl (cI, 13, .inl (fun j => nI (pp j)))), (g 3, .inl (cI, 13, .inl (fun j => nI (hh j))))] [(g 5, .inr (2, [.int (nI (if sm pp fr n = 0 then 1 else 0)), .long (lN (wyf (sm pp fr n) P)), .long (lN (sp pp (sm pp fr n) P fr n)), .long (lN (hp pp hh P fr n))])), (g 1, .inr (0, [.ref (g 2), .ref (g 3), .int (nI F), .int (nI E)])), (g 2, .inl (cI, 13, .inl (fun j => nI (pp j)))), (g 3, .inl (cI, 13, .inl (fun j => nI (hh j))))] sz) (va_A [(g 5, .inr (2, [.int (nI e0), .long (lN wy), .long (lN so), .long (lN ho)])), (g 1, .inr (0, [.ref (g 2), .ref (g 3), .int (nI F), .int (nI E)])), (g 2, .inl (cI, 13, .inl (fun j => nI (pp j)))), (g 3, .inl (cI, 13, .inl (fun j => nI (hh j))))] sz)) 0 0 (va_A [(g 5, .inr (2, [.int (nI e0), .long (lN wy), .long (lN so), .long (lN ho)])), (g 1, .inr (0, [.ref (g 2), .ref (g 3), .int (nI F), .int (nI E)])), (g 2, .inl (cI, 13, .inl (fun j => nI (pp j)))), (g 3, .inl (cI, 13, .inl (fun j => nI (hh j))))] sz) := by
  refine Met.ofW (cc := b_O_count) (maxL := 13) (ret := none) (by decide) rfl ?_
  intro p e s m args below meth c s₁ B hml hv
  obtain ⟨rfl, hsz, hC, hP, hD0⟩ := hv
  have hx := B.exec
  have hb := B.bytes
  have hr := B.returns
  have hts : ∀ w ∈ gw, w.before ([.ref (g 5), .ref (g 1), .int (nI P), .int (nI fr), .int (nI to)] : List Value).toArray s = true := fun w hw => atoms_spec (ws := Cond.code y_O_count b_O_count 13 none :: gw) B.pre w (List.mem_cons_of_mem _ hw)
  have hown : s.vm.findClass R_O = some m.cls := findClass_of_methodNamed B.named
  have hlocks := B.notSynchronized
  have hK := hC.1
  have hfr : 1 ≤ (headSpec (Cond.code y_O_count b_O_count 13 none :: gw) ({ frames := 1, cells := 0, slots := 0, locals := 25 } : Room)).room.frames := Nat.le_refl _
  have hlo : 25 ≤ (headSpec (Cond.code y_O_count b_O_count 13 none :: gw) ({ frames := 1, cells := 0, slots := 0, locals := 25 } : Room)).room.locals := Nat.le_refl _
  have hce : 0 ≤ (headSpec (Cond.code y_O_count b_O_count 13 none :: gw) ({ frames := 1, cells := 0, slots := 0, locals := 25 } : Room)).room.cells := Nat.zero_le _
  have hsl : 0 ≤ (headSpec (Cond.code y_O_count b_O_count 13 none :: gw) ({ frames := 1, cells := 0, slots := 0, locals := 25 } : Room)).room.slots := Nat.zero_le _
  subst hsz
  have hD := hD0.self (sz := s.heap.size)
  unfold wB
  generalize hAe : va_A [(g 5, .inr (2, [.int (nI e0), .long (lN wy), .long (lN so), .long (lN ho)])), (g 1, .inr (0, [.ref (g 2), .ref (g 3), .int (nI F), .int (nI E)])), (g 2, .inl (cI, 13, .inl (fun j => nI (pp j)))), (g 3, .inl (cI, 13, .inl (fun j => nI (hh j))))] s.heap.size = A at hD ⊢
  have hA : ∀ q : Nat, s.heap.size ≤ q → A q := fun q h => by rw [← hAe]; exact Or.inr h
  have hS : va_S A s.heap s.heap [] := va_S.rf
  have hl := lv_entry ([.ref (g 5), .ref (g 1), .int (nI P), .int (nI fr), .int (nI to)]) (n := 13) (Nat.le_of_ble_eq_true rfl)
  rw [lg_entry_eq]
  generalize (lg_sl ([.ref (g 5), .ref (g 1), .int (nI P), .int (nI fr), .int (nI to)]) ++ List.replicate (13 - (lg_sl ([.ref (g 5), .ref (g 1), .int (nI P), .int (nI fr), .int (nI to)])).length) Slot.unset).toArray = ls at hl ⊢
  have hl : lv_has ls 13 [(0, .ref (g 5)), (1, .ref (g 1)), (2, .int (nI P)), (3, .int (nI fr)), (4, .int (nI to))] := hl
  refine lv_aload_n hx hb d_O_count_0 rfl (lv_at hl 1 rfl) ?_
  refine lv_iload_n hx hb d_O_count_1 rfl (lv_at hl 3 rfl) ?_
  refine lv_iload hx hb d_O_count_2 (lv_at hl 4 rfl) ?_
  refine ro_calli (va_runV (As := [.int (nI fr), .int (nI to)]) (rest := []) ⟨hx, hb, hml, hown, hts⟩ (c_B_personsBetween l g F E pp fr to n hn hto) (cwV 2 hts (gw_V k_319 k_316 k_317 k_318 k_2) rfl rfl rfl (by decide +kernel) ⟨Nat.le_trans (Nat.le_of_ble_eq_true rfl) hfr, Nat.le_trans (Nat.le_of_ble_eq_true rfl) hlo⟩) ⟨pr_blind, va_recv hK hP (ci := 0) (q0 := 1) rfl rfl, pr_at hC (hP.sub (ws' := [(g 1, .inr (0, [.ref (g 2), .ref (g 3), .int (nI F), .int (nI E)])), (g 2, .inl (cI, 13, .inl (fun j => nI (pp j))))]) [1, 2] rfl)⟩ rfl rfl hl.1 rfl (lv_room (Nat.le_of_ble_eq_true rfl)) d_O_count_4 ⟨hce, hsl⟩) (fun r9 h9 => ?_)
  subst h9
  refine lv_istore (lv' := [(5, .int (nI (sm pp fr n))), (0, .ref (g 5)), (1, .ref (g 1)), (2, .int (nI P)), (3, .int (nI fr)), (4, .int (nI to))]) hx hb d_O_count_7 hl (by decide) rfl (fun ls hl => ?_)
  refine lv_aload_n hx hb d_O_count_9 rfl (lv_at hl 1 rfl) ?_
  refine lv_iload hx hb d_O_count_10 (lv_at hl 0 rfl) ?_
  refine nx_if_ne (tgt := 19) hx hb d_O_count_12 (by decide) (by omega) (fun h1 => ?_) (fun h1 => ?_)
  · refine lv_iconst (v := nI 0) hx hb d_O_count_19 (by decide) ?_
    refine va_put (D := (dC, dI)) (ci := 2) (v := .int (nI 0)) (ty := (.boolean)) (C := R_O) (T := F_O) (N := 4) hx hb hts i_O ft_O ft_O_ok n_O hown hK hP hD hS 0 rfl rfl 0 (by decide) (hts _ k_59) (fun _ h9 => h9) rfl (by decide +kernel) (by decide) (by decide) (Nat.le_of_ble_eq_true rfl) d_O_count_20 (fun H locs hP hD hS => ?_)
    have hP : va_P (dC, dI) vwCl [(g 5, .inr (2, [.int (nI 0), .long (lN wy), .long (lN so), .long (lN ho)])), (g 1, .inr (0, [.ref (g 2), .ref (g 3), .int (nI F), .int (nI E)])), (g 2, .inl (cI, 13, .inl (fun j => nI (pp j)))), (g 3, .inl (cI, 13, .inl (fun j => nI (hh j))))] H := hP
    have hD : va_D A [(g 5, .inr (2, [.int (nI 0), .long (lN wy), .long (lN so), .long (lN ho)])), (g 1, .inr (0, [.ref (g 2), .ref (g 3), .int (nI F), .int (nI E)])), (g 2, .inl (cI, 13, .inl (fun j => nI (pp j)))), (g 3, .inl (cI, 13, .inl (fun j => nI (hh j))))] := hD
    refine lv_aload_n hx hb d_O_count_23 rfl (lv_at hl 1 rfl) ?_
    refine lv_aload_n hx hb d_O_count_24 rfl (lv_at hl 1 rfl) ?_
    refine va_get (D := (dC, dI)) (ci := 2) (v := .int (nI 0)) (C := R_O) (T := F_O) (N := 4) hx hb hts i_O hown hK hP 0 rfl rfl 0 (by decide) (hts _ k_59) (fun _ h9 => h9) rfl d_O_count_25 ?_
    refine nx_if_eq (tgt := 35) hx hb d_O_count_28 (by decide) (by omega) (fun h2 => ?_) (fun h2 => ?_)
    · refine lv_iload hx hb d_O_count_35 (lv_at hl 0 rfl) ?_
      refine nx_i2l hx hb d_O_count_37 (by omega) ?_
      refine lv_iload_n hx hb d_O_count_38 rfl (lv_at hl 3 rfl) ?_
      refine ro_calll (va_runS (As := [.long (lN (sm pp fr n)), .int (nI P)]) (rest := [.ref (g 5)]) ⟨hx, hb, hml, hown, hts⟩ (c_O_power l (sm pp fr n) P hP5) (cwS 2 hts (gw_S k_322 k_320 k_321 k_3) rfl rfl rfl (by decide +kernel) ⟨Nat.le_trans (Nat.le_of_ble_eq_true rfl) hfr, Nat.le_trans (Nat.le_of_ble_eq_true rfl) hlo⟩) ⟨pr_blind, pr_at hC (fun k q h => by simp at h)⟩ rfl rfl hl.1 rfl (lv_room (Nat.le_of_ble_eq_true rfl)) d_O_count_39 ⟨hce, hsl⟩) (fun r9 h9 => ?_)
      subst h9
      refine va_put (D := (dC, dI)) (ci := 2) (v := .long (lN ((sm pp fr n) ^ P))) (ty := (.long)) (C := R_O) (T := F_O) (N := 4) hx hb hts i_O ft_O ft_O_ok n_O hown hK hP hD hS 0 rfl rfl 1 (by decide) (hts _ k_60) (fun _ h9 => h9) rfl (by decide +kernel) rfl rfl (Nat.le_of_ble_eq_true rfl) d_O_count_42 (fun H locs hP hD hS => ?_)
      have hP : va_P (dC, dI) vwCl [(g 5, .inr (2, [.int (nI 0), .long (lN ((sm pp fr n) ^ P)), .long (lN so), .long (lN ho)])), (g 1, .inr (0, [.ref (g 2), .ref (g 3), .int (nI F), .int (nI E)])), (g 2, .inl (cI, 13, .inl (fun j => nI (pp j)))), (g 3, .inl (cI, 13, .inl (fun j => nI (hh j))))] H := hP
      have hD : va_D A [(g 5, .inr (2, [.int (nI 0), .long (lN ((sm pp fr n) ^ P)), .long (lN so), .long (lN ho)])), (g 1, .inr (0, [.ref (g 2), .ref (g 3), .int (nI F), .int (nI E)])), (g 2, .inl (cI, 13, .inl (fun j => nI (pp j)))), (g 3, .inl (cI, 13, .inl (fun j => nI (hh j))))] := hD
      refine lv_aload_n hx hb d_O_count_45 rfl (lv_at hl 1 rfl) ?_
      refine lv_lconst (v := lN 0) hx hb d_O_count_46 (by decide) ?_
      refine va_put (D := (dC, dI)) (ci := 2) (v := .long (lN 0)) (ty := (.long)) (C := R_O) (T := F_O) (N := 4) hx hb hts i_O ft_O ft_O_ok n_O hown hK hP hD hS 0 rfl rfl 2 (by decide) (hts _ k_62) (fun _ h9 => h9) rfl (by decide +kernel) rfl rfl (Nat.le_of_ble_eq_true rfl) d_O_count_47 (fun H locs hP hD hS => ?_)
      have hP : va_P (dC, dI) vwCl [(g 5, .inr (2, [.int (nI 0), .long (lN ((sm pp fr n) ^ P)), .long (lN 0), .long (lN ho)])), (g 1, .inr (0, [.ref (g 2), .ref (g 3), .int (nI F), .int (nI E)])), (g 2, .inl (cI, 13, .inl (fun j => nI (pp j)))), (g 3, .inl (cI, 13, .inl (fun j => nI (hh j))))] H := hP
      have hD : va_D A [(g 5, .inr (2, [.int (nI 0), .long (lN ((sm pp fr n) ^ P)), .long (lN 0), .long (lN ho)])), (g 1, .inr (0, [.ref (g 2), .ref (g 3), .int (nI F), .int (nI E)])), (g 2, .inl (cI, 13, .inl (fun j => nI (pp j)))), (g 3, .inl (cI, 13, .inl (fun j => nI (hh j))))] := hD
      refine lv_aload_n hx hb d_O_count_50 rfl (lv_at hl 1 rfl) ?_
      refine lv_lconst (v := lN 0) hx hb d_O_count_51 (by decide) ?_
      refine va_put (D := (dC, dI)) (ci := 2) (v := .long (lN 0)) (ty := (.long)) (C := R_O) (T := F_O) (N := 4) hx hb hts i_O ft_O ft_O_ok n_O hown hK hP hD hS 0 rfl rfl 3 (by decide) (hts _ k_64) (fun _ h9 => h9) rfl (by decide +kernel) rfl rfl (Nat.le_of_ble_eq_true rfl) d_O_count_52 (fun H locs hP hD hS => ?_)
      have hP : va_P (dC, dI) vwCl [(g 5, .inr (2, [.int (nI 0), .long (lN ((sm pp fr n) ^ P)), .long (lN 0), .long (lN 0)])), (g 1, .inr (0, [.ref (g 2), .ref (g 3), .int (nI F), .int (nI E)])), (g 2, .inl (cI, 13, .inl (fun j => nI (pp j)))), (g 3, .inl (cI, 13, .inl (fun j => nI (hh j))))] H := hP
      have hD : va_D A [(g 5, .inr (2, [.int (nI 0), .long (lN ((sm pp fr n) ^ P)), .long (lN 0), .long (lN 0)])), (g 1, .inr (0, [.ref (g 2), .ref (g 3), .int (nI F), .int (nI E)])), (g 2, .inl (cI, 13, .inl (fun j => nI (pp j)))), (g 3, .inl (cI, 13, .inl (fun j => nI (hh j))))] := hD
      refine lv_iconst (v := nI 0) hx hb d_O_count_55 (by decide) ?_
      refine lv_istore (lv' := [(6, .int (nI 0)), (5, .int (nI (sm pp fr n))), (0, .ref (g 5)), (1, .ref (g 1)), (2, .int (nI P)), (3, .int (nI fr)), (4, .int (nI to))]) hx hb d_O_count_56 hl (by decide) rfl (fun ls hl => ?_)
      refine lv_lconst (v := lN 0) hx hb d_O_count_58 (by decide) ?_
      refine nx_leq (b := (sm pp fr 0) ^ P) (Nat.zero_pow hP1).symm ?_
      refine lv_lstore (lv' := [(7, .long (lN ((sm pp fr 0) ^ P))), (6, .int (nI 0)), (5, .int (nI (sm pp fr n))), (0, .ref (g 5)), (1, .ref (g 1)), (2, .int (nI P)), (3, .int (nI fr)), (4, .int (nI to))]) hx hb d_O_count_59 hl (by decide) rfl (fun ls hl => ?_)
      refine lv_iload_n hx hb d_O_count_61 rfl (lv_at hl 6 rfl) ?_
      refine lv_istore (lv' := [(9, .int (nI fr)), (7, .long (lN ((sm pp fr 0) ^ P))), (6, .int (nI 0)), (5, .int (nI (sm pp fr n))), (0, .ref (g 5)), (1, .ref (g 1)), (2, .int (nI P)), (3, .int (nI fr)), (4, .int (nI to))]) hx hb d_O_count_62 hl (by decide) rfl (fun ls hl => ?_)
      refine l_O_count ⟨hx, hb, hml, hown, hts⟩ hC hn hto hU2 hhh hP1 hP5 hfr hlo hce hsl hA (fun H locs ls hP hD hS hl => ?_) (n + 1) 0 (by omega) (by omega) H locs ls hP hD hS (lv_sub hl [4, 5, 6, 7, 8, 3, 2, 1, 0] rfl)
      rw [if_neg (by omega), ← wyf_n (by omega)]
      exact W.vret hx hb hr (fun t ht hW => ⟨⟨(), rfl, trivial, by rw [ht]; exact hP, hD⟩, hS.F ht⟩) hS.2.2 d_O_count_160
    · exact absurd h2 (by omega)
  · refine lv_iconst (v := nI 1) hx hb d_O_count_15 (by decide) ?_
    refine lv_goto (tgt := 20) hx hb d_O_count_16 (by decide) ?_
    refine va_put (D := (dC, dI)) (ci := 2) (v := .int (nI 1)) (ty := (.boolean)) (C := R_O) (T := F_O) (N := 4) hx hb hts i_O ft_O ft_O_ok n_O hown hK hP hD hS 0 rfl rfl 0 (by decide) (hts _ k_59) (fun _ h9 => h9) rfl (by decide +kernel) (by decide) (by decide) (Nat.le_of_ble_eq_true rfl) d_O_count_20 (fun H locs hP hD hS => ?_)
    have hP : va_P (dC, dI) vwCl [(g 5, .inr (2, [.int (nI 1), .long (lN wy), .long (lN so), .long (lN ho)])), (g 1, .inr (0, [.ref (g 2), .ref (g 3), .int (nI F), .int (nI E)])), (g 2, .inl (cI, 13, .inl (fun j => nI (pp j)))), (g 3, .inl (cI, 13, .inl (fun j => nI (hh j))))] H := hP
    have hD : va_D A [(g 5, .inr (2, [.int (nI 1), .long (lN wy), .long (lN so), .long (lN ho)])), (g 1, .inr (0, [.ref (g 2), .ref (g 3), .int (nI F), .int (nI E)])), (g 2, .inl (cI, 13, .inl (fun j => nI (pp j)))), (g 3, .inl (cI, 13, .inl (fun j => nI (hh j))))] := hD
    refine lv_aload_n hx hb d_O_count_23 rfl (lv_at hl 1 rfl) ?_
    refine lv_aload_n hx hb d_O_count_24 rfl (lv_at hl 1 rfl) ?_
    refine va_get (D := (dC, dI)) (ci := 2) (v := .int (nI 1)) (C := R_O) (T := F_O) (N := 4) hx hb hts i_O hown hK hP 0 rfl rfl 0 (by decide) (hts _ k_59) (fun _ h9 => h9) rfl d_O_count_25 ?_
    refine nx_if_eq (tgt := 35) hx hb d_O_count_28 (by decide) (by omega) (fun h2 => ?_) (fun h2 => ?_)
    · exact absurd h2 (by omega)
    · refine lv_lconst (v := lN 1) hx hb d_O_count_31 (by decide) ?_
      refine lv_goto (tgt := 42) hx hb d_O_count_32 (by decide) ?_
      refine va_put (D := (dC, dI)) (ci := 2) (v := .long (lN 1)) (ty := (.long)) (C := R_O) (T := F_O) (N := 4) hx hb hts i_O ft_O ft_O_ok n_O hown hK hP hD hS 0 rfl rfl 1 (by decide) (hts _ k_60) (fun _ h9 => h9) rfl (by decide +kernel) rfl rfl (Nat.le_of_ble_eq_true rfl) d_O_count_42 (fun H locs hP hD hS => ?_)
      have hP : va_P (dC, dI) vwCl [(g 5, .inr (2, [.int (nI 1), .long (lN 1), .long (lN so), .long (lN ho)])), (g 1, .inr (0, [.ref (g 2), .ref (g 3), .int (nI F), .int (nI E)])), (g 2, .inl (cI, 13, .inl (fun j => nI (pp j)))), (g 3, .inl (cI, 13, .inl (fun j => nI (hh j))))] H := hP
      have hD : va_D A [(g 5, .inr (2, [.int (nI 1), .long (lN 1), .long (lN so), .long (lN ho)])), (g 1, .inr (0, [.ref (g 2), .ref (g 3), .int (nI F), .int (nI E)])), (g 2, .inl (cI, 13, .inl (fun j => nI (pp j)))), (g 3, .inl (cI, 13, .inl (fun j => nI (hh j))))] := hD
      refine lv_aload_n hx hb d_O_count_45 rfl (lv_at hl 1 rfl) ?_
      refine lv_lconst (v := lN 0) hx hb d_O_count_46 (by decide) ?_
      refine va_put (D := (dC, dI)) (ci := 2) (v := .long (lN 0)) (ty := (.long)) (C := R_O) (T := F_O) (N := 4) hx hb hts i_O ft_O ft_O_ok n_O hown hK hP hD hS 0 rfl rfl 2 (by decide) (hts _ k_62) (fun _ h9 => h9) rfl (by decide +kernel) rfl rfl (Nat.le_of_ble_eq_true rfl) d_O_count_47 (fun H locs hP hD hS => ?_)
      have hP : va_P (dC, dI) vwCl [(g 5, .inr (2, [.int (nI 1), .long (lN 1), .long (lN 0), .long (lN ho)])), (g 1, .inr (0, [.ref (g 2), .ref (g 3), .int (nI F), .int (nI E)])), (g 2, .inl (cI, 13, .inl (fun j => nI (pp j)))), (g 3, .inl (cI, 13, .inl (fun j => nI (hh j))))] H := hP
      have hD : va_D A [(g 5, .inr (2, [.int (nI 1), .long (lN 1), .long (lN 0), .long (lN ho)])), (g 1, .inr (0, [.ref (g 2), .ref (g 3), .int (nI F), .int (nI E)])), (g 2, .inl (cI, 13, .inl (fun j => nI (pp j)))), (g 3, .inl (cI, 13, .inl (fun j => nI (hh j))))] := hD
      refine lv_aload_n hx hb d_O_count_50 rfl (lv_at hl 1 rfl) ?_
      refine lv_lconst (v := lN 0) hx hb d_O_count_51 (by decide) ?_
      refine va_put (D := (dC, dI)) (ci := 2) (v := .long (lN 0)) (ty := (.long)) (C := R_O) (T := F_O) (N := 4) hx hb hts i_O ft_O ft_O_ok n_O hown hK hP hD hS 0 rfl rfl 3 (by decide) (hts _ k_64) (fun _ h9 => h9) rfl (by decide +kernel) rfl rfl (Nat.le_of_ble_eq_true rfl) d_O_count_52 (fun H locs hP hD hS => ?_)
      have hP : va_P (dC, dI) vwCl [(g 5, .inr (2, [.int (nI 1), .long (lN 1), .long (lN 0), .long (lN 0)])), (g 1, .inr (0, [.ref (g 2), .ref (g 3), .int (nI F), .int (nI E)])), (g 2, .inl (cI, 13, .inl (fun j => nI (pp j)))), (g 3, .inl (cI, 13, .inl (fun j => nI (hh j))))] H := hP
      have hD : va_D A [(g 5, .inr (2, [.int (nI 1), .long (lN 1), .long (lN 0), .long (lN 0)])), (g 1, .inr (0, [.ref (g 2), .ref (g 3), .int (nI F), .int (nI E)])), (g 2, .inl (cI, 13, .inl (fun j => nI (pp j)))), (g 3, .inl (cI, 13, .inl (fun j => nI (hh j))))] := hD
      refine lv_iconst (v := nI 0) hx hb d_O_count_55 (by decide) ?_
      refine lv_istore (lv' := [(6, .int (nI 0)), (5, .int (nI (sm pp fr n))), (0, .ref (g 5)), (1, .ref (g 1)), (2, .int (nI P)), (3, .int (nI fr)), (4, .int (nI to))]) hx hb d_O_count_56 hl (by decide) rfl (fun ls hl => ?_)
      refine lv_lconst (v := lN 0) hx hb d_O_count_58 (by decide) ?_
      refine lv_lstore (lv' := [(7, .long (lN 0)), (6, .int (nI 0)), (5, .int (nI (sm pp fr n))), (0, .ref (g 5)), (1, .ref (g 1)), (2, .int (nI P)), (3, .int (nI fr)), (4, .int (nI to))]) hx hb d_O_count_59 hl (by decide) rfl (fun ls hl => ?_)
      refine lv_iload_n hx hb d_O_count_61 rfl (lv_at hl 6 rfl) ?_
      refine lv_istore (lv' := [(9, .int (nI fr)), (7, .long (lN 0)), (6, .int (nI 0)), (5, .int (nI (sm pp fr n))), (0, .ref (g 5)), (1, .ref (g 1)), (2, .int (nI P)), (3, .int (nI fr)), (4, .int (nI to))]) hx hb d_O_count_62 hl (by decide) rfl (fun ls hl => ?_)
      refine lv_iload hx hb d_O_count_64 (lv_at hl 0 rfl) ?_
      refine lv_iload hx hb d_O_count_66 (lv_at hl 8 rfl) ?_
      refine nx_icmp_gt (tgt := 160) hx hb d_O_count_68 (by decide) (by omega) (by omega) (fun h3 => ?_) (fun h3 => ?_)
      · exact absurd h3 (by omega)
      · refine lv_aload_n hx hb d_O_count_71 rfl (lv_at hl 4 rfl) ?_
        refine va_get (D := (dC, dI)) (ci := 2) (v := .int (nI 1)) (C := R_O) (T := F_O) (N := 4) hx hb hts i_O hown hK hP 0 rfl rfl 0 (by decide) (hts _ k_59) (fun _ h9 => h9) rfl d_O_count_72 ?_
        refine nx_if_ne (tgt := 160) hx hb d_O_count_75 (by decide) (by omega) (fun h4 => ?_) (fun h4 => ?_)
        · rw [if_pos h1, ← wyf_0 h1, sp_none h1, hp_none h1]
          exact W.vret hx hb hr (fun t ht hW => ⟨⟨(), rfl, trivial, by rw [ht]; exact hP, hD⟩, hS.F ht⟩) hS.2.2 d_O_count_160
        · exact absurd h4 (by omega)
set_option maxHeartbeats 4000000 in
set_option maxRecDepth 100000 in
theorem c_B_addFloor (l : Launch) {dC : Nat → ClassId} {dI : Nat → Nat → Nat} {cI cL cT : ClassId} {sa : Nat → Nat} (sz : Nat) (g : Nat → Nat) (F E : Nat) (pp hh : Nat → Nat) (a b : Nat) (h12 : F < 12) : Met l y_B_addFloor (Cond.code y_B_addFloor b_B_addFloor 4 (some .int) :: gw) ({ frames := 0, cells := 0, slots := 0, locals := 0 } : Room) (wr dC dI cI cL cT sa [.ref (g 1), .int (nI a), .int (nI b)] [(g 1, .inr (0, [.ref (g 2), .ref (g 3), .int (nI F), .int (nI E)])), (g 2, .inl (cI, 13, .inl (fun j => nI (pp j)))), (g 3, .inl (cI, 13, .inl (fun j => nI (hh j))))] sz) (va_Qi (fun r (_ : Unit) => r = nI (F + 1)) (wB dC dI [(g 1, .inr (0, [.ref (g 2), .ref (g 3), .int (nI F), .int (nI E)])), (g 2, .inl (cI, 13, .inl (fun j => nI (pp j)))), (g 3, .inl (cI, 13, .inl (fun j => nI (hh j))))] [(g 1, .inr (0, [.ref (g 2), .ref (g 3), .int (nI (F + 1)), .int (nI (E + a))])), (g 2, .inl (cI, 13, .inl (fun j => nI ((up pp (F + 1) a) j)))), (g 3, .inl (cI, 13, .inl (fun j => nI ((up hh (F + 1) (hh F + b)) j))))] sz) (va_A [(g 1, .inr (0, [.ref (g 2), .ref (g 3), .int (nI F), .int (nI E)])), (g 2, .inl (cI, 13, .inl (fun j => nI (pp j)))), (g 3, .inl (cI, 13, .inl (fun j => nI (hh j))))] sz)) 0 0 (va_A [(g 1, .inr (0, [.ref (g 2), .ref (g 3), .int (nI F), .int (nI E)])), (g 2, .inl (cI, 13, .inl (fun j => nI (pp j)))), (g 3, .inl (cI, 13, .inl (fun j => nI (hh j))))] sz) := by
  refine Met.ofW (cc := b_B_addFloor) (maxL := 4) (ret := (some .int)) (by decide) rfl ?_
  intro p e s m args below meth c s₁ B hml hv
  obtain ⟨rfl, hsz, hC, hP, hD0⟩ := hv
  have hx := B.exec
  have hb := B.bytes
  have hr := B.returns
  have hts : ∀ w ∈ gw, w.before ([.ref (g 1), .int (nI a), .int (nI b)] : List Value).toArray s = true := fun w hw => atoms_spec (ws := Cond.code y_B_addFloor b_B_addFloor 4 (some .int) :: gw) B.pre w (List.mem_cons_of_mem _ hw)
  have hown : s.vm.findClass R_B = some m.cls := findClass_of_methodNamed B.named
  have hlocks := B.notSynchronized
  have hK := hC.1
  have hfr : 0 ≤ (headSpec (Cond.code y_B_addFloor b_B_addFloor 4 (some .int) :: gw) ({ frames := 0, cells := 0, slots := 0, locals := 0 } : Room)).room.frames := Nat.le_refl _
  have hlo : 0 ≤ (headSpec (Cond.code y_B_addFloor b_B_addFloor 4 (some .int) :: gw) ({ frames := 0, cells := 0, slots := 0, locals := 0 } : Room)).room.locals := Nat.le_refl _
  have hce : 0 ≤ (headSpec (Cond.code y_B_addFloor b_B_addFloor 4 (some .int) :: gw) ({ frames := 0, cells := 0, slots := 0, locals := 0 } : Room)).room.cells := Nat.zero_le _
  have hsl : 0 ≤ (headSpec (Cond.code y_B_addFloor b_B_addFloor 4 (some .int) :: gw) ({ frames := 0, cells := 0, slots := 0, locals := 0 } : Room)).room.slots := Nat.zero_le _
  subst hsz
  have hD := hD0.self (sz := s.heap.size)
  unfold wB
  generalize hAe : va_A [(g 1, .inr (0, [.ref (g 2), .ref (g 3), .int (nI F), .int (nI E)])), (g 2, .inl (cI, 13, .inl (fun j => nI (pp j)))), (g 3, .inl (cI, 13, .inl (fun j => nI (hh j))))] s.heap.size = A at hD ⊢
  have hA : ∀ q : Nat, s.heap.size ≤ q → A q := fun q h => by rw [← hAe]; exact Or.inr h
  have hS : va_S A s.heap s.heap [] := va_S.rf
  have hl := lv_entry ([.ref (g 1), .int (nI a), .int (nI b)]) (n := 4) (Nat.le_of_ble_eq_true rfl)
  rw [lg_entry_eq]
  generalize (lg_sl ([.ref (g 1), .int (nI a), .int (nI b)]) ++ List.replicate (4 - (lg_sl ([.ref (g 1), .int (nI a), .int (nI b)])).length) Slot.unset).toArray = ls at hl ⊢
  have hl : lv_has ls 4 [(0, .ref (g 1)), (1, .int (nI a)), (2, .int (nI b))] := hl
  refine lv_aload_n hx hb d_B_addFloor_0 rfl (lv_at hl 0 rfl) ?_
  refine va_get (D := (dC, dI)) (ci := 0) (v := .int (nI F)) (C := R_B) (T := F_B) (N := 4) hx hb hts i_B hown hK hP 0 rfl rfl 2 (by decide) (hts _ k_35) (fun _ h9 => h9) rfl d_B_addFloor_1 ?_
  refine lv_iconst (v := nI 1) hx hb d_B_addFloor_4 (by decide) ?_
  refine nx_iadd hx hb d_B_addFloor_5 ?_
  refine lv_istore_n (lv' := [(3, .int (nI (F + 1))), (0, .ref (g 1)), (1, .int (nI a)), (2, .int (nI b))]) hx hb d_B_addFloor_6 rfl hl (by decide) rfl (fun ls hl => ?_)
  refine lv_iload_n hx hb d_B_addFloor_7 rfl (lv_at hl 0 rfl) ?_
  refine lv_bipush (v := nI 12) hx hb d_B_addFloor_8 (by decide) ?_
  refine nx_icmp_gt (tgt := 51) hx hb d_B_addFloor_10 (by decide) (by omega) (by omega) (fun h1 => ?_) (fun h1 => ?_)
  · exact absurd h1 (by omega)
  · refine lv_aload_n hx hb d_B_addFloor_13 rfl (lv_at hl 1 rfl) ?_
    refine va_get (D := (dC, dI)) (ci := 0) (v := .ref (g 2)) (C := R_B) (T := F_B) (N := 4) hx hb hts i_B hown hK hP 0 rfl rfl 0 (by decide) (hts _ k_29) (fun _ h9 => h9) rfl d_B_addFloor_14 ?_
    refine lv_iload_n hx hb d_B_addFloor_17 rfl (lv_at hl 0 rfl) ?_
    refine lv_iload_n hx hb d_B_addFloor_18 rfl (lv_at hl 2 rfl) ?_
    refine nx_iast hx hb hK hP hD hS 1 0 rfl rfl (k := F + 1) (x := nI a) (by omega) (by decide) d_B_addFloor_19 (fun H locs hP hD hS => ?_)
    have hP : va_P (dC, dI) vwCl [(g 1, .inr (0, [.ref (g 2), .ref (g 3), .int (nI F), .int (nI E)])), (g 2, .inl (cI, 13, .inl (upd (fun j => nI (pp j)) (F + 1) (nI a)))), (g 3, .inl (cI, 13, .inl (fun j => nI (hh j))))] H := hP
    have hD : va_D A [(g 1, .inr (0, [.ref (g 2), .ref (g 3), .int (nI F), .int (nI E)])), (g 2, .inl (cI, 13, .inl (upd (fun j => nI (pp j)) (F + 1) (nI a)))), (g 3, .inl (cI, 13, .inl (fun j => nI (hh j))))] := hD
    rw [up_eq] at hP hD
    refine lv_aload_n hx hb d_B_addFloor_20 rfl (lv_at hl 1 rfl) ?_
    refine va_get (D := (dC, dI)) (ci := 0) (v := .ref (g 3)) (C := R_B) (T := F_B) (N := 4) hx hb hts i_B hown hK hP 0 rfl rfl 1 (by decide) (hts _ k_33) (fun _ h9 => h9) rfl d_B_addFloor_21 ?_
    refine lv_iload_n hx hb d_B_addFloor_24 rfl (lv_at hl 0 rfl) ?_
    refine lv_aload_n hx hb d_B_addFloor_25 rfl (lv_at hl 1 rfl) ?_
    refine va_get (D := (dC, dI)) (ci := 0) (v := .ref (g 3)) (C := R_B) (T := F_B) (N := 4) hx hb hts i_B hown hK hP 0 rfl rfl 1 (by decide) (hts _ k_33) (fun _ h9 => h9) rfl d_B_addFloor_26 ?_
    refine lv_iload_n hx hb d_B_addFloor_29 rfl (lv_at hl 0 rfl) ?_
    refine lv_iconst (v := nI 1) hx hb d_B_addFloor_30 (by decide) ?_
    refine nx_isub hx hb d_B_addFloor_31 (by omega) ?_
    refine nx_iald hx hb hK hP 2 0 rfl rfl (k := (F + 1) - 1) (v := nI (hh ((F + 1) - 1))) (by omega) (by decide) rfl d_B_addFloor_32 ?_
    refine lv_iload_n hx hb d_B_addFloor_33 rfl (lv_at hl 3 rfl) ?_
    refine nx_iadd hx hb d_B_addFloor_34 ?_
    refine nx_iast hx hb hK hP hD hS 2 0 rfl rfl (k := F + 1) (x := nI ((hh ((F + 1) - 1)) + b)) (by omega) (by decide) d_B_addFloor_35 (fun H locs hP hD hS => ?_)
    have hP : va_P (dC, dI) vwCl [(g 1, .inr (0, [.ref (g 2), .ref (g 3), .int (nI F), .int (nI E)])), (g 2, .inl (cI, 13, .inl (fun j => nI ((up pp (F + 1) a) j)))), (g 3, .inl (cI, 13, .inl (upd (fun j => nI (hh j)) (F + 1) (nI ((hh ((F + 1) - 1)) + b)))))] H := hP
    have hD : va_D A [(g 1, .inr (0, [.ref (g 2), .ref (g 3), .int (nI F), .int (nI E)])), (g 2, .inl (cI, 13, .inl (fun j => nI ((up pp (F + 1) a) j)))), (g 3, .inl (cI, 13, .inl (upd (fun j => nI (hh j)) (F + 1) (nI ((hh ((F + 1) - 1)) + b)))))] := hD
    rw [up_eq] at hP hD
    refine lv_aload_n hx hb d_B_addFloor_36 rfl (lv_at hl 1 rfl) ?_
    refine lv_iload_n hx hb d_B_addFloor_37 rfl (lv_at hl 0 rfl) ?_
    refine va_put (D := (dC, dI)) (ci := 0) (v := .int (nI (F + 1))) (ty := (.int)) (C := R_B) (T := F_B) (N := 4) hx hb hts i_B ft_B ft_B_ok n_B hown hK hP hD hS 0 rfl rfl 2 (by decide) (hts _ k_35) (fun _ h9 => h9) rfl (by decide +kernel) rfl rfl (Nat.le_of_ble_eq_true rfl) d_B_addFloor_38 (fun H locs hP hD hS => ?_)
    have hP : va_P (dC, dI) vwCl [(g 1, .inr (0, [.ref (g 2), .ref (g 3), .int (nI (F + 1)), .int (nI E)])), (g 2, .inl (cI, 13, .inl (fun j => nI ((up pp (F + 1) a) j)))), (g 3, .inl (cI, 13, .inl (fun j => nI ((up hh (F + 1) ((hh ((F + 1) - 1)) + b)) j))))] H := hP
    have hD : va_D A [(g 1, .inr (0, [.ref (g 2), .ref (g 3), .int (nI (F + 1)), .int (nI E)])), (g 2, .inl (cI, 13, .inl (fun j => nI ((up pp (F + 1) a) j)))), (g 3, .inl (cI, 13, .inl (fun j => nI ((up hh (F + 1) ((hh ((F + 1) - 1)) + b)) j))))] := hD
    refine lv_aload_n hx hb d_B_addFloor_41 rfl (lv_at hl 1 rfl) ?_
    refine lv_dup hx hb d_B_addFloor_42 rfl ?_
    refine va_get (D := (dC, dI)) (ci := 0) (v := .int (nI E)) (C := R_B) (T := F_B) (N := 4) hx hb hts i_B hown hK hP 0 rfl rfl 3 (by decide) (hts _ k_40) (fun _ h9 => h9) rfl d_B_addFloor_43 ?_
    refine lv_iload_n hx hb d_B_addFloor_46 rfl (lv_at hl 2 rfl) ?_
    refine nx_iadd hx hb d_B_addFloor_47 ?_
    refine va_put (D := (dC, dI)) (ci := 0) (v := .int (nI (E + a))) (ty := (.int)) (C := R_B) (T := F_B) (N := 4) hx hb hts i_B ft_B ft_B_ok n_B hown hK hP hD hS 0 rfl rfl 3 (by decide) (hts _ k_40) (fun _ h9 => h9) rfl (by decide +kernel) rfl rfl (Nat.le_of_ble_eq_true rfl) d_B_addFloor_48 (fun H locs hP hD hS => ?_)
    have hP : va_P (dC, dI) vwCl [(g 1, .inr (0, [.ref (g 2), .ref (g 3), .int (nI (F + 1)), .int (nI (E + a))])), (g 2, .inl (cI, 13, .inl (fun j => nI ((up pp (F + 1) a) j)))), (g 3, .inl (cI, 13, .inl (fun j => nI ((up hh (F + 1) ((hh ((F + 1) - 1)) + b)) j))))] H := hP
    have hD : va_D A [(g 1, .inr (0, [.ref (g 2), .ref (g 3), .int (nI (F + 1)), .int (nI (E + a))])), (g 2, .inl (cI, 13, .inl (fun j => nI ((up pp (F + 1) a) j)))), (g 3, .inl (cI, 13, .inl (fun j => nI ((up hh (F + 1) ((hh ((F + 1) - 1)) + b)) j))))] := hD
    refine lv_iload_n hx hb d_B_addFloor_51 rfl (lv_at hl 0 rfl) ?_
    exact W.iret hx hb hr (fun t ht hW => ⟨⟨_, (), rfl, rfl, by rw [ht]; exact hP, hD⟩, hS.F ht⟩) hS.2.2 d_B_addFloor_52
