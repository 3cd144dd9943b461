section
variable {p : Program} {l : Launch} {e : Env} {R : Room} {s : State} {m : MethodId} {args : Array Value} {below : List Frame} {meth : Method} {c : Code} {H : Heap} {locs : List Loc} {cells slots : Nat} {Q : State → Prop}
set_option maxHeartbeats 4000000 in
set_option maxRecDepth 100000 in
theorem l_T_oof_end (hF : CallFix p m c b_T_orderOfFractions 26 s args gw R_T) {a b cx d i : Nat} {z X : Int} (hb6 : b < 2 ^ 63) (hd6 : d < 2 ^ 63) (hz : z = 1 ∨ z = -1) (hX : (if b = 0 then (if d = 0 then 0 else z) else -z) = X) (k79 : ∀ ls : Array Slot, W p l e R s m args below meth c H locs cells slots Q (F0 m 79 ls [.int (kI X)])) (k147 : ∀ ls : Array Slot, W p l e R s m args below meth c H locs cells slots Q (F0 m 147 ls [.int (kI X)])) (k151 : ∀ ls : Array Slot, W p l e R s m args below meth c H locs cells slots Q (F0 m 151 ls [.int (kI X)])) : ∀ ls : Array Slot, lv_has ls 26 [(8, .long (lN a)), (10, .long (lN b)), (12, .long (lN cx)), (14, .long (lN d)), (16, .int (kI z)), (17, .int (nI i))] → W p l e R s m args below meth c H locs cells slots Q (F0 m 127 ls []) := by
  obtain ⟨hx, hb, hml, hown, hts⟩ := id hF
  intro ls hl
  refine lv_lload hx hb d_T_orderOfFractions_127 (lv_at hl 1 rfl) ?_
  refine lv_lconst (v := lN 0) hx hb d_T_orderOfFractions_129 (by decide) ?_
  refine nx_lcn_ne (tgt := 148) hx hb d_T_orderOfFractions_130 d_T_orderOfFractions_131 (by decide) (by omega) (by decide) (fun h1 => ?_) (fun h1 => ?_)
  · refine lv_iload hx hb d_T_orderOfFractions_148 (lv_at hl 4 rfl) ?_
    refine lv_ineg hx hb d_T_orderOfFractions_150 ?_
    rw [kI_neg hz]
    rw [if_neg h1] at hX
    rw [hX]
    exact k151 ls
  · rw [if_pos h1] at hX
    refine lv_lload hx hb d_T_orderOfFractions_134 (lv_at hl 3 rfl) ?_
    refine lv_lconst (v := lN 0) hx hb d_T_orderOfFractions_136 (by decide) ?_
    refine nx_lcn_ne (tgt := 145) hx hb d_T_orderOfFractions_137 d_T_orderOfFractions_138 (by decide) (by omega) (by decide) (fun h2 => ?_) (fun h2 => ?_)
    · rw [if_neg h2] at hX
      subst hX
      refine lv_iload hx hb d_T_orderOfFractions_145 (lv_at hl 4 rfl) ?_
      exact k147 ls
    · rw [if_pos h2] at hX
      subst hX
      refine lv_iconst (v := nI 0) hx hb d_T_orderOfFractions_141 (by decide) ?_
      refine lv_goto (tgt := 147) hx hb d_T_orderOfFractions_142 (by decide) ?_
      exact k147 ls
set_option maxHeartbeats 4000000 in
set_option maxRecDepth 100000 in
theorem l_T_oof (hF : CallFix p m c b_T_orderOfFractions 26 s args gw R_T) {X : Int} (k79 : ∀ ls : Array Slot, W p l e R s m args below meth c H locs cells slots Q (F0 m 79 ls [.int (kI X)])) (k147 : ∀ ls : Array Slot, W p l e R s m args below meth c H locs cells slots Q (F0 m 147 ls [.int (kI X)])) (k151 : ∀ ls : Array Slot, W p l e R s m args below meth c H locs cells slots Q (F0 m 151 ls [.int (kI X)])) : ∀ (n i a b cx d : Nat) (z : Int), i + n = 100 → a < 2 ^ 63 → b < 2 ^ 63 → cx < 2 ^ 63 → d < 2 ^ 63 → (z = 1 ∨ z = -1) → ma_oo n a b cx d z = X → ∀ ls : Array Slot, lv_has ls 26 [(8, .long (lN a)), (10, .long (lN b)), (12, .long (lN cx)), (14, .long (lN d)), (16, .int (kI z)), (17, .int (nI i))] → W p l e R s m args below meth c H locs cells slots Q (F0 m 20 ls []) := by
  obtain ⟨hx, hb, hml, hown, hts⟩ := id hF
  intro n
  induction n with
  | zero =>
    intro i a b cx d z hi ha6 hb6 hc6 hd6 hz hX ls hl
    refine lv_iload hx hb d_T_orderOfFractions_20 (lv_at hl 5 rfl) ?_
    refine lv_bipush (v := nI 100) hx hb d_T_orderOfFractions_22 (by decide) ?_
    refine nx_icmp_ge (tgt := 127) hx hb d_T_orderOfFractions_24 (by decide) (by omega) (by omega) (fun h => ?_) (fun h => ?_)
    · exact l_T_oof_end hF hb6 hd6 hz hX k79 k147 k151 ls hl
    · exact absurd h (by omega)
  | succ n ih =>
    intro i a b cx d z hi ha6 hb6 hc6 hd6 hz hX ls hl
    rw [ma_oo] at hX
    refine lv_iload hx hb d_T_orderOfFractions_20 (lv_at hl 5 rfl) ?_
    refine lv_bipush (v := nI 100) hx hb d_T_orderOfFractions_22 (by decide) ?_
    refine nx_icmp_ge (tgt := 127) hx hb d_T_orderOfFractions_24 (by decide) (by omega) (by omega) (fun h => ?_) (fun h => ?_)
    · exact absurd h (by omega)
    · refine lv_lload hx hb d_T_orderOfFractions_27 (lv_at hl 1 rfl) ?_
      refine lv_lconst (v := lN 0) hx hb d_T_orderOfFractions_29 (by decide) ?_
      refine nx_lcn_eq (tgt := 127) hx hb d_T_orderOfFractions_30 d_T_orderOfFractions_31 (by decide) (by omega) (by decide) (fun h1 => ?_) (fun h1 => ?_)
      · rw [if_pos (Or.inl h1)] at hX
        exact l_T_oof_end hF hb6 hd6 hz hX k79 k147 k151 ls hl
      · refine lv_lload hx hb d_T_orderOfFractions_34 (lv_at hl 3 rfl) ?_
        refine lv_lconst (v := lN 0) hx hb d_T_orderOfFractions_36 (by decide) ?_
        refine nx_lcn_eq (tgt := 127) hx hb d_T_orderOfFractions_37 d_T_orderOfFractions_38 (by decide) (by omega) (by decide) (fun h2 => ?_) (fun h2 => ?_)
        · rw [if_pos (Or.inr h2)] at hX
          exact l_T_oof_end hF hb6 hd6 hz hX k79 k147 k151 ls hl
        · rw [if_neg (by omega)] at hX
          have q1 : a / b < 2 ^ 63 := Nat.lt_of_le_of_lt (Nat.div_le_self a b) ha6
          have q2 : cx / d < 2 ^ 63 := Nat.lt_of_le_of_lt (Nat.div_le_self cx d) hc6
          refine lv_lload hx hb d_T_orderOfFractions_41 (lv_at hl 0 rfl) ?_
          refine lv_lload hx hb d_T_orderOfFractions_43 (lv_at hl 1 rfl) ?_
          refine nx_ldiv hx hb d_T_orderOfFractions_45 ha6 (by omega) hb6 ?_
          refine lv_lstore (lv' := [(18, .long (lN (a / b))), (8, .long (lN a)), (10, .long (lN b)), (12, .long (lN cx)), (14, .long (lN d)), (16, .int (kI z)), (17, .int (nI i))]) hx hb d_T_orderOfFractions_46 hl (by decide) rfl (fun ls hl => ?_)
          refine lv_lload hx hb d_T_orderOfFractions_48 (lv_at hl 3 rfl) ?_
          refine lv_lload hx hb d_T_orderOfFractions_50 (lv_at hl 4 rfl) ?_
          refine nx_ldiv hx hb d_T_orderOfFractions_52 hc6 (by omega) hd6 ?_
          refine lv_lstore (lv' := [(20, .long (lN (cx / d))), (18, .long (lN (a / b))), (8, .long (lN a)), (10, .long (lN b)), (12, .long (lN cx)), (14, .long (lN d)), (16, .int (kI z)), (17, .int (nI i))]) hx hb d_T_orderOfFractions_53 hl (by decide) rfl (fun ls hl => ?_)
          refine lv_lload hx hb d_T_orderOfFractions_55 (lv_at hl 1 rfl) ?_
          refine lv_lload hx hb d_T_orderOfFractions_57 (lv_at hl 0 rfl) ?_
          refine nx_lcn_eq (tgt := 80) hx hb d_T_orderOfFractions_59 d_T_orderOfFractions_60 (by decide) q1 q2 (fun h3 => ?_) (fun h3 => ?_)
          · rw [if_pos h3] at hX
            refine lv_lload hx hb d_T_orderOfFractions_80 (lv_at hl 2 rfl) ?_
            refine lv_lload hx hb d_T_orderOfFractions_82 (lv_at hl 1 rfl) ?_
            refine lv_lload hx hb d_T_orderOfFractions_84 (lv_at hl 3 rfl) ?_
            refine nx_lmul hx hb d_T_orderOfFractions_86 ?_
            refine nx_lsub hx hb d_T_orderOfFractions_87 (Nat.div_mul_le_self a b) ?_
            refine lv_lstore (lv' := [(22, .long (lN (a - ((a / b) * b)))), (20, .long (lN (cx / d))), (18, .long (lN (a / b))), (8, .long (lN a)), (10, .long (lN b)), (12, .long (lN cx)), (14, .long (lN d)), (16, .int (kI z)), (17, .int (nI i))]) hx hb d_T_orderOfFractions_88 hl (by decide) rfl (fun ls hl => ?_)
            rw [ma_sub_mod] at hl
            refine lv_lload hx hb d_T_orderOfFractions_90 (lv_at hl 5 rfl) ?_
            refine lv_lload hx hb d_T_orderOfFractions_92 (lv_at hl 1 rfl) ?_
            refine lv_lload hx hb d_T_orderOfFractions_94 (lv_at hl 6 rfl) ?_
            refine nx_lmul hx hb d_T_orderOfFractions_96 ?_
            refine nx_lsub hx hb d_T_orderOfFractions_97 (Nat.div_mul_le_self cx d) ?_
            refine lv_lstore (lv' := [(24, .long (lN (cx - ((cx / d) * d)))), (22, .long (lN (a % b))), (20, .long (lN (cx / d))), (18, .long (lN (a / b))), (8, .long (lN a)), (10, .long (lN b)), (12, .long (lN cx)), (14, .long (lN d)), (16, .int (kI z)), (17, .int (nI i))]) hx hb d_T_orderOfFractions_98 hl (by decide) rfl (fun ls hl => ?_)
            rw [ma_sub_mod] at hl
            refine lv_lload hx hb d_T_orderOfFractions_100 (lv_at hl 5 rfl) ?_
            refine lv_lstore (lv' := [(8, .long (lN b)), (24, .long (lN (cx % d))), (22, .long (lN (a % b))), (20, .long (lN (cx / d))), (18, .long (lN (a / b))), (10, .long (lN b)), (12, .long (lN cx)), (14, .long (lN d)), (16, .int (kI z)), (17, .int (nI i))]) hx hb d_T_orderOfFractions_102 hl (by decide) rfl (fun ls hl => ?_)
            refine lv_lload hx hb d_T_orderOfFractions_104 (lv_at hl 2 rfl) ?_
            refine lv_lstore (lv' := [(10, .long (lN (a % b))), (8, .long (lN b)), (24, .long (lN (cx % d))), (22, .long (lN (a % b))), (20, .long (lN (cx / d))), (18, .long (lN (a / b))), (12, .long (lN cx)), (14, .long (lN d)), (16, .int (kI z)), (17, .int (nI i))]) hx hb d_T_orderOfFractions_106 hl (by decide) rfl (fun ls hl => ?_)
            refine lv_lload hx hb d_T_orderOfFractions_108 (lv_at hl 7 rfl) ?_
            refine lv_lstore (lv' := [(12, .long (lN d)), (10, .long (lN (a % b))), (8, .long (lN b)), (24, .long (lN (cx % d))), (22, .long (lN (a % b))), (20, .long (lN (cx / d))), (18, .long (lN (a / b))), (14, .long (lN d)), (16, .int (kI z)), (17, .int (nI i))]) hx hb d_T_orderOfFractions_110 hl (by decide) rfl (fun ls hl => ?_)
            refine lv_lload hx hb d_T_orderOfFractions_112 (lv_at hl 3 rfl) ?_
            refine lv_lstore (lv' := [(14, .long (lN (cx % d))), (12, .long (lN d)), (10, .long (lN (a % b))), (8, .long (lN b)), (24, .long (lN (cx % d))), (22, .long (lN (a % b))), (20, .long (lN (cx / d))), (18, .long (lN (a / b))), (16, .int (kI z)), (17, .int (nI i))]) hx hb d_T_orderOfFractions_114 hl (by decide) rfl (fun ls hl => ?_)
            refine lv_iload hx hb d_T_orderOfFractions_116 (lv_at hl 8 rfl) ?_
            refine lv_ineg hx hb d_T_orderOfFractions_118 ?_
            rw [kI_neg hz]
            refine lv_istore (lv' := [(16, .int (kI (-z))), (14, .long (lN (cx % d))), (12, .long (lN d)), (10, .long (lN (a % b))), (8, .long (lN b)), (24, .long (lN (cx % d))), (22, .long (lN (a % b))), (20, .long (lN (cx / d))), (18, .long (lN (a / b))), (17, .int (nI i))]) hx hb d_T_orderOfFractions_119 hl (by decide) rfl (fun ls hl => ?_)
            refine nx_inc (lv' := [(17, .int (nI (i + 1))), (16, .int (kI (-z))), (14, .long (lN (cx % d))), (12, .long (lN d)), (10, .long (lN (a % b))), (8, .long (lN b)), (24, .long (lN (cx % d))), (22, .long (lN (a % b))), (20, .long (lN (cx / d))), (18, .long (lN (a / b)))]) hx hb d_T_orderOfFractions_121 hl (k := 9) rfl (by decide) rfl (fun ls hl => ?_)
            refine lv_goto (tgt := 20) hx hb d_T_orderOfFractions_124 (by decide) ?_
            have r1 := Nat.mod_lt a (Nat.pos_of_ne_zero h1)
            have r2 := Nat.mod_lt cx (Nat.pos_of_ne_zero h2)
            exact ih (i + 1) b (a % b) d (cx % d) (-z) (by omega) hb6 (by omega) hd6 (by omega) (pm_neg hz) hX ls (lv_sub hl [5, 4, 3, 2, 1, 0] rfl)
          · rw [if_neg h3] at hX
            refine lv_lload hx hb d_T_orderOfFractions_63 (lv_at hl 1 rfl) ?_
            refine lv_lload hx hb d_T_orderOfFractions_65 (lv_at hl 0 rfl) ?_
            refine nx_lcn_ge (tgt := 77) hx hb d_T_orderOfFractions_67 d_T_orderOfFractions_68 (by decide) q1 q2 (fun h4 => ?_) (fun h4 => ?_)
            · rw [if_neg (by omega)] at hX
              subst hX
              refine lv_iload hx hb d_T_orderOfFractions_77 (lv_at hl 6 rfl) ?_
              exact k79 ls
            · rw [if_pos h4] at hX
              subst hX
              refine lv_iload hx hb d_T_orderOfFractions_71 (lv_at hl 6 rfl) ?_
              refine lv_ineg hx hb d_T_orderOfFractions_73 ?_
              rw [kI_neg hz]
              refine lv_goto (tgt := 79) hx hb d_T_orderOfFractions_74 (by decide) ?_
              exact k79 ls
end
set_option maxHeartbeats 4000000 in
set_option maxRecDepth 100000 in
theorem c_T_orderOfFractions (l : Launch) {dC : Nat → ClassId} {dI : Nat → Nat → Nat} {cI cL cT : ClassId} {sa : Nat → Nat} (a0 b0 c0 d0 : Nat) (ha6 : a0 < 2 ^ 63) (hb6 : b0 < 2 ^ 50) (hc6 : c0 < 2 ^ 63) (hd6 : d0 < 2 ^ 50) (hb1 : 0 < b0) (hd1 : 0 < d0) : Met l y_T_orderOfFractions (Cond.code y_T_orderOfFractions b_T_orderOfFractions 26 (some .int) :: gw) ({ frames := 0, cells := 0, slots := 0, locals := 0 } : Room) (pr dC dI cI cL cT sa [.long (lN a0), .long (lN b0), .long (lN c0), .long (lN d0)] []) (vp_Si (fun r => r = kI (ma_cmp (a0 * d0) (c0 * b0)))) 0 0 (fun _ => False) := by
  refine Met.ofW (cc := b_T_orderOfFractions) (maxL := 26) (ret := (some .int)) (by decide) rfl ?_
  intro p e s m args below meth c s₁ B hml hv
  obtain ⟨rfl, hC, hP⟩ := hv
  have hx := B.exec
  have hb := B.bytes
  have hr := B.returns
  have hts : ∀ w ∈ gw, w.before ([.long (lN a0), .long (lN b0), .long (lN c0), .long (lN d0)] : List Value).toArray s = true := fun w hw => atoms_spec (ws := Cond.code y_T_orderOfFractions b_T_orderOfFractions 26 (some .int) :: gw) B.pre w (List.mem_cons_of_mem _ hw)
  have hown : s.vm.findClass R_T = some m.cls := findClass_of_methodNamed B.named
  have hlocks := B.notSynchronized
  have hK := hC.1
  have hfr : 0 ≤ (headSpec (Cond.code y_T_orderOfFractions b_T_orderOfFractions 26 (some .int) :: gw) ({ frames := 0, cells := 0, slots := 0, locals := 0 } : Room)).room.frames := Nat.le_refl _
  have hlo : 0 ≤ (headSpec (Cond.code y_T_orderOfFractions b_T_orderOfFractions 26 (some .int) :: gw) ({ frames := 0, cells := 0, slots := 0, locals := 0 } : Room)).room.locals := Nat.le_refl _
  have hce : 0 ≤ (headSpec (Cond.code y_T_orderOfFractions b_T_orderOfFractions 26 (some .int) :: gw) ({ frames := 0, cells := 0, slots := 0, locals := 0 } : Room)).room.cells := Nat.zero_le _
  have hsl : 0 ≤ (headSpec (Cond.code y_T_orderOfFractions b_T_orderOfFractions 26 (some .int) :: gw) ({ frames := 0, cells := 0, slots := 0, locals := 0 } : Room)).room.slots := Nat.zero_le _
  have hl := lv_entry ([.long (lN a0), .long (lN b0), .long (lN c0), .long (lN d0)]) (n := 26) (Nat.le_of_ble_eq_true rfl)
  rw [lg_entry_eq]
  generalize (lg_sl ([.long (lN a0), .long (lN b0), .long (lN c0), .long (lN d0)]) ++ List.replicate (26 - (lg_sl ([.long (lN a0), .long (lN b0), .long (lN c0), .long (lN d0)])).length) Slot.unset).toArray = ls at hl ⊢
  have hl : lv_has ls 26 [(0, .long (lN a0)), (2, .long (lN b0)), (4, .long (lN c0)), (6, .long (lN d0))] := hl
  refine lv_lload_n hx hb d_T_orderOfFractions_0 rfl (lv_at hl 0 rfl) ?_
  refine lv_lstore (lv' := [(8, .long (lN a0)), (0, .long (lN a0)), (2, .long (lN b0)), (4, .long (lN c0)), (6, .long (lN d0))]) hx hb d_T_orderOfFractions_1 hl (by decide) rfl (fun ls hl => ?_)
  refine lv_lload_n hx hb d_T_orderOfFractions_3 rfl (lv_at hl 2 rfl) ?_
  refine lv_lstore (lv' := [(10, .long (lN b0)), (8, .long (lN a0)), (0, .long (lN a0)), (2, .long (lN b0)), (4, .long (lN c0)), (6, .long (lN d0))]) hx hb d_T_orderOfFractions_4 hl (by decide) rfl (fun ls hl => ?_)
  refine lv_lload hx hb d_T_orderOfFractions_6 (lv_at hl 4 rfl) ?_
  refine lv_lstore (lv' := [(12, .long (lN c0)), (10, .long (lN b0)), (8, .long (lN a0)), (0, .long (lN a0)), (2, .long (lN b0)), (4, .long (lN c0)), (6, .long (lN d0))]) hx hb d_T_orderOfFractions_8 hl (by decide) rfl (fun ls hl => ?_)
  refine lv_lload hx hb d_T_orderOfFractions_10 (lv_at hl 6 rfl) ?_
  refine lv_lstore (lv' := [(14, .long (lN d0)), (12, .long (lN c0)), (10, .long (lN b0)), (8, .long (lN a0)), (0, .long (lN a0)), (2, .long (lN b0)), (4, .long (lN c0)), (6, .long (lN d0))]) hx hb d_T_orderOfFractions_12 hl (by decide) rfl (fun ls hl => ?_)
  refine lv_iconst (v := nI 1) hx hb d_T_orderOfFractions_14 (by decide) ?_
  rw [← kI_1]
  refine lv_istore (lv' := [(16, .int (kI 1)), (14, .long (lN d0)), (12, .long (lN c0)), (10, .long (lN b0)), (8, .long (lN a0)), (0, .long (lN a0)), (2, .long (lN b0)), (4, .long (lN c0)), (6, .long (lN d0))]) hx hb d_T_orderOfFractions_15 hl (by decide) rfl (fun ls hl => ?_)
  refine lv_iconst (v := nI 0) hx hb d_T_orderOfFractions_17 (by decide) ?_
  refine lv_istore (lv' := [(17, .int (nI 0)), (16, .int (kI 1)), (14, .long (lN d0)), (12, .long (lN c0)), (10, .long (lN b0)), (8, .long (lN a0)), (0, .long (lN a0)), (2, .long (lN b0)), (4, .long (lN c0)), (6, .long (lN d0))]) hx hb d_T_orderOfFractions_18 hl (by decide) rfl (fun ls hl => ?_)
  have hX : ma_oo 100 a0 b0 c0 d0 1 = ma_cmp (a0 * d0) (c0 * b0) := by rw [ma_oo_cmp 100 a0 b0 c0 d0 1 (ma_ok_of hb6 (by decide)) (by omega) (by omega), Int.one_mul]
  refine l_T_oof ⟨hx, hb, hml, hown, hts⟩ (fun ls => ?_) (fun ls => ?_) (fun ls => ?_) 100 0 a0 b0 c0 d0 1 (by omega) ha6 (by omega) hc6 (by omega) (Or.inl rfl) hX ls (lv_sub hl [5, 4, 3, 2, 1, 0] rfl)
  · exact W.iret hx hb hr (fun t ht hW => ⟨_, rfl, rfl, ht⟩) (fun q h => by cases h) d_T_orderOfFractions_79
  · exact W.iret hx hb hr (fun t ht hW => ⟨_, rfl, rfl, ht⟩) (fun q h => by cases h) d_T_orderOfFractions_147
  · exact W.iret hx hb hr (fun t ht hW => ⟨_, rfl, rfl, ht⟩) (fun q h => by cases h) d_T_orderOfFractions_151
