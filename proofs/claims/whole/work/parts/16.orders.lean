section
variable {p : Program} {l : Launch} {e : Env} {R : Room} {s : State} {m : MethodId} {args : Array Value} {below : List Frame} {meth : Method} {c : Code} {H : Heap} {locs : List Loc} {cells slots : Nat} {Q : State → Prop}
set_option maxHeartbeats 4000000 in
set_option maxRecDepth 100000 in
theorem l_M_order (hF : CallFix p m c b_M_order 21 s args gw R_M) {X : Int} (k86 : ∀ ls : Array Slot, W p l e R s m args below meth c H locs cells slots Q (F0 m 86 ls [.int (kI X)])) (k133 : ∀ ls : Array Slot, W p l e R s m args below meth c H locs cells slots Q (F0 m 133 ls [.int (kI X)])) : ∀ (n a b cx d : Nat) (z : Int), b < n → a < 2 ^ 63 → b < 2 ^ 63 → cx < 2 ^ 63 → d < 2 ^ 63 → 0 < b → 0 < d → (z = 1 ∨ z = -1) → z * ma_cmp (a * d) (cx * b) = X → ∀ ls : Array Slot, lv_has ls 21 [(8, .long (lN a)), (10, .long (lN b)), (12, .long (lN cx)), (14, .long (lN d)), (16, .int (kI z))] → W p l e R s m args below meth c H locs cells slots Q (F0 m 17 ls []) := by
  obtain ⟨hx, hb, hml, hown, hts⟩ := id hF
  intro n
  induction n with
  | zero => intro a b cx d z hn; omega
  | succ n ih =>
    intro a b cx d z hn ha6 hb6 hc6 hd6 hb0 hd0 hz hX ls hl
    have q1 : a / b < 2 ^ 63 := Nat.lt_of_le_of_lt (Nat.div_le_self a b) ha6
    have q2 : cx / d < 2 ^ 63 := Nat.lt_of_le_of_lt (Nat.div_le_self cx d) hc6
    have r1 := Nat.mod_lt a hb0
    have r2 := Nat.mod_lt cx hd0
    refine lv_lload hx hb d_M_order_17 (lv_at hl 0 rfl) ?_
    refine lv_lload hx hb d_M_order_19 (lv_at hl 1 rfl) ?_
    refine nx_ldiv hx hb d_M_order_21 ha6 hb0 hb6 ?_
    refine lv_lload hx hb d_M_order_22 (lv_at hl 2 rfl) ?_
    refine lv_lload hx hb d_M_order_24 (lv_at hl 3 rfl) ?_
    refine nx_ldiv hx hb d_M_order_26 hc6 hd0 hd6 ?_
    refine nx_lcn_ne (tgt := 111) hx hb d_M_order_27 d_M_order_28 (by decide) q1 q2 (fun h1 => ?_) (fun h1 => ?_)
    · refine lv_lload hx hb d_M_order_111 (lv_at hl 0 rfl) ?_
      refine lv_lload hx hb d_M_order_113 (lv_at hl 1 rfl) ?_
      refine nx_ldiv hx hb d_M_order_115 ha6 hb0 hb6 ?_
      refine lv_lload hx hb d_M_order_116 (lv_at hl 2 rfl) ?_
      refine lv_lload hx hb d_M_order_118 (lv_at hl 3 rfl) ?_
      refine nx_ldiv hx hb d_M_order_120 hc6 hd0 hd6 ?_
      refine nx_lcn_ge (tgt := 131) hx hb d_M_order_121 d_M_order_122 (by decide) q1 q2 (fun h2 => ?_) (fun h2 => ?_)
      · rw [ma_cmp_gt (ma_whole_lt hd0 hb0 (by omega)), Int.mul_one] at hX
        subst hX
        refine lv_iload hx hb d_M_order_131 (lv_at hl 4 rfl) ?_
        exact k133 ls
      · rw [ma_cmp_lt (ma_whole_lt hb0 hd0 h2)] at hX
        refine lv_iload hx hb d_M_order_125 (lv_at hl 4 rfl) ?_
        refine lv_ineg hx hb d_M_order_127 ?_
        rw [kI_neg hz]
        rw [show -z = X by omega]
        refine lv_goto (tgt := 133) hx hb d_M_order_128 (by decide) ?_
        exact k133 ls
    · refine lv_lload hx hb d_M_order_31 (lv_at hl 0 rfl) ?_
      refine lv_lload hx hb d_M_order_33 (lv_at hl 1 rfl) ?_
      refine nx_lrem hx hb d_M_order_35 ha6 hb0 hb6 ?_
      refine lv_lstore (lv' := [(17, .long (lN (a % b))), (8, .long (lN a)), (10, .long (lN b)), (12, .long (lN cx)), (14, .long (lN d)), (16, .int (kI z))]) hx hb d_M_order_36 hl (by decide) rfl (fun ls hl => ?_)
      refine lv_lload hx hb d_M_order_38 (lv_at hl 3 rfl) ?_
      refine lv_lload hx hb d_M_order_40 (lv_at hl 4 rfl) ?_
      refine nx_lrem hx hb d_M_order_42 hc6 hd0 hd6 ?_
      refine lv_lstore (lv' := [(19, .long (lN (cx % d))), (17, .long (lN (a % b))), (8, .long (lN a)), (10, .long (lN b)), (12, .long (lN cx)), (14, .long (lN d)), (16, .int (kI z))]) hx hb d_M_order_43 hl (by decide) rfl (fun ls hl => ?_)
      refine lv_lload hx hb d_M_order_45 (lv_at hl 1 rfl) ?_
      refine lv_lconst (v := lN 0) hx hb d_M_order_47 (by decide) ?_
      refine nx_lcn_eq (tgt := 59) hx hb d_M_order_48 d_M_order_49 (by decide) (by omega) (by decide) (fun h3 => ?_) (fun h3 => ?_)
      · refine lv_lload hx hb d_M_order_59 (lv_at hl 1 rfl) ?_
        refine lv_lload hx hb d_M_order_61 (lv_at hl 0 rfl) ?_
        refine nx_lcn_ne (tgt := 71) hx hb d_M_order_63 d_M_order_64 (by decide) (by omega) (by omega) (fun h5 => ?_) (fun h5 => ?_)
        · refine lv_lload hx hb d_M_order_71 (lv_at hl 1 rfl) ?_
          refine lv_lconst (v := lN 0) hx hb d_M_order_73 (by decide) ?_
          refine nx_lcn_ne (tgt := 84) hx hb d_M_order_74 d_M_order_75 (by decide) (by omega) (by decide) (fun h6 => ?_) (fun h6 => ?_)
          · have h7 : cx % d = 0 := by omega
            rw [ma_zero2 hd0 h1 h6 h7, Int.mul_one] at hX
            subst hX
            refine lv_iload hx hb d_M_order_84 (lv_at hl 6 rfl) ?_
            exact k86 ls
          · rw [ma_zero1 hb0 h1 h6 (by omega)] at hX
            refine lv_iload hx hb d_M_order_78 (lv_at hl 6 rfl) ?_
            refine lv_ineg hx hb d_M_order_80 ?_
            rw [kI_neg hz]
            rw [show -z = X by omega]
            refine lv_goto (tgt := 86) hx hb d_M_order_81 (by decide) ?_
            exact k86 ls
        · rw [ma_zero0 h1 (by omega) (by omega), Int.mul_zero] at hX
          subst hX
          refine lv_iconst (v := nI 0) hx hb d_M_order_67 (by decide) ?_
          refine lv_goto (tgt := 86) hx hb d_M_order_68 (by decide) ?_
          exact k86 ls
      · refine lv_lload hx hb d_M_order_52 (lv_at hl 0 rfl) ?_
        refine lv_lconst (v := lN 0) hx hb d_M_order_54 (by decide) ?_
        refine nx_lcn_ne (tgt := 87) hx hb d_M_order_55 d_M_order_56 (by decide) (by omega) (by decide) (fun h4 => ?_) (fun h4 => ?_)
        · refine lv_lload hx hb d_M_order_87 (lv_at hl 3 rfl) ?_
          refine lv_lstore (lv' := [(8, .long (lN b)), (19, .long (lN (cx % d))), (17, .long (lN (a % b))), (10, .long (lN b)), (12, .long (lN cx)), (14, .long (lN d)), (16, .int (kI z))]) hx hb d_M_order_89 hl (by decide) rfl (fun ls hl => ?_)
          refine lv_lload hx hb d_M_order_91 (lv_at hl 2 rfl) ?_
          refine lv_lstore (lv' := [(10, .long (lN (a % b))), (8, .long (lN b)), (19, .long (lN (cx % d))), (17, .long (lN (a % b))), (12, .long (lN cx)), (14, .long (lN d)), (16, .int (kI z))]) hx hb d_M_order_93 hl (by decide) rfl (fun ls hl => ?_)
          refine lv_lload hx hb d_M_order_95 (lv_at hl 5 rfl) ?_
          refine lv_lstore (lv' := [(12, .long (lN d)), (10, .long (lN (a % b))), (8, .long (lN b)), (19, .long (lN (cx % d))), (17, .long (lN (a % b))), (14, .long (lN d)), (16, .int (kI z))]) hx hb d_M_order_97 hl (by decide) rfl (fun ls hl => ?_)
          refine lv_lload hx hb d_M_order_99 (lv_at hl 3 rfl) ?_
          refine lv_lstore (lv' := [(14, .long (lN (cx % d))), (12, .long (lN d)), (10, .long (lN (a % b))), (8, .long (lN b)), (19, .long (lN (cx % d))), (17, .long (lN (a % b))), (16, .int (kI z))]) hx hb d_M_order_101 hl (by decide) rfl (fun ls hl => ?_)
          refine lv_iload hx hb d_M_order_103 (lv_at hl 6 rfl) ?_
          refine lv_ineg hx hb d_M_order_105 ?_
          rw [kI_neg hz]
          refine lv_istore (lv' := [(16, .int (kI (-z))), (14, .long (lN (cx % d))), (12, .long (lN d)), (10, .long (lN (a % b))), (8, .long (lN b)), (19, .long (lN (cx % d))), (17, .long (lN (a % b)))]) hx hb d_M_order_106 hl (by decide) rfl (fun ls hl => ?_)
          refine lv_goto (tgt := 17) hx hb d_M_order_108 (by decide) ?_
          have hX2 : -z * ma_cmp (b * (cx % d)) (d * (a % b)) = X := by rw [ma_cmp_turn h1, Int.neg_mul_neg]; exact hX
          exact ih b (a % b) d (cx % d) (-z) (by omega) hb6 (by omega) hd6 (by omega) (Nat.pos_of_ne_zero h3) (Nat.pos_of_ne_zero h4) (pm_neg hz) hX2 ls (lv_sub hl [4, 3, 2, 1, 0] rfl)
        · refine lv_lload hx hb d_M_order_59 (lv_at hl 1 rfl) ?_
          refine lv_lload hx hb d_M_order_61 (lv_at hl 0 rfl) ?_
          refine nx_lcn_ne (tgt := 71) hx hb d_M_order_63 d_M_order_64 (by decide) (by omega) (by omega) (fun h5 => ?_) (fun h5 => ?_)
          · refine lv_lload hx hb d_M_order_71 (lv_at hl 1 rfl) ?_
            refine lv_lconst (v := lN 0) hx hb d_M_order_73 (by decide) ?_
            refine nx_lcn_ne (tgt := 84) hx hb d_M_order_74 d_M_order_75 (by decide) (by omega) (by decide) (fun h6 => ?_) (fun h6 => ?_)
            · have h7 : cx % d = 0 := by omega
              rw [ma_zero2 hd0 h1 h6 h7, Int.mul_one] at hX
              subst hX
              refine lv_iload hx hb d_M_order_84 (lv_at hl 6 rfl) ?_
              exact k86 ls
            · rw [ma_zero1 hb0 h1 h6 (by omega)] at hX
              refine lv_iload hx hb d_M_order_78 (lv_at hl 6 rfl) ?_
              refine lv_ineg hx hb d_M_order_80 ?_
              rw [kI_neg hz]
              rw [show -z = X by omega]
              refine lv_goto (tgt := 86) hx hb d_M_order_81 (by decide) ?_
              exact k86 ls
          · rw [ma_zero0 h1 (by omega) (by omega), Int.mul_zero] at hX
            subst hX
            refine lv_iconst (v := nI 0) hx hb d_M_order_67 (by decide) ?_
            refine lv_goto (tgt := 86) hx hb d_M_order_68 (by decide) ?_
            exact k86 ls
end
set_option maxHeartbeats 4000000 in
set_option maxRecDepth 100000 in
theorem c_M_order (l : Launch) {dC : Nat → ClassId} {dI : Nat → Nat → Nat} {cI cL cT : ClassId} {sa : Nat → Nat} (a0 b0 c0 d0 : Nat) (ha6 : a0 < 2 ^ 63) (hb6 : b0 < 2 ^ 63) (hc6 : c0 < 2 ^ 63) (hd6 : d0 < 2 ^ 63) (hb1 : 0 < b0) (hd1 : 0 < d0) : Met l y_M_order (Cond.code y_M_order b_M_order 21 (some .int) :: gw) ({ frames := 0, cells := 0, slots := 0, locals := 0 } : Room) (pr dC dI cI cL cT sa [.long (lN a0), .long (lN b0), .long (lN c0), .long (lN d0)] []) (vp_Si (fun r => r = kI (ma_cmp (a0 * d0) (c0 * b0)))) 0 0 (fun _ => False) := by
  refine Met.ofW (cc := b_M_order) (maxL := 21) (ret := (some .int)) (by decide) rfl ?_
  intro p e s m args below meth c s₁ B hml hv
  obtain ⟨rfl, hC, hP⟩ := hv
  have hx := B.exec
  have hb := B.bytes
  have hr := B.returns
  have hts : ∀ w ∈ gw, w.before ([.long (lN a0), .long (lN b0), .long (lN c0), .long (lN d0)] : List Value).toArray s = true := fun w hw => atoms_spec (ws := Cond.code y_M_order b_M_order 21 (some .int) :: gw) B.pre w (List.mem_cons_of_mem _ hw)
  have hown : s.vm.findClass R_M = some m.cls := findClass_of_methodNamed B.named
  have hlocks := B.notSynchronized
  have hK := hC.1
  have hfr : 0 ≤ (headSpec (Cond.code y_M_order b_M_order 21 (some .int) :: gw) ({ frames := 0, cells := 0, slots := 0, locals := 0 } : Room)).room.frames := Nat.le_refl _
  have hlo : 0 ≤ (headSpec (Cond.code y_M_order b_M_order 21 (some .int) :: gw) ({ frames := 0, cells := 0, slots := 0, locals := 0 } : Room)).room.locals := Nat.le_refl _
  have hce : 0 ≤ (headSpec (Cond.code y_M_order b_M_order 21 (some .int) :: gw) ({ frames := 0, cells := 0, slots := 0, locals := 0 } : Room)).room.cells := Nat.zero_le _
  have hsl : 0 ≤ (headSpec (Cond.code y_M_order b_M_order 21 (some .int) :: gw) ({ frames := 0, cells := 0, slots := 0, locals := 0 } : Room)).room.slots := Nat.zero_le _
  have hl := lv_entry ([.long (lN a0), .long (lN b0), .long (lN c0), .long (lN d0)]) (n := 21) (Nat.le_of_ble_eq_true rfl)
  rw [lg_entry_eq]
  generalize (lg_sl ([.long (lN a0), .long (lN b0), .long (lN c0), .long (lN d0)]) ++ List.replicate (21 - (lg_sl ([.long (lN a0), .long (lN b0), .long (lN c0), .long (lN d0)])).length) Slot.unset).toArray = ls at hl ⊢
  have hl : lv_has ls 21 [(0, .long (lN a0)), (2, .long (lN b0)), (4, .long (lN c0)), (6, .long (lN d0))] := hl
  refine lv_lload_n hx hb d_M_order_0 rfl (lv_at hl 0 rfl) ?_
  refine lv_lstore (lv' := [(8, .long (lN a0)), (0, .long (lN a0)), (2, .long (lN b0)), (4, .long (lN c0)), (6, .long (lN d0))]) hx hb d_M_order_1 hl (by decide) rfl (fun ls hl => ?_)
  refine lv_lload_n hx hb d_M_order_3 rfl (lv_at hl 2 rfl) ?_
  refine lv_lstore (lv' := [(10, .long (lN b0)), (8, .long (lN a0)), (0, .long (lN a0)), (2, .long (lN b0)), (4, .long (lN c0)), (6, .long (lN d0))]) hx hb d_M_order_4 hl (by decide) rfl (fun ls hl => ?_)
  refine lv_lload hx hb d_M_order_6 (lv_at hl 4 rfl) ?_
  refine lv_lstore (lv' := [(12, .long (lN c0)), (10, .long (lN b0)), (8, .long (lN a0)), (0, .long (lN a0)), (2, .long (lN b0)), (4, .long (lN c0)), (6, .long (lN d0))]) hx hb d_M_order_8 hl (by decide) rfl (fun ls hl => ?_)
  refine lv_lload hx hb d_M_order_10 (lv_at hl 6 rfl) ?_
  refine lv_lstore (lv' := [(14, .long (lN d0)), (12, .long (lN c0)), (10, .long (lN b0)), (8, .long (lN a0)), (0, .long (lN a0)), (2, .long (lN b0)), (4, .long (lN c0)), (6, .long (lN d0))]) hx hb d_M_order_12 hl (by decide) rfl (fun ls hl => ?_)
  refine lv_iconst (v := nI 1) hx hb d_M_order_14 (by decide) ?_
  rw [← kI_1]
  refine lv_istore (lv' := [(16, .int (kI 1)), (14, .long (lN d0)), (12, .long (lN c0)), (10, .long (lN b0)), (8, .long (lN a0)), (0, .long (lN a0)), (2, .long (lN b0)), (4, .long (lN c0)), (6, .long (lN d0))]) hx hb d_M_order_15 hl (by decide) rfl (fun ls hl => ?_)
  refine l_M_order ⟨hx, hb, hml, hown, hts⟩ (fun ls => ?_) (fun ls => ?_) (b0 + 1) a0 b0 c0 d0 1 (by omega) ha6 hb6 hc6 hd6 hb1 hd1 (Or.inl rfl) (Int.one_mul _) ls (lv_sub hl [4, 3, 2, 1, 0] rfl)
  · exact W.iret hx hb hr (fun t ht hW => ⟨_, rfl, rfl, ht⟩) (fun q h => by cases h) d_M_order_86
  · exact W.iret hx hb hr (fun t ht hW => ⟨_, rfl, rfl, ht⟩) (fun q h => by cases h) d_M_order_133
section
variable {p : Program} {l : Launch} {e : Env} {R : Room} {s : State} {m : MethodId} {args : Array Value} {below : List Frame} {meth : Method} {c : Code} {H : Heap} {locs : List Loc} {cells slots : Nat} {Q : State → Prop}
set_option maxHeartbeats 4000000 in
set_option maxRecDepth 100000 in
theorem l_T_cd (hF : CallFix p m c b_T_commonDivisor 11 s args gw R_T) {X : Nat} (k44 : ∀ (b i : Nat) (ls : Array Slot), lv_has ls 11 [(4, .long (lN X)), (6, .long (lN b)), (8, .int (nI i))] → W p l e R s m args below meth c H locs cells slots Q (F0 m 44 ls [])) : ∀ (n i a b : Nat), i + n = 100 → a < 2 ^ 63 → b < 2 ^ 63 → ma_eu n a b = X → ∀ ls : Array Slot, lv_has ls 11 [(4, .long (lN a)), (6, .long (lN b)), (8, .int (nI i))] → W p l e R s m args below meth c H locs cells slots Q (F0 m 9 ls []) := by
  obtain ⟨hx, hb, hml, hown, hts⟩ := id hF
  intro n
  induction n with
  | zero =>
    intro i a b hi ha6 hb6 hX ls hl
    refine lv_iload hx hb d_T_commonDivisor_9 (lv_at hl 2 rfl) ?_
    refine lv_bipush (v := nI 100) hx hb d_T_commonDivisor_11 (by decide) ?_
    refine nx_icmp_ge (tgt := 44) hx hb d_T_commonDivisor_13 (by decide) (by omega) (by omega) (fun h => ?_) (fun h => ?_)
    · rw [ma_eu] at hX
      subst hX
      exact k44 b i ls hl
    · exact absurd h (by omega)
  | succ n ih =>
    intro i a b hi ha6 hb6 hX ls hl
    rw [ma_eu] at hX
    refine lv_iload hx hb d_T_commonDivisor_9 (lv_at hl 2 rfl) ?_
    refine lv_bipush (v := nI 100) hx hb d_T_commonDivisor_11 (by decide) ?_
    refine nx_icmp_ge (tgt := 44) hx hb d_T_commonDivisor_13 (by decide) (by omega) (by omega) (fun h => ?_) (fun h => ?_)
    · exact absurd h (by omega)
    · refine lv_lload hx hb d_T_commonDivisor_16 (lv_at hl 1 rfl) ?_
      refine lv_lconst (v := lN 0) hx hb d_T_commonDivisor_18 (by decide) ?_
      refine nx_lcn_eq (tgt := 44) hx hb d_T_commonDivisor_19 d_T_commonDivisor_20 (by decide) hb6 (by decide) (fun h1 => ?_) (fun h1 => ?_)
      · rw [if_pos h1] at hX
        subst hX
        exact k44 b i ls hl
      · rw [if_neg h1] at hX
        refine lv_lload hx hb d_T_commonDivisor_23 (lv_at hl 0 rfl) ?_
        refine lv_lload hx hb d_T_commonDivisor_25 (lv_at hl 1 rfl) ?_
        refine nx_lrem hx hb d_T_commonDivisor_27 ha6 (Nat.pos_of_ne_zero h1) hb6 ?_
        refine lv_lstore (lv' := [(9, .long (lN (a % b))), (4, .long (lN a)), (6, .long (lN b)), (8, .int (nI i))]) hx hb d_T_commonDivisor_28 hl (by decide) rfl (fun ls hl => ?_)
        refine lv_lload hx hb d_T_commonDivisor_30 (lv_at hl 2 rfl) ?_
        refine lv_lstore (lv' := [(4, .long (lN b)), (9, .long (lN (a % b))), (6, .long (lN b)), (8, .int (nI i))]) hx hb d_T_commonDivisor_32 hl (by decide) rfl (fun ls hl => ?_)
        refine lv_lload hx hb d_T_commonDivisor_34 (lv_at hl 1 rfl) ?_
        refine lv_lstore (lv' := [(6, .long (lN (a % b))), (4, .long (lN b)), (9, .long (lN (a % b))), (8, .int (nI i))]) hx hb d_T_commonDivisor_36 hl (by decide) rfl (fun ls hl => ?_)
        refine nx_inc (lv' := [(8, .int (nI (i + 1))), (6, .long (lN (a % b))), (4, .long (lN b)), (9, .long (lN (a % b)))]) hx hb d_T_commonDivisor_38 hl (k := 3) rfl (by decide) rfl (fun ls hl => ?_)
        refine lv_goto (tgt := 9) hx hb d_T_commonDivisor_41 (by decide) ?_
        have r1 := Nat.mod_lt a (Nat.pos_of_ne_zero h1)
        exact ih (i + 1) b (a % b) (by omega) hb6 (by omega) hX ls (lv_sub hl [2, 1, 0] rfl)
end
set_option maxHeartbeats 4000000 in
set_option maxRecDepth 100000 in
theorem c_T_commonDivisor (l : Launch) {dC : Nat → ClassId} {dI : Nat → Nat → Nat} {cI cL cT : ClassId} {sa : Nat → Nat} (a0 b0 : Nat) (ha6 : a0 < 2 ^ 63) (hb6 : b0 < 2 ^ 50) (hb1 : 0 < b0) : Met l y_T_commonDivisor (Cond.code y_T_commonDivisor b_T_commonDivisor 11 (some .long) :: gw) ({ frames := 0, cells := 0, slots := 0, locals := 0 } : Room) (pr dC dI cI cL cT sa [.long (lN a0), .long (lN b0)] []) (vp_Sl (fun r => r = lN (Nat.gcd a0 b0))) 0 0 (fun _ => False) := by
  refine Met.ofW (cc := b_T_commonDivisor) (maxL := 11) (ret := (some .long)) (by decide) rfl ?_
  intro p e s m args below meth c s₁ B hml hv
  obtain ⟨rfl, hC, hP⟩ := hv
  have hx := B.exec
  have hb := B.bytes
  have hr := B.returns
  have hts : ∀ w ∈ gw, w.before ([.long (lN a0), .long (lN b0)] : List Value).toArray s = true := fun w hw => atoms_spec (ws := Cond.code y_T_commonDivisor b_T_commonDivisor 11 (some .long) :: gw) B.pre w (List.mem_cons_of_mem _ hw)
  have hown : s.vm.findClass R_T = some m.cls := findClass_of_methodNamed B.named
  have hlocks := B.notSynchronized
  have hK := hC.1
  have hfr : 0 ≤ (headSpec (Cond.code y_T_commonDivisor b_T_commonDivisor 11 (some .long) :: gw) ({ frames := 0, cells := 0, slots := 0, locals := 0 } : Room)).room.frames := Nat.le_refl _
  have hlo : 0 ≤ (headSpec (Cond.code y_T_commonDivisor b_T_commonDivisor 11 (some .long) :: gw) ({ frames := 0, cells := 0, slots := 0, locals := 0 } : Room)).room.locals := Nat.le_refl _
  have hce : 0 ≤ (headSpec (Cond.code y_T_commonDivisor b_T_commonDivisor 11 (some .long) :: gw) ({ frames := 0, cells := 0, slots := 0, locals := 0 } : Room)).room.cells := Nat.zero_le _
  have hsl : 0 ≤ (headSpec (Cond.code y_T_commonDivisor b_T_commonDivisor 11 (some .long) :: gw) ({ frames := 0, cells := 0, slots := 0, locals := 0 } : Room)).room.slots := Nat.zero_le _
  have hl := lv_entry ([.long (lN a0), .long (lN b0)]) (n := 11) (Nat.le_of_ble_eq_true rfl)
  rw [lg_entry_eq]
  generalize (lg_sl ([.long (lN a0), .long (lN b0)]) ++ List.replicate (11 - (lg_sl ([.long (lN a0), .long (lN b0)])).length) Slot.unset).toArray = ls at hl ⊢
  have hl : lv_has ls 11 [(0, .long (lN a0)), (2, .long (lN b0))] := hl
  refine lv_lload_n hx hb d_T_commonDivisor_0 rfl (lv_at hl 0 rfl) ?_
  refine lv_lstore (lv' := [(4, .long (lN a0)), (0, .long (lN a0)), (2, .long (lN b0))]) hx hb d_T_commonDivisor_1 hl (by decide) rfl (fun ls hl => ?_)
  refine lv_lload_n hx hb d_T_commonDivisor_3 rfl (lv_at hl 2 rfl) ?_
  refine lv_lstore (lv' := [(6, .long (lN b0)), (4, .long (lN a0)), (0, .long (lN a0)), (2, .long (lN b0))]) hx hb d_T_commonDivisor_4 hl (by decide) rfl (fun ls hl => ?_)
  refine lv_iconst (v := nI 0) hx hb d_T_commonDivisor_6 (by decide) ?_
  refine lv_istore (lv' := [(8, .int (nI 0)), (6, .long (lN b0)), (4, .long (lN a0)), (0, .long (lN a0)), (2, .long (lN b0))]) hx hb d_T_commonDivisor_7 hl (by decide) rfl (fun ls hl => ?_)
  have hX : ma_eu 100 a0 b0 = Nat.gcd a0 b0 := ma_eu_gcd 100 a0 b0 (ma_ok_of hb6 (by decide))
  have hg1 : 0 < Nat.gcd a0 b0 := Nat.gcd_pos_of_pos_right a0 hb1
  have hg2 : Nat.gcd a0 b0 ≤ b0 := Nat.gcd_le_right a0 hb1
  refine l_T_cd ⟨hx, hb, hml, hown, hts⟩ (fun b i ls hl => ?_) 100 0 a0 b0 (by omega) ha6 (by omega) hX ls (lv_sub hl [2, 1, 0] rfl)
  refine lv_lload hx hb d_T_commonDivisor_44 (lv_at hl 0 rfl) ?_
  refine lv_lconst (v := lN 0) hx hb d_T_commonDivisor_46 (by decide) ?_
  refine nx_lcn_le (tgt := 56) hx hb d_T_commonDivisor_47 d_T_commonDivisor_48 (by decide) (by omega) (by decide) (fun h1 => ?_) (fun h1 => ?_)
  · exact absurd h1 (by omega)
  · refine lv_lload hx hb d_T_commonDivisor_51 (lv_at hl 0 rfl) ?_
    refine lv_goto (tgt := 57) hx hb d_T_commonDivisor_53 (by decide) ?_
    exact W.lret hx hb hr (fun t ht hW => ⟨_, rfl, rfl, ht⟩) (fun q h => by cases h) d_T_commonDivisor_57
set_option maxHeartbeats 4000000 in
set_option maxRecDepth 100000 in
theorem c_T_partInLowestTerms (l : Launch) {dC : Nat → ClassId} {dI : Nat → Nat → Nat} {cI cL cT : ClassId} {sa : Nat → Nat} (a0 b0 pt : Nat) (ha6 : a0 < 2 ^ 63) (hb6 : b0 < 2 ^ 50) (hb1 : 0 < b0) (hpt : pt ≤ 1) : Met l y_T_partInLowestTerms (Cond.code y_T_partInLowestTerms b_T_partInLowestTerms 7 (some .long) :: gw) ({ frames := 1, cells := 0, slots := 0, locals := 30 } : Room) (pr dC dI cI cL cT sa [.long (lN a0), .long (lN b0), .int (nI pt)] []) (vp_Sl (fun r => r = lN ((if pt = 0 then a0 else b0) / Nat.gcd a0 b0))) 0 0 (fun _ => False) := by
  refine Met.ofW (cc := b_T_partInLowestTerms) (maxL := 7) (ret := (some .long)) (by decide) rfl ?_
  intro p e s m args below meth c s₁ B hml hv
  obtain ⟨rfl, hC, hP⟩ := hv
  have hx := B.exec
  have hb := B.bytes
  have hr := B.returns
  have hts : ∀ w ∈ gw, w.before ([.long (lN a0), .long (lN b0), .int (nI pt)] : List Value).toArray s = true := fun w hw => atoms_spec (ws := Cond.code y_T_partInLowestTerms b_T_partInLowestTerms 7 (some .long) :: gw) B.pre w (List.mem_cons_of_mem _ hw)
  have hown : s.vm.findClass R_T = some m.cls := findClass_of_methodNamed B.named
  have hlocks := B.notSynchronized
  have hK := hC.1
  have hfr : 1 ≤ (headSpec (Cond.code y_T_partInLowestTerms b_T_partInLowestTerms 7 (some .long) :: gw) ({ frames := 1, cells := 0, slots := 0, locals := 30 } : Room)).room.frames := Nat.le_refl _
  have hlo : 30 ≤ (headSpec (Cond.code y_T_partInLowestTerms b_T_partInLowestTerms 7 (some .long) :: gw) ({ frames := 1, cells := 0, slots := 0, locals := 30 } : Room)).room.locals := Nat.le_refl _
  have hce : 0 ≤ (headSpec (Cond.code y_T_partInLowestTerms b_T_partInLowestTerms 7 (some .long) :: gw) ({ frames := 1, cells := 0, slots := 0, locals := 30 } : Room)).room.cells := Nat.zero_le _
  have hsl : 0 ≤ (headSpec (Cond.code y_T_partInLowestTerms b_T_partInLowestTerms 7 (some .long) :: gw) ({ frames := 1, cells := 0, slots := 0, locals := 30 } : Room)).room.slots := Nat.zero_le _
  have hl := lv_entry ([.long (lN a0), .long (lN b0), .int (nI pt)]) (n := 7) (Nat.le_of_ble_eq_true rfl)
  rw [lg_entry_eq]
  generalize (lg_sl ([.long (lN a0), .long (lN b0), .int (nI pt)]) ++ List.replicate (7 - (lg_sl ([.long (lN a0), .long (lN b0), .int (nI pt)])).length) Slot.unset).toArray = ls at hl ⊢
  have hl : lv_has ls 7 [(0, .long (lN a0)), (2, .long (lN b0)), (4, .int (nI pt))] := hl
  refine lv_lload_n hx hb d_T_partInLowestTerms_0 rfl (lv_at hl 0 rfl) ?_
  refine lv_lload_n hx hb d_T_partInLowestTerms_1 rfl (lv_at hl 1 rfl) ?_
  have hg1 : 0 < Nat.gcd a0 b0 := Nat.gcd_pos_of_pos_right a0 hb1
  have hg2 : Nat.gcd a0 b0 ≤ b0 := Nat.gcd_le_right a0 hb1
  refine ro_calll (va_runS (As := [.long (lN a0), .long (lN b0)]) (rest := []) ⟨hx, hb, hml, hown, hts⟩ (c_T_commonDivisor l a0 b0 ha6 hb6 hb1) (cwS 2 hts (gw_S k_328 k_326 k_327 k_1) rfl rfl rfl (by decide +kernel) ⟨Nat.le_trans (Nat.le_of_ble_eq_true rfl) hfr, Nat.le_trans (Nat.le_of_ble_eq_true rfl) hlo⟩) ⟨pr_blind, pr_at hC (fun k q h => by simp at h)⟩ rfl rfl hl.1 rfl (lv_room (Nat.le_of_ble_eq_true rfl)) d_T_partInLowestTerms_2 ⟨hce, hsl⟩) (fun r9 h9 => ?_)
  subst h9
  refine lv_lstore (lv' := [(5, .long (lN (Nat.gcd a0 b0))), (0, .long (lN a0)), (2, .long (lN b0)), (4, .int (nI pt))]) hx hb d_T_partInLowestTerms_5 hl (by decide) rfl (fun ls hl => ?_)
  refine lv_iload hx hb d_T_partInLowestTerms_7 (lv_at hl 3 rfl) ?_
  refine nx_if_ne (tgt := 19) hx hb d_T_partInLowestTerms_9 (by decide) (by omega) (fun h1 => ?_) (fun h1 => ?_)
  · refine lv_lload_n hx hb d_T_partInLowestTerms_19 rfl (lv_at hl 2 rfl) ?_
    refine lv_lload hx hb d_T_partInLowestTerms_20 (lv_at hl 0 rfl) ?_
    refine nx_ldiv hx hb d_T_partInLowestTerms_22 (by omega) hg1 (by omega) ?_
    exact W.lret hx hb hr (fun t ht hW => ⟨_, rfl, by rw [if_neg (by omega)], ht⟩) (fun q h => by cases h) d_T_partInLowestTerms_23
  · refine lv_lload_n hx hb d_T_partInLowestTerms_12 rfl (lv_at hl 1 rfl) ?_
    refine lv_lload hx hb d_T_partInLowestTerms_13 (lv_at hl 0 rfl) ?_
    refine nx_ldiv hx hb d_T_partInLowestTerms_15 ha6 hg1 (by omega) ?_
    refine lv_goto (tgt := 23) hx hb d_T_partInLowestTerms_16 (by decide) ?_
    exact W.lret hx hb hr (fun t ht hW => ⟨_, rfl, by rw [if_pos h1], ht⟩) (fun q h => by cases h) d_T_partInLowestTerms_23
