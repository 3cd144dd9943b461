/-! WHERE THE LAW BEGINS: what the tables and the start give. -/
theorem ct_nest_in : ∀ w ∈ ct_nest, w ∈ lw_tbl := by decide +kernel
theorem ct_nest_ot : ∀ w ∈ ct_nest, w.onTables = true := by decide +kernel
theorem ct_str_in : ∀ q ∈ ct_str, Cond.stringRef R_T q.1 q.2 ∈ lw_tbl := by decide +kernel
theorem ct_str_ex : ∀ q ∈ ct_str, Cond.exactly (.string R_T q.1) "java/lang/String" ∈ flatC (Jvm.Cond.and given_1 narrow_1) := by decide +kernel
theorem ct_str_inj : ∀ p ∈ ct_str, ∀ q ∈ ct_str, p.1 = q.1 → p.2 = q.2 := by decide +kernel
theorem ct_ao_in : Cond.arrayOver (.object "RoundTrips$CarType") ∈ lw_tbl := by decide +kernel
theorem th_in1 : Cond.laysStatic Bundle.tN "UNASSIGNED_STACK" Bundle.steD ∈ lw_tbl := by decide +kernel
theorem th_in2 : Cond.laysStatic Bundle.tN "SUPPRESSED_SENTINEL" Bundle.listD ∈ lw_tbl := by decide +kernel
theorem th_in3 : Cond.initialized Bundle.tN ∈ lw_tbl := by decide +kernel
theorem th_ex1 : Cond.isRef (.static Bundle.tN "UNASSIGNED_STACK" Bundle.steD) ∈ flatC (Jvm.Cond.and given_1 narrow_1) := by decide +kernel
theorem th_ex2 : Cond.isRef (.static Bundle.tN "SUPPRESSED_SENTINEL" Bundle.listD) ∈ flatC (Jvm.Cond.and given_1 narrow_1) := by decide +kernel
theorem nc_ex : Cond.not (.castable E_sta E_arg) ∈ flatC (Jvm.Cond.and given_1 narrow_1) := by decide +kernel
section LBG
variable {p : Program} {s : State} {m : MethodId} {meth : Method} {c : Code} {b L : Nat} {xs : Nat → Int32}
theorem law_nc (C0 : lw_At p s m meth c b L xs) : va_Nc E_sta E_arg s := by
  obtain ⟨-, -, -, -, -, -, -, -, -, hgv⟩ := C0
  exact va_Nc.of (flat_of_before _ hgv _ nc_ex)
theorem law_th (C0 : lw_At p s m meth c b L xs) : TH s := by
  obtain ⟨-, -, -, -, -, hts, -, -, -, hgv⟩ := C0
  exact ⟨vx_Zqof (hts _ th_in1) (hts _ th_in3) (flat_of_before _ hgv _ th_ex1) (fun a h => Nat.not_le.mpr h), vx_Zqof (hts _ th_in2) (hts _ th_in3) (flat_of_before _ hgv _ th_ex2) (fun a h => Nat.not_le.mpr h)⟩
theorem law_str (C0 : lw_At p s m meth c b L xs) : ∃ sa : Nat → Nat, ∀ q ∈ ct_str, vk_R R_T q.1 q.2 (sa q.1) s := by
  obtain ⟨-, -, -, -, -, hts, -, -, -, hgv⟩ := C0
  have h : ∀ q ∈ ct_str, ∃ a, vk_R R_T q.1 q.2 a s := fun q hq => by
    obtain ⟨a, -, -, -, ha, -⟩ := Cond.exactly_spec (flat_of_before _ hgv _ (ct_str_ex q hq))
    exact ⟨a, vk_R.of (hts _ (ct_str_in q hq)) ha⟩
  refine ⟨fun k => Classical.epsilon (fun a => ∃ tx, (k, tx) ∈ ct_str ∧ vk_R R_T k tx a s), fun q hq => ?_⟩
  obtain ⟨a, ha⟩ := h q hq
  obtain ⟨tx, h1, h2⟩ := Classical.epsilon_spec (p := fun a => ∃ tx, (q.1, tx) ∈ ct_str ∧ vk_R R_T q.1 tx a s) ⟨a, q.2, hq, ha⟩
  have e : tx = q.2 := ct_str_inj (q.1, tx) h1 q hq rfl
  rw [e] at h2
  exact h2
theorem law_ct (C0 : lw_At p s m meth c b L xs) : ∃ (dC : Nat → ClassId) (dI : Nat → Nat → Nat) (cI cL cT : ClassId) (sa : Nat → Nat), CT dC dI cI cL cT sa s := by
  obtain ⟨sa, hsa⟩ := law_str C0
  obtain ⟨-, -, -, -, -, hts0, -, -, -, -⟩ := C0
  have hts := gw_tbl hts0
  obtain ⟨c0, i0, h0⟩ := u_known (C := R_B) (T := F_B) (N := 4) (n := 4) hts i_B (hts _ k_24)
  obtain ⟨c1, i1, h1⟩ := u_known (C := R_C) (T := F_C) (N := 5) (n := 5) hts i_C (hts _ k_263)
  obtain ⟨c2, i2, h2⟩ := u_known (C := R_O) (T := F_O) (N := 4) (n := 4) hts i_O (hts _ k_54)
  obtain ⟨c3, i3, h3⟩ := u_known (C := R_S) (T := F_S) (N := 7) (n := 7) hts i_S (hts _ k_76)
  obtain ⟨c4, i4, h4⟩ := u_known (C := R_A) (T := F_A) (N := 2) (n := 2) hts i_A (hts _ k_106)
  obtain ⟨c5, i5, h5⟩ := u_known (C := R_T) (T := F_T) (N := 6) (n := 6) hts i_T (hts _ k_16)
  obtain ⟨c6, i6, h6⟩ := u_known (C := R_M) (T := F_M) (N := 17) (n := 17) hts i_M (hts _ k_472)
  obtain ⟨cI, kI9, compI, f1, f2, f3⟩ := Cond.arrayClass_spec (hts _ k_50)
  obtain ⟨cL, kL9, compL, g1, g2, g3⟩ := Cond.arrayClass_spec (hts _ k_104)
  have hao : va_AO "RoundTrips$CarType" s := va_AO.of (hts0 _ ct_ao_in)
  obtain ⟨comp, cT, kT9, t1, -, t3, t4, t5⟩ := Cond.arrayOver_spec hao
  refine ⟨fun k => ([c0, c1, c2, c3, c4, c5, c6] : List ClassId).getD k c0, fun k => ([i0, i1, i2, i3, i4, i5, i6] : List (Nat → Nat)).getD k i0, cI, cL, cT, sa, ⟨fun k q hq => ?_, fun k q hq => ?_⟩, fun w hw => va_Nw.of (ct_nest_ot w hw) (hts0 w (ct_nest_in w hw)), hsa, hao⟩
  · match k, hq with
    | 0, hq => cases hq; exact h0
    | 1, hq => cases hq; exact h1
    | 2, hq => cases hq; exact h2
    | 3, hq => cases hq; exact h3
    | 4, hq => cases hq; exact h4
    | 5, hq => cases hq; exact h5
    | 6, hq => cases hq; exact h6
    | k + 7, hq => simp at hq
  · match k, hq with
    | 0, hq => cases hq; exact ⟨fun n z => ⟨(fun k h => by cases h), kI9, f2, compI, f3⟩, f1⟩
    | 1, hq => cases hq; exact ⟨fun n z => ⟨(fun k h => by cases h), kL9, g2, compL, g3⟩, g1⟩
    | 2, hq => cases hq; exact ⟨fun n z => ⟨(fun k h => by cases h), kT9, t3, comp, t4⟩, kT9, comp, t3, t4, t1, t5⟩
    | k + 3, hq => simp at hq
end LBG
theorem sw_out {v : Int32} (h : ¬ ∃ k : Nat, k ≤ 12 ∧ v = nI k) : v.toInt < 0 ∨ 12 < v.toInt := by
  refine Classical.byContradiction fun z => h ⟨v.toInt.toNat, by omega, Int32.toInt_inj.mp ?_⟩
  rw [nI_toInt (by omega)]
  omega
theorem inv_0 : inv 0 0 z0 z0 z0 z0 z0 z0 z0 z0 (up z0 0 1) := ⟨by omega, by omega, Nat.zero_le _, fun _ _ => rfl, fun _ _ => Nat.zero_le _, fun t ht => by omega, rfl, rfl⟩
theorem crs_0 {D : va_G} {sz : Nat} {L : List Nat} {ca rm sd dr pe ce : Nat → Nat} {H : Heap} : crs D sz L ca rm sd dr pe ce 0 H := ⟨fun k x hx => by obtain ⟨h, -⟩ := carsL_get hx; omega, fun k hk => by omega, fun k k' hk => by omega⟩
