/-! THE LAW'S OWN METHODS: each calls the class, and says 1 or 2 where that throws. -/
section LBA
variable {dC : Nat → ClassId} {dI : Nat → Nat → Nat} {cI cL cT : ClassId} {sa : Nat → Nat}
def lb (dC : Nat → ClassId) (dI : Nat → Nat → Nat) (cI cL cT : ClassId) (sa : Nat → Nat) (av : List Value) (ws : va_W) (sz : Nat) : Array Value → State → Prop :=
  va_Pc av (fun U => U.heap.size = sz ∧ CT dC dI cI cL cT sa U ∧ va_P (dC, dI) vwCl ws U.heap ∧ TH U ∧ va_Nc E_sta E_arg U)
theorem lb_blind {av : List Value} {ws : va_W} {sz : Nat} : FrameBlind (lb dC dI cI cL cT sa av ws sz) := fun a U g mk h => ⟨h.1, h.2.1, h.2.2.1.call, h.2.2.2.1, h.2.2.2.2.1.call, va_Nc.moved (u := U) (U := U.calling g mk a) (Vm.Alike.refl U.vm) h.2.2.2.2.2⟩
theorem TH.at {s U : State} {H : Heap} {locs : List Loc} (hT : TH s) (hS : va_S (fun q : Nat => s.heap.size ≤ q) s.heap H locs) (hU : U.heap = H) (hW : s.WarmedH U.vm) : TH U := by
  unfold TH
  rw [hU]
  have hn : ∀ q : Nat, H.size ≤ q → s.heap.size ≤ q := fun q h => Nat.le_trans hS.1 h
  exact ⟨vx_Zq.moved hW.alike ((hT.1.kept (fun a h1 h2 => hS.2.1 a h1 h2)).narrow hn), vx_Zq.moved hW.alike ((hT.2.kept (fun a h1 h2 => hS.2.1 a h1 h2)).narrow hn)⟩
theorem lb_at {s : State} {H : Heap} {locs : List Loc} {av : List Value} {ws : va_W} (hC : CT dC dI cI cL cT sa s) (hP : va_P (dC, dI) vwCl ws H) (hT : TH s) (hN : va_Nc E_sta E_arg s) (hS : va_S (fun q : Nat => s.heap.size ≤ q) s.heap H locs) : ∀ U : State, U.heap = H → s.WarmedH U.vm → lb dC dI cI cL cT sa av ws H.size av.toArray U :=
  fun U hU hW => ⟨rfl, by rw [hU], hC.warm hW, by rw [hU]; exact hP, TH.at hT hS hU hW, va_Nc.moved hW.alike hN⟩
end LBA
