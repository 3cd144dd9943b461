section
-- ===== PART A: goes FIRST, ahead of the names: the tables' words, and 'selects' of the private methods out of them =====
/-- a private method of a class that the tables say can be made, by its rows of tables_1 -/
def lw_okq (q : MethodName × Nat) : Prop := (q.1.cls ≠ "java/lang/invoke/MethodHandle" ∧ q.1.cls ≠ "java/lang/invoke/VarHandle") ∧ Cond.instantiable q.1.cls q.2 ∈ tables_1 ∧ Cond.privateMethod q.1 ∈ tables_1 ∧ Cond.instanceMethod q.1 ∈ tables_1
theorem lw_p0 : lw_okq (⟨"java/lang/Throwable", "fillInStackTrace", "(I)Ljava/lang/Throwable;"⟩, 6) := ⟨⟨by decide +kernel, by decide +kernel⟩, List.mem_of_getElem? (i := 189) (by decide +kernel), List.mem_of_getElem? (i := 187) (by decide +kernel), List.mem_of_getElem? (i := 188) (by decide +kernel)⟩
theorem lw_p1 : lw_okq (⟨"RoundTrips", "requireFloor", "(I)V"⟩, 6) := ⟨⟨by decide +kernel, by decide +kernel⟩, List.mem_of_getElem? (i := 16) (by decide +kernel), List.mem_of_getElem? (i := 250) (by decide +kernel), List.mem_of_getElem? (i := 251) (by decide +kernel)⟩
theorem lw_p2 : lw_okq (⟨"RoundTrips", "countOdds", "(IIII)LRoundTrips$CarType;"⟩, 6) := ⟨⟨by decide +kernel, by decide +kernel⟩, List.mem_of_getElem? (i := 16) (by decide +kernel), List.mem_of_getElem? (i := 299) (by decide +kernel), List.mem_of_getElem? (i := 300) (by decide +kernel)⟩
theorem lw_p3 : lw_okq (⟨"RoundTrips", "requireType", "(I)LRoundTrips$CarType;"⟩, 6) := ⟨⟨by decide +kernel, by decide +kernel⟩, List.mem_of_getElem? (i := 16) (by decide +kernel), List.mem_of_getElem? (i := 303) (by decide +kernel), List.mem_of_getElem? (i := 304) (by decide +kernel)⟩
theorem lw_p4 : lw_okq (⟨"RoundTrips", "requireZone", "(II)V"⟩, 6) := ⟨⟨by decide +kernel, by decide +kernel⟩, List.mem_of_getElem? (i := 16) (by decide +kernel), List.mem_of_getElem? (i := 308) (by decide +kernel), List.mem_of_getElem? (i := 309) (by decide +kernel)⟩
theorem lw_p5 : lw_okq (⟨"RoundTrips", "requireSomeFloor", "()V"⟩, 6) := ⟨⟨by decide +kernel, by decide +kernel⟩, List.mem_of_getElem? (i := 16) (by decide +kernel), List.mem_of_getElem? (i := 370) (by decide +kernel), List.mem_of_getElem? (i := 371) (by decide +kernel)⟩
theorem lw_p6 : lw_okq (⟨"RoundTrips", "fewestCars", "(LRoundTrips$CarType;I)I"⟩, 6) := ⟨⟨by decide +kernel, by decide +kernel⟩, List.mem_of_getElem? (i := 16) (by decide +kernel), List.mem_of_getElem? (i := 390) (by decide +kernel), List.mem_of_getElem? (i := 391) (by decide +kernel)⟩
theorem lw_p7 : lw_okq (⟨"RoundTrips$Splits", "tryZonesFrom", "(III)V"⟩, 7) := ⟨⟨by decide +kernel, by decide +kernel⟩, List.mem_of_getElem? (i := 76) (by decide +kernel), List.mem_of_getElem? (i := 416) (by decide +kernel), List.mem_of_getElem? (i := 417) (by decide +kernel)⟩
theorem lw_p8 : lw_okq (⟨"RoundTrips$Splits", "longer", "(II)I"⟩, 7) := ⟨⟨by decide +kernel, by decide +kernel⟩, List.mem_of_getElem? (i := 76) (by decide +kernel), List.mem_of_getElem? (i := 420) (by decide +kernel), List.mem_of_getElem? (i := 421) (by decide +kernel)⟩
theorem lw_p9 : lw_okq (⟨"RoundTrips$Splits", "order", "(II)I"⟩, 7) := ⟨⟨by decide +kernel, by decide +kernel⟩, List.mem_of_getElem? (i := 76) (by decide +kernel), List.mem_of_getElem? (i := 424) (by decide +kernel), List.mem_of_getElem? (i := 425) (by decide +kernel)⟩
theorem lw_p10 : lw_okq (⟨"RoundTrips$Splits", "keepIfBetter", "(I)V"⟩, 7) := ⟨⟨by decide +kernel, by decide +kernel⟩, List.mem_of_getElem? (i := 76) (by decide +kernel), List.mem_of_getElem? (i := 429) (by decide +kernel), List.mem_of_getElem? (i := 430) (by decide +kernel)⟩
theorem lw_p11 : lw_okq (⟨"RoundTripsModel", "allPersons", "()I"⟩, 17) := ⟨⟨by decide +kernel, by decide +kernel⟩, List.mem_of_getElem? (i := 472) (by decide +kernel), List.mem_of_getElem? (i := 541) (by decide +kernel), List.mem_of_getElem? (i := 542) (by decide +kernel)⟩
theorem lw_p12 : lw_okq (⟨"RoundTripsModel", "noFloor", "(I)Z"⟩, 17) := ⟨⟨by decide +kernel, by decide +kernel⟩, List.mem_of_getElem? (i := 472) (by decide +kernel), List.mem_of_getElem? (i := 549) (by decide +kernel), List.mem_of_getElem? (i := 550) (by decide +kernel)⟩
theorem lw_p13 : lw_okq (⟨"RoundTripsModel", "noZone", "(III)Z"⟩, 17) := ⟨⟨by decide +kernel, by decide +kernel⟩, List.mem_of_getElem? (i := 472) (by decide +kernel), List.mem_of_getElem? (i := 562) (by decide +kernel), List.mem_of_getElem? (i := 563) (by decide +kernel)⟩
theorem lw_p14 : lw_okq (⟨"RoundTripsModel", "zonePersons", "(II)I"⟩, 17) := ⟨⟨by decide +kernel, by decide +kernel⟩, List.mem_of_getElem? (i := 472) (by decide +kernel), List.mem_of_getElem? (i := 566) (by decide +kernel), List.mem_of_getElem? (i := 567) (by decide +kernel)⟩
theorem lw_p15 : lw_okq (⟨"RoundTripsModel", "stopsOf", "(III)J"⟩, 17) := ⟨⟨by decide +kernel, by decide +kernel⟩, List.mem_of_getElem? (i := 472) (by decide +kernel), List.mem_of_getElem? (i := 573) (by decide +kernel), List.mem_of_getElem? (i := 574) (by decide +kernel)⟩
def lw_privs_1 : List (MethodName × Nat) := [(⟨"java/lang/Throwable", "fillInStackTrace", "(I)Ljava/lang/Throwable;"⟩, 6), (⟨"RoundTrips", "requireFloor", "(I)V"⟩, 6), (⟨"RoundTrips", "countOdds", "(IIII)LRoundTrips$CarType;"⟩, 6), (⟨"RoundTrips", "requireType", "(I)LRoundTrips$CarType;"⟩, 6), (⟨"RoundTrips", "requireZone", "(II)V"⟩, 6), (⟨"RoundTrips", "requireSomeFloor", "()V"⟩, 6), (⟨"RoundTrips", "fewestCars", "(LRoundTrips$CarType;I)I"⟩, 6), (⟨"RoundTrips$Splits", "tryZonesFrom", "(III)V"⟩, 7), (⟨"RoundTrips$Splits", "longer", "(II)I"⟩, 7), (⟨"RoundTrips$Splits", "order", "(II)I"⟩, 7), (⟨"RoundTrips$Splits", "keepIfBetter", "(I)V"⟩, 7), (⟨"RoundTripsModel", "allPersons", "()I"⟩, 17), (⟨"RoundTripsModel", "noFloor", "(I)Z"⟩, 17), (⟨"RoundTripsModel", "noZone", "(III)Z"⟩, 17), (⟨"RoundTripsModel", "zonePersons", "(II)I"⟩, 17), (⟨"RoundTripsModel", "stopsOf", "(III)J"⟩, 17)]
theorem lw_r1 : ∀ q ∈ lw_privs_1, lw_okq q := List.forall_mem_cons.mpr ⟨lw_p0, List.forall_mem_cons.mpr ⟨lw_p1, List.forall_mem_cons.mpr ⟨lw_p2, List.forall_mem_cons.mpr ⟨lw_p3, List.forall_mem_cons.mpr ⟨lw_p4, List.forall_mem_cons.mpr ⟨lw_p5, List.forall_mem_cons.mpr ⟨lw_p6, List.forall_mem_cons.mpr ⟨lw_p7, List.forall_mem_cons.mpr ⟨lw_p8, List.forall_mem_cons.mpr ⟨lw_p9, List.forall_mem_cons.mpr ⟨lw_p10, List.forall_mem_cons.mpr ⟨lw_p11, List.forall_mem_cons.mpr ⟨lw_p12, List.forall_mem_cons.mpr ⟨lw_p13, List.forall_mem_cons.mpr ⟨lw_p14, List.forall_mem_cons.mpr ⟨lw_p15, fun _ h => absurd h List.not_mem_nil⟩⟩⟩⟩⟩⟩⟩⟩⟩⟩⟩⟩⟩⟩⟩⟩
theorem lw_p16 : lw_okq (⟨"RoundTripsModel", "lowest", "(JJ)V"⟩, 17) := ⟨⟨by decide +kernel, by decide +kernel⟩, List.mem_of_getElem? (i := 472) (by decide +kernel), List.mem_of_getElem? (i := 577) (by decide +kernel), List.mem_of_getElem? (i := 578) (by decide +kernel)⟩
theorem lw_p17 : lw_okq (⟨"RoundTripsModel", "part", "(I)J"⟩, 17) := ⟨⟨by decide +kernel, by decide +kernel⟩, List.mem_of_getElem? (i := 472) (by decide +kernel), List.mem_of_getElem? (i := 581) (by decide +kernel), List.mem_of_getElem? (i := 582) (by decide +kernel)⟩
theorem lw_p18 : lw_okq (⟨"RoundTripsModel", "highestOf", "(III)J"⟩, 17) := ⟨⟨by decide +kernel, by decide +kernel⟩, List.mem_of_getElem? (i := 472) (by decide +kernel), List.mem_of_getElem? (i := 589) (by decide +kernel), List.mem_of_getElem? (i := 590) (by decide +kernel)⟩
theorem lw_p19 : lw_okq (⟨"RoundTripsModel", "reckonTrip", "(III)V"⟩, 17) := ⟨⟨by decide +kernel, by decide +kernel⟩, List.mem_of_getElem? (i := 472) (by decide +kernel), List.mem_of_getElem? (i := 597) (by decide +kernel), List.mem_of_getElem? (i := 598) (by decide +kernel)⟩
theorem lw_p20 : lw_okq (⟨"RoundTripsModel", "carriedBy", "(II)J"⟩, 17) := ⟨⟨by decide +kernel, by decide +kernel⟩, List.mem_of_getElem? (i := 472) (by decide +kernel), List.mem_of_getElem? (i := 613) (by decide +kernel), List.mem_of_getElem? (i := 614) (by decide +kernel)⟩
theorem lw_p21 : lw_okq (⟨"RoundTripsModel", "longest", "(I)I"⟩, 17) := ⟨⟨by decide +kernel, by decide +kernel⟩, List.mem_of_getElem? (i := 472) (by decide +kernel), List.mem_of_getElem? (i := 626) (by decide +kernel), List.mem_of_getElem? (i := 627) (by decide +kernel)⟩
theorem lw_p22 : lw_okq (⟨"RoundTripsModel", "nextEnds", "(I)Z"⟩, 17) := ⟨⟨by decide +kernel, by decide +kernel⟩, List.mem_of_getElem? (i := 472) (by decide +kernel), List.mem_of_getElem? (i := 630) (by decide +kernel), List.mem_of_getElem? (i := 631) (by decide +kernel)⟩
theorem lw_p23 : lw_okq (⟨"RoundTripsModel", "begin", "()V"⟩, 17) := ⟨⟨by decide +kernel, by decide +kernel⟩, List.mem_of_getElem? (i := 472) (by decide +kernel), List.mem_of_getElem? (i := 638) (by decide +kernel), List.mem_of_getElem? (i := 639) (by decide +kernel)⟩
theorem lw_p24 : lw_okq (⟨"RoundTripsModel", "inside", "()I"⟩, 17) := ⟨⟨by decide +kernel, by decide +kernel⟩, List.mem_of_getElem? (i := 472) (by decide +kernel), List.mem_of_getElem? (i := 642) (by decide +kernel), List.mem_of_getElem? (i := 643) (by decide +kernel)⟩
theorem lw_p25 : lw_okq (⟨"RoundTripsModel", "second", "(I)V"⟩, 17) := ⟨⟨by decide +kernel, by decide +kernel⟩, List.mem_of_getElem? (i := 472) (by decide +kernel), List.mem_of_getElem? (i := 646) (by decide +kernel), List.mem_of_getElem? (i := 647) (by decide +kernel)⟩
def lw_privs_2 : List (MethodName × Nat) := [(⟨"RoundTripsModel", "lowest", "(JJ)V"⟩, 17), (⟨"RoundTripsModel", "part", "(I)J"⟩, 17), (⟨"RoundTripsModel", "highestOf", "(III)J"⟩, 17), (⟨"RoundTripsModel", "reckonTrip", "(III)V"⟩, 17), (⟨"RoundTripsModel", "carriedBy", "(II)J"⟩, 17), (⟨"RoundTripsModel", "longest", "(I)I"⟩, 17), (⟨"RoundTripsModel", "nextEnds", "(I)Z"⟩, 17), (⟨"RoundTripsModel", "begin", "()V"⟩, 17), (⟨"RoundTripsModel", "inside", "()I"⟩, 17), (⟨"RoundTripsModel", "second", "(I)V"⟩, 17)]
theorem lw_r2 : ∀ q ∈ lw_privs_2, lw_okq q := List.forall_mem_cons.mpr ⟨lw_p16, List.forall_mem_cons.mpr ⟨lw_p17, List.forall_mem_cons.mpr ⟨lw_p18, List.forall_mem_cons.mpr ⟨lw_p19, List.forall_mem_cons.mpr ⟨lw_p20, List.forall_mem_cons.mpr ⟨lw_p21, List.forall_mem_cons.mpr ⟨lw_p22, List.forall_mem_cons.mpr ⟨lw_p23, List.forall_mem_cons.mpr ⟨lw_p24, List.forall_mem_cons.mpr ⟨lw_p25, fun _ h => absurd h List.not_mem_nil⟩⟩⟩⟩⟩⟩⟩⟩⟩⟩
def lw_privs : List (MethodName × Nat) := lw_privs_1 ++ (lw_privs_2)
def lw_tbl : List Cond := k2_sels lw_privs ++ tables_1
theorem lw_privs_ok : ∀ q ∈ lw_privs, lw_okq q := by
  show ∀ q ∈ lw_privs_1 ++ (lw_privs_2), lw_okq q
  exact List.forall_mem_append.mpr ⟨lw_r1, lw_r2⟩

/-! ===== BEGIN words of one list among another's, by their places ===== -/
theorem goodIn_r {big : List Cond} (ws : List Cond) (ps : List Nat) (hp : ws = ps.filterMap (fun i => big[i]?)) (h : ws.all goodWord = true) : GoodIn big ws := by
  intro w hw
  have h1 := List.all_eq_true.mp h w hw
  rw [hp] at hw
  obtain ⟨i, -, hi⟩ := List.mem_filterMap.mp hw
  have hm : w ∈ big := by first | exact List.mem_of_getElem? hi | exact List.getElem?_mem hi
  exact ⟨hm, good_of_word h1⟩
theorem goodIn_app {big a b : List Cond} (ha : GoodIn big a) (hb : GoodIn big b) : GoodIn big (a ++ b) := fun w h => (List.mem_append.mp h).elim (ha w) (hb w)
theorem goodIn_ca {big a b : List Cond} {c : Cond} (ha : GoodIn big (c :: a)) (hb : GoodIn big b) : GoodIn big (c :: (a ++ b)) := fun w h => (List.mem_cons.mp h).elim (fun e => ha w (List.mem_cons.mpr (Or.inl e))) (fun h => (List.mem_append.mp h).elim (fun h => ha w (List.mem_cons.mpr (Or.inr h))) (hb w))
theorem goodIn_sub {big ws : List Cond} (hm : ∀ w ∈ ws, w ∈ big) (h : ws.all goodWord = true) : GoodIn big ws := fun w hw => ⟨hm w hw, good_of_word (List.all_eq_true.mp h w hw)⟩
/-! ===== END ===== -/

/-! ===== BEGIN exceptions that leave a method, and their catching by the caller (launches without stack traces) ===== -/
section VXA
/-! The laws vx_back, vx_callV, vx_callS, vx_callSW, vx_throw0, vx_throwS follow proofs of the library, with one case more: JvmDerived/Free/Laws.lean (Back.of_free), Shelf42/LK1.lean (callV, callS), Shelf/KitTraced.lean (throwNew0V, throwNewS). -/
/-- where a method has thrown q: the class by its name, the cell, what was written, the world -/
def vx_T (XC : String → State → State → Prop) (st : State) (q : Addr) (t : State) (mc ms : Nat) (free : Addr → Prop) : Prop :=
  ∃ (E : String) (ce : Cell) (L : List Loc), XC E st t ∧ t.heap[q]? = some ce ∧ ce.vm = .none ∧ st.vm.findClass E = some ce.cls ∧ st.WarmedH t.vm ∧ st.sameButNew ({ t with vm := st.vm } : State) L mc ms ∧ ∀ z ∈ L, free z.base
def vx_Q (Qc : Array Value → State → Outcome → State → Prop) (XC : String → State → State → Prop) (mc ms : Nat) (free : Addr → Prop) : Array Value → State → Outcome → State → Prop := fun a st o t =>
  (Qc a st o t ∧ ∃ L, FrameEnd st o t L mc ms ∧ ∀ q ∈ L, free q.base) ∨ ∃ q, o = .threw q ∧ vx_T XC st q t mc ms free
/-- a callee that returns or throws -/
def vx_Met (l : Launch) (y : MethodName) (ws : List Cond) (rm : Room) (Pc : Array Value → State → Prop) (Qc : Array Value → State → Outcome → State → Prop) (XC : String → State → State → Prop) (mc ms : Nat) (free : Addr → Prop) : Prop :=
  MetFree l y (headSpec ws rm) Pc (fun _ _ _ _ _ => True) (vx_Q Qc XC mc ms free)
def vx_Post (XC : String → State → State → Prop) (mc ms : Nat) (free : Addr → Prop) : Pt → Array Value → Addr → Pt → Prop := fun A a q B =>
  ∃ (g : JFrame) (mk : MethodId) (t : State) (L : List Loc) (E : String) (ce : Cell), B.U.heap = t.heap ∧ B.U.vm = t.vm ∧ XC E (A.U.calling g mk a) t ∧ t.heap[q]? = some ce ∧ ce.vm = .none ∧ A.U.vm.findClass E = some ce.cls ∧ B.locs = A.locs ++ L ∧ (∀ z ∈ L, free z.base) ∧ B.cells = A.cells + mc ∧ B.slots = A.slots + ms
def vx_Back (l : Launch) (R : Room) (p : Program) (e : Env) (below : List Frame) (s : State) (sargs : Array Value) (y : MethodName) (len W9 : Nat)
    (Pre : Pt → Array Value → Prop) (Post : Pt → Array Value → Option Value → Pt → Prop) (PostX : Pt → Array Value → Addr → Pt → Prop) : Prop :=
  ∀ (m : MethodId) (meth : Method) (c : Code) (A : Pt) (g : JFrame) (ig : Instr) (mk : MethodId) (a : Array Value),
    Stand p l e R s m sargs below meth c A.U A.locs A.cells A.slots → g.method = m → g.locals.size = c.maxLocals → decode c.code g.pc = .ok (ig, len) →
    2 * g.monitorRoom + (g.stack.map fun v => v.category).sum ≤ W9 → A.U.methodNamed? y = some mk → Pre A a →
    (∃ (v : Option Value) (B : Pt), Stand p l e R s m sargs below meth c B.U B.locs B.cells B.slots ∧ Post A a v B ∧
      Steps p.tables e below (doInvoke e (A.U.setTop g) [] mk a).1 (B.U.setTop { g with pc := g.pc + len, stack := v.toList ++ g.stack })) ∨
    (∃ (q : Addr) (B : Pt), Stand p l e R s m sargs below meth c B.U B.locs B.cells B.slots ∧ PostX A a q B ∧
      Steps p.tables e below (doInvoke e (A.U.setTop g) [] mk a).1 ((B.U.setTop g).pushFrame (.throwing q)))
section Payer
variable {l : Launch} {R : Room} {p : Program} {e : Env} {below : List Frame} {s : State} {sargs : Array Value} {y : MethodName} {len W9 : Nat}
theorem vx_back {ws : List Cond} {rm : Room} {Pc : Array Value → State → Prop} {Qc : Array Value → State → Outcome → State → Prop} {XC : String → State → State → Prop} {mc ms : Nat} {free : Addr → Prop} {bytes : ByteArray} {maxL : Nat} {ret : Option FieldType}
    (hM : vx_Met l y ws rm Pc Qc XC mc ms free) (hblind : FrameBlind Pc) (hrc : rm.cells = mc) (hrs : rm.slots = ms)
    (hframes : rm.frames + 1 ≤ R.frames) (hlocals : W9 + (maxL + 11) + rm.locals ≤ R.locals)
    (hws : ∀ w ∈ ws, ∀ a' U, s.WarmedH U.vm → w.before a' U = true) (hcode : Cond.code y bytes maxL ret ∈ ws) (hinit : ∀ a' U, s.WarmedH U.vm → (Cond.initialized y.cls).before a' U = true) :
    vx_Back l R p e below s sargs y len W9 (PreOf R mc ms Pc) (PostOf Qc mc ms free) (vx_Post XC mc ms free) := by
  intro m meth c A g ig mk a X hg hsize hdg hW hn hp
  have h1 : (headSpec ws rm).pre.before a A.U = true := atoms_intro fun w hw => hws w hw _ _ X.warmed
  have h2 : (Cond.code y bytes maxL ret).before a A.U = true := hws _ hcode _ _ X.warmed
  have h3 : (Cond.initialized y.cls).before a A.U = true := hinit _ _ X.warmed
  have h4 : A.cells + (headSpec ws rm).room.cells ≤ R.cells := by rw [show (headSpec ws rm).room.cells = mc from hrc]; exact hp.1
  have h5 : A.slots + (headSpec ws rm).room.slots ≤ R.slots := by rw [show (headSpec ws rm).room.slots = ms from hrs]; exact hp.2.1
  have hPc : Pc a (A.U.calling g mk a) := hblind _ _ _ _ hp.2.2
  obtain ⟨U, Ls, c0, s0⟩ := A
  dsimp only [Pt.U, Pt.locs, Pt.cells, Pt.slots] at h1 h2 h3 h4 h5 X hn hPc ⊢
  obtain ⟨methY, cY, hmY, hcY, -, hlY, -, -, -, -⟩ := Cond.code_spec hn h2
  obtain ⟨kY, hkY, -⟩ := className_of_methodNamed hn
  have hinitY : kY.init = .initialized := Cond.initialized_spec (findClass_of_methodNamed hn) hkY h3
  have h : At U g.method c below := by rw [hg]; exact X.here
  have hlocals9 : W9 + (maxL + 11) + (headSpec ws rm).room.locals ≤ R.locals := hlocals
  have happ : (headSpec ws rm).appliesLoose y e.platform (U.calling g mk a) = true :=
    Spec.appliesLoose_calling (g := g) h hdg hn hkY hinitY
      (X.room_calling (g := g) (R' := (headSpec ws rm).room) hsize hmY hcY hframes (by rw [hlY]; omega) h4 h5) h1
  obtain ⟨mid, hmid⟩ := h.above
  have hfr : (U.setTop g).frames = (.java g :: mid) ++ below := by rw [State.frames_setTop' g h.top, hmid]; rfl
  obtain ⟨o, s₂, hsteps, -, hend, hq⟩ := Steps.callFree hM p X.admits X.cas X.clock (acts := []) hfr happ hPc trivial
  have hq' : vx_Q Qc XC mc ms free a (U.calling g mk a) o s₂ := hq
  rw [State.frames_setTop' g h.top] at hend
  obtain ⟨g₀, hg0⟩ := Option.isSome_iff_exists.mp h.top
  obtain ⟨r, hr⟩ := State.topJava?_eq_some.mp hg0
  have hr' : (({ U with heap := s₂.heap, slotsUsed := s₂.slotsUsed } : State).setVm s₂.vm).frames = .java g₀ :: r := hr
  rcases hq' with ⟨hqc, L, hfe, hL⟩ | ⟨q, rfl, E, ce, L, hx, hce, hcv, hcl, hW₂, hsm, hL⟩
  · obtain ⟨⟨v, rfl⟩, hW₂, e2, q2, q3, q4, q5, q6⟩ := id hfe
    have e3 : s₂ = ({ (U.calling g mk a).setFrames s₂.frames with heap := s₂.heap, slotsUsed := s₂.slotsUsed } : State).setVm s₂.vm := by
      have : s₂ = ({ s₂ with vm := (U.calling g mk a).vm } : State).setVm s₂.vm := rfl
      rw [e2] at this
      exact this
    obtain ⟨c₂, i₂, len₂, hc₂, hd₂, hf₂⟩ := hend
    have hW' : U.WarmedH s₂.vm := hW₂
    have hcc : c₂ = c := by
      have h1 : s₂.code? g.method = U.code? g.method := by
        rw [State.code?_eq, State.code?_eq, hW'.alike.method?]
      exact Option.some.inj (hc₂.symm.trans (h1.trans h.code))
    subst hcc
    have hlen : len₂ = len := by rw [hdg] at hd₂; cases hd₂; rfl
    subst hlen
    have hs₂ : s₂ = (({ U with heap := s₂.heap, slotsUsed := s₂.slotsUsed } : State).setVm s₂.vm).setTop { g with pc := g.pc + len₂, stack := v.toList ++ g.stack } := by
      refine e3.trans ?_
      rw [hf₂, State.calling_eq h.top, State.setFrames_setFrames, State.setTop_of_frames _ hr', hr]
      rfl
    have hsame : U.sameButNew ({ U with heap := s₂.heap, slotsUsed := s₂.slotsUsed } : State) L mc ms := by
      refine ⟨?_, q2, q3, q4, q5, q6⟩
      obtain ⟨t, ht, -⟩ := State.frames_cons hr
      show ({ U with heap := s₂.heap, slotsUsed := s₂.slotsUsed } : State) = { U.setFrames U.frames with heap := s₂.heap, slotsUsed := s₂.slotsUsed }
      rw [State.setFrames_self ht]
    subst hg
    refine Or.inl ⟨v, ⟨(({ U with heap := s₂.heap, slotsUsed := s₂.slotsUsed } : State).setVm s₂.vm), Ls ++ L, c0 + mc, s0 + ms⟩,
      ⟨X.admits, X.cas, X.clock, X.frames, X.room, X.hears, X.method, X.code, (X.here.setHeapUsed s₂.heap s₂.slotsUsed).setVm hW'.alike, X.tail, State.WarmedH.trans X.warmed hW', X.limits, X.bytes, X.same.trans (hsame.setVm s.vm)⟩,
      ⟨g, mk, s₂, L, rfl, rfl, hqc, rfl, hL, rfl, rfl⟩, ?_⟩
    show Steps p.tables e below _ ((({ U with heap := s₂.heap, slotsUsed := s₂.slotsUsed } : State).setVm s₂.vm).setTop { g with pc := g.pc + len₂, stack := v.toList ++ g.stack })
    rw [← hs₂]
    exact hsteps
  · obtain ⟨e2, q2, q3, q4, q5, q6⟩ := id hsm
    have e3 : s₂ = ({ (U.calling g mk a).setFrames s₂.frames with heap := s₂.heap, slotsUsed := s₂.slotsUsed } : State).setVm s₂.vm := by
      have : s₂ = ({ s₂ with vm := (U.calling g mk a).vm } : State).setVm s₂.vm := rfl
      rw [e2] at this
      exact this
    have hf₂ : s₂.frames = .throwing q :: .java g :: U.frames.tail := hend
    have hW' : U.WarmedH s₂.vm := hW₂
    have hs₂ : s₂ = ((({ U with heap := s₂.heap, slotsUsed := s₂.slotsUsed } : State).setVm s₂.vm).setTop g).pushFrame (.throwing q) := by
      refine e3.trans ?_
      rw [hf₂, State.calling_eq h.top, State.setFrames_setFrames, State.pushFrame, State.frames_setTop _ hr', State.setTop_of_frames _ hr', State.setFrames_setFrames, hr]
      rfl
    have hsame : U.sameButNew ({ U with heap := s₂.heap, slotsUsed := s₂.slotsUsed } : State) L mc ms := by
      refine ⟨?_, q2, q3, q4, q5, q6⟩
      obtain ⟨t, ht, -⟩ := State.frames_cons hr
      show ({ U with heap := s₂.heap, slotsUsed := s₂.slotsUsed } : State) = { U.setFrames U.frames with heap := s₂.heap, slotsUsed := s₂.slotsUsed }
      rw [State.setFrames_self ht]
    subst hg
    refine Or.inr ⟨q, ⟨(({ U with heap := s₂.heap, slotsUsed := s₂.slotsUsed } : State).setVm s₂.vm), Ls ++ L, c0 + mc, s0 + ms⟩,
      ⟨X.admits, X.cas, X.clock, X.frames, X.room, X.hears, X.method, X.code, (X.here.setHeapUsed s₂.heap s₂.slotsUsed).setVm hW'.alike, X.tail, State.WarmedH.trans X.warmed hW', X.limits, X.bytes, X.same.trans (hsame.setVm s.vm)⟩,
      ⟨g, mk, s₂, L, E, ce, rfl, rfl, hx, hce, hcv, hcl, rfl, hL, rfl, rfl⟩, ?_⟩
    show Steps p.tables e below _ (((({ U with heap := s₂.heap, slotsUsed := s₂.slotsUsed } : State).setVm s₂.vm).setTop g).pushFrame (.throwing q))
    rw [← hs₂]
    exact hsteps
end Payer
section Calls
variable {p : Program} {l : Launch} {e : Env} {R : Room} {s : State} {m : MethodId} {args : Array Value} {below : List Frame} {meth : Method} {c : Code} {T : State} {locs : List Loc} {cells slots : Nat}
theorem vx_callV (X : Stand p l e R s m args below meth c T locs cells slots) (hexec : p.tables.exec = Jvm.exec) {own C : String} {index : Nat} {y : MethodName} {bytes : ByteArray} {maxL : Nat} {ret : Option FieldType}
    (hown : s.vm.findClass own = some m.cls) (hlink : (Cond.methodLink own index y).before args s = true) (hinst : (Cond.instanceMethod y).before args s = true) (hsel : (Cond.selects C y y).before args s = true)
    (hcode : (Cond.code y bytes maxL ret).before args s = true) (hy : y.cls ≠ "java/lang/invoke/MethodHandle" ∧ y.cls ≠ "java/lang/invoke/VarHandle")
    {W9 : Nat} {Pre : Pt → Array Value → Prop} {Post : Pt → Array Value → Option Value → Pt → Prop} {PostX : Pt → Array Value → Addr → Pt → Prop} (hK : vx_Back l R p e below s args y 3 W9 Pre Post PostX)
    {b : Addr} {cellB : Cell} (hcell : T.heap[b]? = some cellB) (hobj : cellB.vm.isStatics = false) (hcls : s.vm.findClass C = some cellB.cls)
    {g : JFrame} (hg : g.method = m) (hsize : g.locals.size = c.maxLocals) {argsL rest : List Value} (hlen : ∀ sig, parseMethodDescriptor y.desc = some sig → argsL.length = sig.parameters.length)
    (hstack : g.stack = argsL.reverse ++ .ref b :: rest) (hW : 2 * g.monitorRoom + (rest.map fun v => v.category).sum ≤ W9) (hdg : decode c.code g.pc = .ok (.invokevirtual index, 3))
    (hpre : ∀ vm₁, s.WarmedH vm₁ → Pre ⟨T.setVm vm₁, locs, cells, slots⟩ (Value.ref b :: argsL).toArray) :
    (∃ (v : Option Value) (vm₁ : Vm) (B : Pt), s.WarmedH vm₁ ∧ Stand p l e R s m args below meth c B.U B.locs B.cells B.slots ∧ Post ⟨T.setVm vm₁, locs, cells, slots⟩ (Value.ref b :: argsL).toArray v B ∧
      ∀ target, Steps p.tables e below (B.U.setTop { g with pc := g.pc + 3, stack := v.toList ++ rest }) target → Steps p.tables e below (T.setTop g) target) ∨
    (∃ (q : Addr) (vm₁ : Vm) (B : Pt), s.WarmedH vm₁ ∧ Stand p l e R s m args below meth c B.U B.locs B.cells B.slots ∧ PostX ⟨T.setVm vm₁, locs, cells, slots⟩ (Value.ref b :: argsL).toArray q B ∧
      Steps p.tables e below (T.setTop g) ((B.U.setTop { g with stack := rest }).pushFrame (.throwing q))) := by
  obtain ⟨mk, methM, hnamed, hmethM, hstM, habM⟩ := Cond.instanceMethod_spec hinst
  obtain ⟨methM', cM, hmethM', -, -, -, -, -, -, hsigM⟩ := Cond.code_spec hnamed hcode
  cases hmethM.symm.trans hmethM'
  obtain ⟨c2, r2, m2, q1, q2, q3, q4, kP, hkP, hkPi⟩ := Cond.selects_spec hsel
  cases hcls.symm.trans q1
  cases (State.methodFound?_of_named hnamed hy).symm.trans q2
  cases hnamed.symm.trans q3
  have hselP : selectMethod e.platform s.vm cellB.cls mk = .method mk := by rw [Launch.admits_selectMethod X.admits]; exact q4
  obtain ⟨vm₁, X₁, hstep₁⟩ := X.invokevirtual hexec hown hlink hnamed hmethM hstM hkP hkPi hy (a := b) (cell := cellB) hcell
    (fun z h => by rw [h] at hobj; cases hobj) hselP hmethM habM hkP hkPi (g := g) hg (argsL := argsL) (rest := rest) (hlen _ hsigM) hstack hdg
  rcases hK m meth c ⟨T.setVm vm₁, locs, cells, slots⟩ { g with stack := rest } (.invokevirtual index) mk (Value.ref b :: argsL).toArray X₁ hg hsize hdg hW (X₁.named hnamed) (hpre vm₁ X₁.warmed) with ⟨v, B, X', hpost, hsteps⟩ | ⟨q, B, X', hpost, hsteps⟩
  · exact Or.inl ⟨v, vm₁, B, X₁.warmed, X', hpost, fun target h => hstep₁ _ fun acts => by rw [doInvoke_state]; exact hsteps.trans h⟩
  · exact Or.inr ⟨q, vm₁, B, X₁.warmed, X', hpost, hstep₁ _ fun acts => by rw [doInvoke_state]; exact hsteps⟩
theorem vx_callS (X : Stand p l e R s m args below meth c T locs cells slots) (hexec : p.tables.exec = Jvm.exec) {own : String} {index : Nat} {y : MethodName} {bytes : ByteArray} {maxL : Nat} {ret : Option FieldType}
    (hown : s.vm.findClass own = some m.cls) (hlink : (Cond.methodLink own index y).before args s = true) (hstat : (Cond.static y).before args s = true) (hinit : (Cond.initialized y.cls).before args s = true)
    (hcode : (Cond.code y bytes maxL ret).before args s = true) (hy : y.cls ≠ "java/lang/invoke/MethodHandle" ∧ y.cls ≠ "java/lang/invoke/VarHandle")
    {W9 : Nat} {Pre : Pt → Array Value → Prop} {Post : Pt → Array Value → Option Value → Pt → Prop} {PostX : Pt → Array Value → Addr → Pt → Prop} (hK : vx_Back l R p e below s args y 3 W9 Pre Post PostX)
    {g : JFrame} (hg : g.method = m) (hsize : g.locals.size = c.maxLocals) {argsL rest : List Value} (hlen : ∀ sig, parseMethodDescriptor y.desc = some sig → argsL.length = sig.parameters.length)
    (hstack : g.stack = argsL.reverse ++ rest) (hW : 2 * g.monitorRoom + (rest.map fun v => v.category).sum ≤ W9) (hdg : decode c.code g.pc = .ok (.invokestatic index, 3))
    (hpre : ∀ vm₁, s.WarmedH vm₁ → Pre ⟨T.setVm vm₁, locs, cells, slots⟩ argsL.toArray) :
    (∃ (v : Option Value) (vm₁ : Vm) (B : Pt), s.WarmedH vm₁ ∧ Stand p l e R s m args below meth c B.U B.locs B.cells B.slots ∧ Post ⟨T.setVm vm₁, locs, cells, slots⟩ argsL.toArray v B ∧
      ∀ target, Steps p.tables e below (B.U.setTop { g with pc := g.pc + 3, stack := v.toList ++ rest }) target → Steps p.tables e below (T.setTop g) target) ∨
    (∃ (q : Addr) (vm₁ : Vm) (B : Pt), s.WarmedH vm₁ ∧ Stand p l e R s m args below meth c B.U B.locs B.cells B.slots ∧ PostX ⟨T.setVm vm₁, locs, cells, slots⟩ argsL.toArray q B ∧
      Steps p.tables e below (T.setTop g) ((B.U.setTop { g with stack := rest }).pushFrame (.throwing q))) := by
  obtain ⟨mk, hnamed⟩ := Cond.code_named hcode
  obtain ⟨methM, cM, hmethM, -, -, -, -, -, -, hsigM⟩ := Cond.code_spec hnamed hcode
  have hstatic : methM.isStatic = true := Cond.static_spec hnamed hmethM hstat
  obtain ⟨kP, hkP, -⟩ := className_of_methodNamed hnamed
  have hinitP : kP.init = .initialized := Cond.initialized_spec (findClass_of_methodNamed hnamed) hkP hinit
  obtain ⟨vm₁, X₁, hstep₁⟩ := X.invokestatic hexec hown hlink hnamed hmethM hstatic hkP hinitP hy (g := g) hg (argsL := argsL) (rest := rest) (hlen _ hsigM) hstack hdg
  rcases hK m meth c ⟨T.setVm vm₁, locs, cells, slots⟩ { g with stack := rest } (.invokestatic index) mk argsL.toArray X₁ hg hsize hdg hW (X₁.named hnamed) (hpre vm₁ X₁.warmed) with ⟨v, B, X', hpost, hsteps⟩ | ⟨q, B, X', hpost, hsteps⟩
  · exact Or.inl ⟨v, vm₁, B, X₁.warmed, X', hpost, fun target h => hstep₁ _ fun acts => by rw [doInvoke_state]; exact hsteps.trans h⟩
  · exact Or.inr ⟨q, vm₁, B, X₁.warmed, X', hpost, hstep₁ _ fun acts => by rw [doInvoke_state]; exact hsteps⟩
end Calls
theorem vx_cls {s : State} {T : State} {vm₁ : Vm} {E : String} {k : ClassId} (hW : s.WarmedH vm₁) (h : (T.setVm vm₁).vm.findClass E = some k) : s.vm.findClass E = some k := by
  have h1 : vm₁.findClass E = some k := h
  rw [hW.alike.findClass] at h1
  exact h1
/-- the method's frame g, with q thrown over it -/
def vx_W (p : Program) (l : Launch) (e : Env) (R : Room) (s : State) (m : MethodId) (args : Array Value) (below : List Frame) (meth : Method) (c : Code) (H : Heap) (locs : List Loc) (cells slots : Nat) (Q : State → Prop) (g : JFrame) (q : Addr) : Prop :=
  ∀ T : State, T.heap = H → Stand p l e R s m args below meth c T locs cells slots → ∃ t, Steps p.tables e below ((T.setTop g).pushFrame (.throwing q)) t ∧ Q t
def vx_Run (p : Program) (l : Launch) (e : Env) (R : Room) (s : State) (m : MethodId) (args : Array Value) (below : List Frame) (meth : Method) (c : Code) (H : Heap) (locs : List Loc) (cells slots mc ms : Nat) (g : JFrame) (rest : List Value) (Qa : State → Outcome → State → Prop) (XC : String → State → State → Prop) (free : Addr → Prop) : Prop :=
  ∀ T : State, T.heap = H → Stand p l e R s m args below meth c T locs cells slots →
    (∃ (v : Option Value) (st₀ t T' : State) (L : List Loc), st₀.heap = H ∧ Stand p l e R s m args below meth c T' (locs ++ L) (cells + mc) (slots + ms) ∧ (∀ q ∈ L, free q.base) ∧ T'.heap = t.heap ∧ T'.vm = t.vm ∧ Qa st₀ (.returned v) t ∧
      Goes p e below T g T' { g with pc := g.pc + 3, stack := v.toList ++ rest }) ∨
    (∃ (q : Addr) (st₀ t T' : State) (L : List Loc) (E : String) (ce : Cell), st₀.heap = H ∧ Stand p l e R s m args below meth c T' (locs ++ L) (cells + mc) (slots + ms) ∧ (∀ z ∈ L, free z.base) ∧ T'.heap = t.heap ∧ T'.vm = t.vm ∧ XC E st₀ t ∧ t.heap[q]? = some ce ∧ ce.vm = .none ∧ s.vm.findClass E = some ce.cls ∧
      Steps p.tables e below (T.setTop g) ((T'.setTop { g with stack := rest }).pushFrame (.throwing q)))
def vx_X {S : Type} (px : S → Prop) (B : String → S → State → Prop) (A : Nat → Prop) : String → State → State → Prop := fun E st t => ∃ u : S, px u ∧ B E u t ∧ va_F A st t
section Runs
variable {p : Program} {l : Launch} {e : Env} {R : Room} {s : State} {m : MethodId} {args : Array Value} {below : List Frame} {meth : Method} {c : Code} {H : Heap} {locs : List Loc} {cells slots : Nat}
variable {y : MethodName} {bytes cc : ByteArray} {maxL nL mc ms n index : Nat} {ret : Option FieldType} {ws : List Cond} {rm : Room} {Pc : Array Value → State → Prop} {Qc : Array Value → State → Outcome → State → Prop} {XC : String → State → State → Prop} {free : Addr → Prop} {Ts : List Cond} {own C : String} {b : Addr} {As rest : List Value} {g : JFrame}
theorem vx_callBack (cb : CallB R s args own index y bytes maxL ret ws rm mc ms n) (hM : vx_Met l y ws rm Pc Qc XC mc ms free) (hbl : FrameBlind Pc) : vx_Back l R p e below s args y 3 8 (PreOf R mc ms Pc) (PostOf Qc mc ms free) (vx_Post XC mc ms free) := by
  obtain ⟨hrc, hrs, hfr, hlo, hws, hcw, -, hini, -⟩ := cb
  exact vx_back (bytes := bytes) (maxL := maxL) (ret := ret) hM hbl hrc hrs hfr hlo hws hcw (fun a' U hW => word_at hW (Or.inl (by first | rfl | simp [Cond.onTables, Cond.keeps, Cond.steady])) hini)
theorem vx_runV (S : CallFix p m c cc nL s args Ts own) (hM : vx_Met l y ws rm Pc Qc XC mc ms free) (cw : CallW R s args own C index y bytes maxL ret ws rm mc ms n) (hp : PreV s H C b Pc As)
    (hg : g.method = m) (hn : As.length = n) (hsize : g.locals.size = nL) (hstack : g.stack = As.reverse ++ .ref b :: rest) (hW : 2 * g.monitorRoom + (rest.map fun v => v.category).sum ≤ 8) (hdg : decode cc g.pc = .ok (.invokevirtual index, 3)) (hf : cells + mc ≤ R.cells ∧ slots + ms ≤ R.slots) :
    vx_Run p l e R s m args below meth c H locs cells slots mc ms g rest (Qc (Value.ref b :: As).toArray) XC free := by
  have hK : vx_Back l R p e below s args y 3 8 (PreOf R mc ms Pc) (PostOf Qc mc ms free) (vx_Post XC mc ms free) := vx_callBack cw.1 hM hp.1
  obtain ⟨⟨-, -, -, -, -, -, hcode, -, hy, hlen, hl⟩, hin, hse⟩ := cw
  obtain ⟨hx, hb, hml, ho, -⟩ := S
  obtain ⟨-, ⟨cellB, hcB, hoB, hclB⟩, hPc⟩ := hp
  intro T hT X
  rcases vx_callV X hx (C := C) (bytes := bytes) (maxL := maxL) (ret := ret) ho hl hin hse hcode hy hK (by rw [hT]; exact hcB) hoB hclB hg (hsize.trans hml.symm) (argsL := As) (rest := rest) (fun sig h => hn.trans (hlen sig h)) hstack hW (by rw [hb]; exact hdg)
    (fun vm₁ hW₁ => ⟨hf.1, hf.2, hPc (T.setVm vm₁) hT hW₁⟩) with ⟨v, vm₁, ⟨U', l2, c2, s2⟩, hW₁, X', ⟨g', mk, t, L, e1, e2, hq, h1, hL, h2, h3⟩, st⟩ | ⟨q, vm₁, ⟨U', l2, c2, s2⟩, hW₁, X', ⟨g', mk, t, L, E, ce, e1, e2, hq, hce, hcv, hcl, h1, hL, h2, h3⟩, st⟩
  · dsimp only [Pt.U, Pt.locs, Pt.cells, Pt.slots] at X' e1 e2 h1 h2 h3 st
    subst h1; subst h2; subst h3
    exact Or.inl ⟨v, (T.setVm vm₁).calling g' mk (Value.ref b :: As).toArray, t, U', L, hT, X', hL, e1, e2, hq, st⟩
  · dsimp only [Pt.U, Pt.locs, Pt.cells, Pt.slots] at X' e1 e2 h1 h2 h3 st hcl
    subst h1; subst h2; subst h3
    exact Or.inr ⟨q, (T.setVm vm₁).calling g' mk (Value.ref b :: As).toArray, t, U', L, E, ce, hT, X', hL, e1, e2, hq, hce, hcv, vx_cls hW₁ hcl, st⟩
theorem vx_runS (S : CallFix p m c cc nL s args Ts own) (hM : vx_Met l y ws rm Pc Qc XC mc ms free) (cw : CallB R s args own index y bytes maxL ret ws rm mc ms n ∧ (Cond.static y).before args s = true) (hp : PreS s H Pc As)
    (hg : g.method = m) (hn : As.length = n) (hsize : g.locals.size = nL) (hstack : g.stack = As.reverse ++ rest) (hW : 2 * g.monitorRoom + (rest.map fun v => v.category).sum ≤ 8) (hdg : decode cc g.pc = .ok (.invokestatic index, 3)) (hf : cells + mc ≤ R.cells ∧ slots + ms ≤ R.slots) :
    vx_Run p l e R s m args below meth c H locs cells slots mc ms g rest (Qc As.toArray) XC free := by
  have hK : vx_Back l R p e below s args y 3 8 (PreOf R mc ms Pc) (PostOf Qc mc ms free) (vx_Post XC mc ms free) := vx_callBack cw.1 hM hp.1
  obtain ⟨⟨-, -, -, -, -, -, hcode, hini, hy, hlen, hl⟩, hstt⟩ := cw
  obtain ⟨hx, hb, hml, ho, -⟩ := S
  intro T hT X
  rcases vx_callS X hx (bytes := bytes) (maxL := maxL) (ret := ret) ho hl hstt hini hcode hy hK hg (hsize.trans hml.symm) (argsL := As) (rest := rest) (fun sig h => hn.trans (hlen sig h)) hstack hW (by rw [hb]; exact hdg)
    (fun vm₁ hW₁ => ⟨hf.1, hf.2, hp.2 (T.setVm vm₁) hT hW₁⟩) with ⟨v, vm₁, ⟨U', l2, c2, s2⟩, hW₁, X', ⟨g', mk, t, L, e1, e2, hq, h1, hL, h2, h3⟩, st⟩ | ⟨q, vm₁, ⟨U', l2, c2, s2⟩, hW₁, X', ⟨g', mk, t, L, E, ce, e1, e2, hq, hce, hcv, hcl, h1, hL, h2, h3⟩, st⟩
  · dsimp only [Pt.U, Pt.locs, Pt.cells, Pt.slots] at X' e1 e2 h1 h2 h3 st
    subst h1; subst h2; subst h3
    exact Or.inl ⟨v, (T.setVm vm₁).calling g' mk As.toArray, t, U', L, hT, X', hL, e1, e2, hq, st⟩
  · dsimp only [Pt.U, Pt.locs, Pt.cells, Pt.slots] at X' e1 e2 h1 h2 h3 st hcl
    subst h1; subst h2; subst h3
    exact Or.inr ⟨q, (T.setVm vm₁).calling g' mk As.toArray, t, U', L, E, ce, hT, X', hL, e1, e2, hq, hce, hcv, vx_cls hW₁ hcl, st⟩
end Runs
section Rows
variable {p : Program} {l : Launch} {e : Env} {R : Room} {s : State} {m : MethodId} {args : Array Value} {below : List Frame} {meth : Method} {c : Code} {H : Heap} {locs : List Loc} {cells slots : Nat} {Q : State → Prop}
variable {mc ms : Nat} {free : Addr → Prop} {A0 A1 : Nat → Prop} {H0 : Heap} {a : Array Value} {pc : Nat} {ls : Array Slot} {st0 rest : List Value}
theorem vx_keep {st₀ t T' : State} {L : List Loc} (h0 : st₀.heap = H) (e1 : T'.heap = t.heap) (hS : va_S A0 H0 H locs) (hA : ∀ q, q < H.size → A1 q → A0 q) (hf : ∀ q, free q → A0 q) (hL : ∀ q ∈ L, free q.base) (hF : va_F A1 st₀ t) :
    H.size ≤ T'.heap.size ∧ (∀ q : Nat, q < H.size → ¬ A1 q → T'.heap[q]? = H[q]?) ∧ va_S A0 H0 T'.heap (locs ++ L) := by
  obtain ⟨hz, hk⟩ := hF
  rw [h0] at hz hk
  exact ⟨by rw [e1]; exact hz, fun q h1 h2 => by rw [e1]; exact hk q h1 h2,
    ⟨Nat.le_trans hS.1 (by rw [e1]; exact hz), fun q h1 h2 => by rw [e1, hk q (Nat.lt_of_lt_of_le h1 hS.1) (fun z => h2 (hA q (Nat.lt_of_lt_of_le h1 hS.1) z))]; exact hS.2.1 q h1 h2, fun q hq => by
      rcases List.mem_append.mp hq with h | h
      · exact hS.2.2 q h
      · exact hf _ (hL q h)⟩⟩
theorem vx_calli {S SX : Type} {post : Int32 → S → Prop} {px : SX → Prop} {B : S → State → Prop} {BX : String → SX → State → Prop} {AX : Nat → Prop} (hr : vx_Run p l e R s m args below meth c H locs cells slots mc ms (F0 m pc ls st0) rest (va_Qi post B A1 a) (vx_X px BX AX) free) (hS : va_S A0 H0 H locs) (hA : ∀ q, q < H.size → A1 q → A0 q) (hf : ∀ q, free q → A0 q) (hAX : ∀ q, q < H.size → AX q → A0 q)
    (kx : ∀ (E : String) (ce : Cell) (q9 : Addr) (u : SX) (t : State) (H1 : Heap) (locs1 : List Loc), t.heap = H1 → s.vm.Alike t.vm → px u → BX E u t → H.size ≤ H1.size → (∀ q : Nat, q < H.size → ¬ AX q → H1[q]? = H[q]?) → va_S A0 H0 H1 locs1 → H1[q9]? = some ce → ce.vm = .none → s.vm.findClass E = some ce.cls → vx_W p l e R s m args below meth c H1 locs1 (cells + mc) (slots + ms) Q (F0 m pc ls rest) q9)
    (kk : ∀ (r : Int32) (u : S) (t : State) (H1 : Heap) (locs1 : List Loc), t.heap = H1 → s.vm.Alike t.vm → post r u → B u t → H.size ≤ H1.size → (∀ q : Nat, q < H.size → ¬ A1 q → H1[q]? = H[q]?) → va_S A0 H0 H1 locs1 → W p l e R s m args below meth c H1 locs1 (cells + mc) (slots + ms) Q (F0 m (pc + 3) ls (.int r :: rest))) : W p l e R s m args below meth c H locs cells slots Q (F0 m pc ls st0) := by
  intro T hT X
  rcases hr T hT X with ⟨v, st₀, t, T', L, h0, X', hL, e1, e2, ⟨⟨r, u, hv, hp, hb⟩, hF⟩, st⟩ | ⟨q, st₀, t, T', L, E, ce, h0, X', hL, e1, e2, ⟨u, hp, hb, hF⟩, hce, hcv, hcl, st⟩
  · cases hv
    obtain ⟨k1, k2, k3⟩ := vx_keep h0 e1 hS hA hf hL hF
    obtain ⟨t2, a1, b1⟩ := kk r u t T'.heap (locs ++ L) e1.symm (by rw [← e2]; exact X'.warmed.alike) hp hb k1 k2 k3 T' rfl X'
    exact ⟨t2, st t2 a1, b1⟩
  · obtain ⟨k1, k2, k3⟩ := vx_keep h0 e1 hS hAX hf hL hF
    obtain ⟨t2, a1, b1⟩ := kx E ce q u t T'.heap (locs ++ L) e1.symm (by rw [← e2]; exact X'.warmed.alike) hp hb k1 k2 k3 (by rw [e1]; exact hce) hcv hcl T' rfl X'
    exact ⟨t2, st.trans a1, b1⟩
theorem vx_calll {S SX : Type} {post : Int64 → S → Prop} {px : SX → Prop} {B : S → State → Prop} {BX : String → SX → State → Prop} {AX : Nat → Prop} (hr : vx_Run p l e R s m args below meth c H locs cells slots mc ms (F0 m pc ls st0) rest (va_Ql post B A1 a) (vx_X px BX AX) free) (hS : va_S A0 H0 H locs) (hA : ∀ q, q < H.size → A1 q → A0 q) (hf : ∀ q, free q → A0 q) (hAX : ∀ q, q < H.size → AX q → A0 q)
    (kx : ∀ (E : String) (ce : Cell) (q9 : Addr) (u : SX) (t : State) (H1 : Heap) (locs1 : List Loc), t.heap = H1 → s.vm.Alike t.vm → px u → BX E u t → H.size ≤ H1.size → (∀ q : Nat, q < H.size → ¬ AX q → H1[q]? = H[q]?) → va_S A0 H0 H1 locs1 → H1[q9]? = some ce → ce.vm = .none → s.vm.findClass E = some ce.cls → vx_W p l e R s m args below meth c H1 locs1 (cells + mc) (slots + ms) Q (F0 m pc ls rest) q9)
    (kk : ∀ (r : Int64) (u : S) (t : State) (H1 : Heap) (locs1 : List Loc), t.heap = H1 → s.vm.Alike t.vm → post r u → B u t → H.size ≤ H1.size → (∀ q : Nat, q < H.size → ¬ A1 q → H1[q]? = H[q]?) → va_S A0 H0 H1 locs1 → W p l e R s m args below meth c H1 locs1 (cells + mc) (slots + ms) Q (F0 m (pc + 3) ls (.long r :: rest))) : W p l e R s m args below meth c H locs cells slots Q (F0 m pc ls st0) := by
  intro T hT X
  rcases hr T hT X with ⟨v, st₀, t, T', L, h0, X', hL, e1, e2, ⟨⟨r, u, hv, hp, hb⟩, hF⟩, st⟩ | ⟨q, st₀, t, T', L, E, ce, h0, X', hL, e1, e2, ⟨u, hp, hb, hF⟩, hce, hcv, hcl, st⟩
  · cases hv
    obtain ⟨k1, k2, k3⟩ := vx_keep h0 e1 hS hA hf hL hF
    obtain ⟨t2, a1, b1⟩ := kk r u t T'.heap (locs ++ L) e1.symm (by rw [← e2]; exact X'.warmed.alike) hp hb k1 k2 k3 T' rfl X'
    exact ⟨t2, st t2 a1, b1⟩
  · obtain ⟨k1, k2, k3⟩ := vx_keep h0 e1 hS hAX hf hL hF
    obtain ⟨t2, a1, b1⟩ := kx E ce q u t T'.heap (locs ++ L) e1.symm (by rw [← e2]; exact X'.warmed.alike) hp hb k1 k2 k3 (by rw [e1]; exact hce) hcv hcl T' rfl X'
    exact ⟨t2, st.trans a1, b1⟩
theorem vx_callf {S SX : Type} {post : UInt32 → S → Prop} {px : SX → Prop} {B : S → State → Prop} {BX : String → SX → State → Prop} {AX : Nat → Prop} (hr : vx_Run p l e R s m args below meth c H locs cells slots mc ms (F0 m pc ls st0) rest (va_Qf post B A1 a) (vx_X px BX AX) free) (hS : va_S A0 H0 H locs) (hA : ∀ q, q < H.size → A1 q → A0 q) (hf : ∀ q, free q → A0 q) (hAX : ∀ q, q < H.size → AX q → A0 q)
    (kx : ∀ (E : String) (ce : Cell) (q9 : Addr) (u : SX) (t : State) (H1 : Heap) (locs1 : List Loc), t.heap = H1 → s.vm.Alike t.vm → px u → BX E u t → H.size ≤ H1.size → (∀ q : Nat, q < H.size → ¬ AX q → H1[q]? = H[q]?) → va_S A0 H0 H1 locs1 → H1[q9]? = some ce → ce.vm = .none → s.vm.findClass E = some ce.cls → vx_W p l e R s m args below meth c H1 locs1 (cells + mc) (slots + ms) Q (F0 m pc ls rest) q9)
    (kk : ∀ (r : UInt32) (u : S) (t : State) (H1 : Heap) (locs1 : List Loc), t.heap = H1 → s.vm.Alike t.vm → post r u → B u t → H.size ≤ H1.size → (∀ q : Nat, q < H.size → ¬ A1 q → H1[q]? = H[q]?) → va_S A0 H0 H1 locs1 → W p l e R s m args below meth c H1 locs1 (cells + mc) (slots + ms) Q (F0 m (pc + 3) ls (.float r :: rest))) : W p l e R s m args below meth c H locs cells slots Q (F0 m pc ls st0) := by
  intro T hT X
  rcases hr T hT X with ⟨v, st₀, t, T', L, h0, X', hL, e1, e2, ⟨⟨r, u, hv, hp, hb⟩, hF⟩, st⟩ | ⟨q, st₀, t, T', L, E, ce, h0, X', hL, e1, e2, ⟨u, hp, hb, hF⟩, hce, hcv, hcl, st⟩
  · cases hv
    obtain ⟨k1, k2, k3⟩ := vx_keep h0 e1 hS hA hf hL hF
    obtain ⟨t2, a1, b1⟩ := kk r u t T'.heap (locs ++ L) e1.symm (by rw [← e2]; exact X'.warmed.alike) hp hb k1 k2 k3 T' rfl X'
    exact ⟨t2, st t2 a1, b1⟩
  · obtain ⟨k1, k2, k3⟩ := vx_keep h0 e1 hS hAX hf hL hF
    obtain ⟨t2, a1, b1⟩ := kx E ce q u t T'.heap (locs ++ L) e1.symm (by rw [← e2]; exact X'.warmed.alike) hp hb k1 k2 k3 (by rw [e1]; exact hce) hcv hcl T' rfl X'
    exact ⟨t2, st.trans a1, b1⟩
theorem vx_calld {S SX : Type} {post : UInt64 → S → Prop} {px : SX → Prop} {B : S → State → Prop} {BX : String → SX → State → Prop} {AX : Nat → Prop} (hr : vx_Run p l e R s m args below meth c H locs cells slots mc ms (F0 m pc ls st0) rest (va_Qd post B A1 a) (vx_X px BX AX) free) (hS : va_S A0 H0 H locs) (hA : ∀ q, q < H.size → A1 q → A0 q) (hf : ∀ q, free q → A0 q) (hAX : ∀ q, q < H.size → AX q → A0 q)
    (kx : ∀ (E : String) (ce : Cell) (q9 : Addr) (u : SX) (t : State) (H1 : Heap) (locs1 : List Loc), t.heap = H1 → s.vm.Alike t.vm → px u → BX E u t → H.size ≤ H1.size → (∀ q : Nat, q < H.size → ¬ AX q → H1[q]? = H[q]?) → va_S A0 H0 H1 locs1 → H1[q9]? = some ce → ce.vm = .none → s.vm.findClass E = some ce.cls → vx_W p l e R s m args below meth c H1 locs1 (cells + mc) (slots + ms) Q (F0 m pc ls rest) q9)
    (kk : ∀ (r : UInt64) (u : S) (t : State) (H1 : Heap) (locs1 : List Loc), t.heap = H1 → s.vm.Alike t.vm → post r u → B u t → H.size ≤ H1.size → (∀ q : Nat, q < H.size → ¬ A1 q → H1[q]? = H[q]?) → va_S A0 H0 H1 locs1 → W p l e R s m args below meth c H1 locs1 (cells + mc) (slots + ms) Q (F0 m (pc + 3) ls (.double r :: rest))) : W p l e R s m args below meth c H locs cells slots Q (F0 m pc ls st0) := by
  intro T hT X
  rcases hr T hT X with ⟨v, st₀, t, T', L, h0, X', hL, e1, e2, ⟨⟨r, u, hv, hp, hb⟩, hF⟩, st⟩ | ⟨q, st₀, t, T', L, E, ce, h0, X', hL, e1, e2, ⟨u, hp, hb, hF⟩, hce, hcv, hcl, st⟩
  · cases hv
    obtain ⟨k1, k2, k3⟩ := vx_keep h0 e1 hS hA hf hL hF
    obtain ⟨t2, a1, b1⟩ := kk r u t T'.heap (locs ++ L) e1.symm (by rw [← e2]; exact X'.warmed.alike) hp hb k1 k2 k3 T' rfl X'
    exact ⟨t2, st t2 a1, b1⟩
  · obtain ⟨k1, k2, k3⟩ := vx_keep h0 e1 hS hAX hf hL hF
    obtain ⟨t2, a1, b1⟩ := kx E ce q u t T'.heap (locs ++ L) e1.symm (by rw [← e2]; exact X'.warmed.alike) hp hb k1 k2 k3 (by rw [e1]; exact hce) hcv hcl T' rfl X'
    exact ⟨t2, st.trans a1, b1⟩
theorem vx_callv {S SX : Type} {post : S → Prop} {px : SX → Prop} {B : S → State → Prop} {BX : String → SX → State → Prop} {AX : Nat → Prop} (hr : vx_Run p l e R s m args below meth c H locs cells slots mc ms (F0 m pc ls st0) rest (va_Qv post B A1 a) (vx_X px BX AX) free) (hS : va_S A0 H0 H locs) (hA : ∀ q, q < H.size → A1 q → A0 q) (hf : ∀ q, free q → A0 q) (hAX : ∀ q, q < H.size → AX q → A0 q)
    (kx : ∀ (E : String) (ce : Cell) (q9 : Addr) (u : SX) (t : State) (H1 : Heap) (locs1 : List Loc), t.heap = H1 → s.vm.Alike t.vm → px u → BX E u t → H.size ≤ H1.size → (∀ q : Nat, q < H.size → ¬ AX q → H1[q]? = H[q]?) → va_S A0 H0 H1 locs1 → H1[q9]? = some ce → ce.vm = .none → s.vm.findClass E = some ce.cls → vx_W p l e R s m args below meth c H1 locs1 (cells + mc) (slots + ms) Q (F0 m pc ls rest) q9)
    (kk : ∀ (u : S) (t : State) (H1 : Heap) (locs1 : List Loc), t.heap = H1 → s.vm.Alike t.vm → post u → B u t → H.size ≤ H1.size → (∀ q : Nat, q < H.size → ¬ A1 q → H1[q]? = H[q]?) → va_S A0 H0 H1 locs1 → W p l e R s m args below meth c H1 locs1 (cells + mc) (slots + ms) Q (F0 m (pc + 3) ls (rest))) : W p l e R s m args below meth c H locs cells slots Q (F0 m pc ls st0) := by
  intro T hT X
  rcases hr T hT X with ⟨v, st₀, t, T', L, h0, X', hL, e1, e2, ⟨⟨u, hv, hp, hb⟩, hF⟩, st⟩ | ⟨q, st₀, t, T', L, E, ce, h0, X', hL, e1, e2, ⟨u, hp, hb, hF⟩, hce, hcv, hcl, st⟩
  · cases hv
    obtain ⟨k1, k2, k3⟩ := vx_keep h0 e1 hS hA hf hL hF
    obtain ⟨t2, a1, b1⟩ := kk u t T'.heap (locs ++ L) e1.symm (by rw [← e2]; exact X'.warmed.alike) hp hb k1 k2 k3 T' rfl X'
    exact ⟨t2, st t2 a1, b1⟩
  · obtain ⟨k1, k2, k3⟩ := vx_keep h0 e1 hS hAX hf hL hF
    obtain ⟨t2, a1, b1⟩ := kx E ce q u t T'.heap (locs ++ L) e1.symm (by rw [← e2]; exact X'.warmed.alike) hp hb k1 k2 k3 (by rw [e1]; exact hce) hcv hcl T' rfl X'
    exact ⟨t2, st.trans a1, b1⟩
/-- caught by the row x of this method's table; the rows ahead don't take it -/
theorem vx_catch {own name : String} {E : String} {ce : Cell} {q : Addr} (hown : s.vm.findClass own = some m.cls) (pre : List ExceptionTableEntry) (x : ExceptionTableEntry) (suf : List ExceptionTableEntry) (hsplit : c.exceptionTable.toList = pre ++ x :: suf)
    (hpass : ∀ z ∈ pre, covers z pc = false ∨ (z.catchType ≠ 0 ∧ ∃ nm : String, (Cond.classLink own z.catchType nm).before args s = true ∧ va_Nc E nm s)) (hx : covers x pc = true) (h0 : x.catchType ≠ 0)
    (hlink : (Cond.classLink own x.catchType name).before args s = true) (hcast : (Cond.castable E name).before args s = true) (hcell : H[q]? = some ce) (hv : ce.vm = .none) (hcl : s.vm.findClass E = some ce.cls)
    (kk : W p l e R s m args below meth c H locs cells slots Q (F0 m x.handlerPc ls [.ref q])) : vx_W p l e R s m args below meth c H locs cells slots Q (F0 m pc ls rest) q := by
  intro T hT X
  have hpl : e.platform.magicAccessors = ({} : Platform).magicAccessors := by rw [X.admits.platform]
  obtain ⟨c3, c4, hc3, hc4, hasg⟩ := Cond.castable_spec hcast
  cases Option.some.inj (hc3.symm.trans hcl)
  obtain ⟨c5, hc5, hcl5⟩ := Cond.classLink_spec hown hlink e.platform hpl
  cases Option.some.inj (hc4.symm.trans hc5)
  obtain ⟨vm', X', st⟩ := X.thenCaughtThrough q (g := F0 m pc ls rest) rfl (Steps.refl _) (by rw [hT]; exact hcell) (by rw [hv]; rfl) (by obtain ⟨k9, h9, -⟩ := Vm.findClass_spec hcl; exact ⟨k9, h9⟩) pre x suf hsplit
    (fun z hz => by
      rcases hpass z hz with h | ⟨hz0, nm, hl1, hn1⟩
      · exact Or.inl h
      · obtain ⟨c6, hc6, hcl6⟩ := Cond.classLink_spec hown hl1 e.platform hpl
        obtain ⟨a8, b8, h1, h2, h3⟩ := hn1
        cases Option.some.inj (h1.symm.trans hcl)
        cases Option.some.inj (h2.symm.trans hc6)
        exact Or.inr ⟨hz0, _, hcl6, h3⟩) hx (Or.inr ⟨h0, c4, hcl5, hasg⟩)
  obtain ⟨t, a1, b1⟩ := kk (T.setVm vm') hT X'
  exact ⟨t, st.trans a1, b1⟩
end Rows
section Ends
variable {p : Program} {l : Launch} {e : Env} {R : Room} {s : State} {m : MethodId} {args : Array Value} {below : List Frame} {meth : Method} {c : Code} {H : Heap} {locs : List Loc} {cells slots : Nat} {Q : State → Prop}
variable {mc ms : Nat} {free : Addr → Prop} {A0 A1 : Nat → Prop} {H0 : Heap} {a : Array Value} {ls : Array Slot} {st0 rest : List Value}
variable {Qc : Array Value → State → Outcome → State → Prop} {XC : String → State → State → Prop}
/-- what a body that may throw owes at its end -/
def vx_MQ (below : List Frame) (Qc : Array Value → State → Outcome → State → Prop) (XC : String → State → State → Prop) (a : Array Value) (s : State) (mc ms : Nat) (free : Addr → Prop) : State → Prop := fun t =>
  ∃ o, t.status = .running ∧ Ended t below o ∧ vx_Q Qc XC mc ms free a s o t
theorem vx_ret {g : JFrame} {mc ms : Nat} (k : W p l e R s m args below meth c H locs cells slots (MQ below Qc args s mc ms free) g) : W p l e R s m args below meth c H locs cells slots (vx_MQ below Qc XC args s mc ms free) g := by
  intro T hT X
  obtain ⟨t, a1, o, b1, b2, b3, b4⟩ := k T hT X
  exact ⟨t, a1, o, b1, b2, Or.inl ⟨b3, b4⟩⟩
/-- not caught here: it goes on to the caller -/
theorem vx_widen {g : JFrame} {q : Addr} {k n : Nat} (h1 : cells ≤ k) (h2 : slots ≤ n) (kk : vx_W p l e R s m args below meth c H locs k n Q g q) : vx_W p l e R s m args below meth c H locs cells slots Q g q := fun T hT X => kk T hT (stand_widen X h1 h2)
theorem vx_out {pc : Nat} {E : String} {ce : Cell} {q : Addr} {mc ms : Nat} (hout : ∀ x ∈ c.exceptionTable.toList, covers x pc = false) (hlocks : meth.locks = false) (hcell : H[q]? = some ce) (hv : ce.vm = .none) (hcl : s.vm.findClass E = some ce.cls)
    (hx : ∀ t : State, t.heap = H → s.vm.Alike t.vm → XC E s t) (hf : ∀ z ∈ locs, free z.base) (hc : cells ≤ mc) (hs : slots ≤ ms) :
    vx_W p l e R s m args below meth c H locs cells slots (vx_MQ below Qc XC args s mc ms free) (F0 m pc ls rest) q := by
  intro T hT X
  obtain ⟨st1, hrun, hend, hW, hsm⟩ := X.leaveThrown q (g := F0 m pc ls rest) rfl rfl rfl hout hlocks
  have hcell9 : (T.setFrames (.throwing q :: below)).heap[q]? = some ce := by
    show T.heap[q]? = some ce
    rw [hT]; exact hcell
  exact ⟨_, st1, .threw q, hrun, hend, Or.inr ⟨q, rfl, E, ce, locs, hx _ hT hW.alike, hcell9, hv, hcl, hW, hsm.mono hc hs, hf⟩⟩
theorem vx_frame {U : State} {k n : Nat} (h : s.sameButNew ({ U with vm := s.vm } : State) locs k n) : s.heap.size ≤ U.heap.size ∧ ∀ q : Nat, q < s.heap.size → (∀ z ∈ locs, z.base ≠ q) → U.heap[q]? = s.heap[q]? := by
  obtain ⟨-, h2, -, -, -, h6⟩ := h
  refine ⟨h2, fun q hq hz => ?_⟩
  obtain ⟨c9, e1, e2, e3, e4⟩ := h6 q _ (Array.getElem?_eq_getElem hq)
  have hs : c9.slots = (s.heap[q]).slots := Array.ext_getElem? fun i => e4 i fun hm => hz _ hm rfl
  have h9 : c9 = s.heap[q] := by
    rw [hs] at e2
    exact e2
  have e5 : U.heap[q]? = some c9 := e1
  rw [e5, h9, Array.getElem?_eq_getElem hq]
/-- the words of a throw but the four that speak of the heap -/
def vx_no (w : Cond) : Bool := decide (w ≠ .isRef (.static Bundle.tN "UNASSIGNED_STACK" Bundle.steD)) && decide (w ≠ .isRef (.static Bundle.tN "SUPPRESSED_SENTINEL" Bundle.listD)) && decide (w ≠ .laysStatic Bundle.tN "UNASSIGNED_STACK" Bundle.steD) && decide (w ≠ .laysStatic Bundle.tN "SUPPRESSED_SENTINEL" Bundle.listD)
def vx_at0 (own : String) (ic : Nat) (X : String) (names : List String) : List Cond := (Bundle.ownAtoms0 own ic X names).filter vx_no
def vx_atS (own : String) (ic : Nat) (X : String) (names : List String) : List Cond := (Bundle.ownAtoms own ic X names).filter vx_no
/-- a word that the tables alone decide, or a good one -/
def vx_ot (w : Cond) : Bool := w.onTables || goodWord w
theorem vx_ot_at {args a' : Array Value} {s U : State} {w : Cond} (hW : s.WarmedH U.vm) (hvm : s.vm = U.vm) (hg : vx_ot w = true) (h : w.before args s = true) : w.before a' U = true := by
  simp only [vx_ot, Bool.or_eq_true] at hg
  rcases hg with hg | hg
  · exact va_tabs hg hvm h
  · exact word_at hW (good_of_word hg) h
/-- a list's words: the good ones out of the method's own list, the others by premises of their own -/
theorem vx_hat {args : Array Value} {s : State} {L B : List Cond} (h1 : ∀ w ∈ L.filter goodWord, w.before args s = true) (h2 : ∀ w ∈ L.filter (fun w => !goodWord w), w ∈ B) (h3 : ∀ w ∈ B, w.before args s = true) : ∀ w ∈ L, w.before args s = true := by
  intro w hw
  by_cases g : goodWord w = true
  · exact h1 w (List.mem_filter.mpr ⟨hw, g⟩)
  · refine h3 w (h2 w (List.mem_filter.mpr ⟨hw, ?_⟩))
    show (!goodWord w) = true
    cases hgw : goodWord w
    · rfl
    · exact absurd hgw g
theorem vx_c {args : Array Value} {s : State} {w : Cond} {B : List Cond} (h : w.before args s = true) (t : ∀ w ∈ B, w.before args s = true) : ∀ w' ∈ w :: B, w'.before args s = true := fun w' h' => (List.mem_cons.mp h').elim (fun e => by rw [e]; exact h) (t w')
theorem vx_n {args : Array Value} {s : State} : ∀ w ∈ ([] : List Cond), w.before args s = true := fun _ h => nomatch h
theorem vx_own {args : Array Value} {s : State} {L : List Cond} (h1 : ∀ w ∈ L.filter vx_no, w.before args s = true)
    (hU : (Cond.isRef (.static Bundle.tN "UNASSIGNED_STACK" Bundle.steD)).before args s = true) (hN : (Cond.isRef (.static Bundle.tN "SUPPRESSED_SENTINEL" Bundle.listD)).before args s = true)
    (lU : (Cond.laysStatic Bundle.tN "UNASSIGNED_STACK" Bundle.steD).before args s = true) (lN : (Cond.laysStatic Bundle.tN "SUPPRESSED_SENTINEL" Bundle.listD).before args s = true) : ∀ w ∈ L, w.before args s = true := by
  intro w hw
  by_cases e1 : w = .isRef (.static Bundle.tN "UNASSIGNED_STACK" Bundle.steD)
  · rw [e1]; exact hU
  · by_cases e2 : w = .isRef (.static Bundle.tN "SUPPRESSED_SENTINEL" Bundle.listD)
    · rw [e2]; exact hN
    · by_cases e3 : w = .laysStatic Bundle.tN "UNASSIGNED_STACK" Bundle.steD
      · rw [e3]; exact lU
      · by_cases e4 : w = .laysStatic Bundle.tN "SUPPRESSED_SENTINEL" Bundle.listD
        · rw [e4]; exact lN
        · exact h1 w (List.mem_filter.mpr ⟨hw, by unfold vx_no; rw [decide_eq_true e1, decide_eq_true e2, decide_eq_true e3, decide_eq_true e4]; rfl⟩)
/-- where a static field lies, its class's statics cell in H -/
def vx_L (C n d : String) (A : Nat → Prop) (U : State) (H : Heap) : Prop := ∃ (c : ClassId) (k : Class) (i : Nat) (f : Field) (a : Nat) (cell : Cell), U.vm.findClass C = some c ∧ U.fieldFound? C n d = some (c, k, i, f) ∧ f.isStatic = true ∧ k.statics = some a ∧ H[a]? = some cell ∧ cell.vm.isStatics = true ∧ cell.cls = c ∧ f.slot < cell.slots.size ∧ k.staticTypes[f.slot]? = some f.type ∧ ¬ A a
theorem vx_L.moved {C n d : String} {A : Nat → Prop} {u U : State} {H : Heap} (hvm : u.vm.Alike U.vm) (h : vx_L C n d A u H) : vx_L C n d A U H := by
  obtain ⟨c, k, i, f, a, cell, h1, h2, h3, h4, h5, h6, h7, h8, h9, h10⟩ := h
  obtain ⟨k', hi', he⟩ := State.fieldFound?_setVm hvm h2
  exact ⟨c, k', i, f, a, cell, by rw [hvm.findClass]; exact h1, hi', h3, by rw [he]; exact h4, h5, h6, h7, h8, by rw [he]; exact h9, h10⟩
theorem vx_L.kept {C n d : String} {A : Nat → Prop} {U : State} {H H1 : Heap} (h : vx_L C n d A U H) (hq : ∀ a : Nat, a < H.size → ¬ A a → H1[a]? = H[a]?) : vx_L C n d A U H1 := by
  obtain ⟨c, k, i, f, a, cell, h1, h2, h3, h4, h5, h6, h7, h8, h9, h10⟩ := h
  exact ⟨c, k, i, f, a, cell, h1, h2, h3, h4, by rw [hq a (Array.getElem?_eq_some_iff.mp h5).1 h10]; exact h5, h6, h7, h8, h9, h10⟩
theorem vx_L.narrow {C n d : String} {A B : Nat → Prop} {U : State} {H : Heap} (h : vx_L C n d A U H) (hAB : ∀ q, B q → A q) : vx_L C n d B U H := by
  obtain ⟨c, k, i, f, a, cell, h1, h2, h3, h4, h5, h6, h7, h8, h9, h10⟩ := h
  exact ⟨c, k, i, f, a, cell, h1, h2, h3, h4, h5, h6, h7, h8, h9, fun z => h10 (hAB _ z)⟩
theorem vx_L.word {C n d : String} {A : Nat → Prop} {s : State} {args : Array Value} (h : vx_L C n d A s s.heap) : (Cond.laysStatic C n d).before args s = true := by
  obtain ⟨c, k, i, f, a, cell, h1, h2, h3, h4, h5, h6, h7, h8, h9, -⟩ := h
  show (Cond.laysStatic C n d).holds args s none s [] = true
  exact Cond.laysStatic_of h1 h2 h3 h4 h5 h6 h7 h8 h9
/-- .. and what it holds: null or some reference -/
def vx_Zq (C n d : String) (A : Nat → Prop) (U : State) (H : Heap) : Prop := va_Zq C n d A U H ∧ vx_L C n d A U H
theorem vx_Zq.moved {C n d : String} {A : Nat → Prop} {u U : State} {H : Heap} (hvm : u.vm.Alike U.vm) (h : vx_Zq C n d A u H) : vx_Zq C n d A U H := ⟨va_Zq.moved hvm h.1, vx_L.moved hvm h.2⟩
theorem vx_Zq.kept {C n d : String} {A : Nat → Prop} {U : State} {H H1 : Heap} (h : vx_Zq C n d A U H) (hq : ∀ a : Nat, a < H.size → ¬ A a → H1[a]? = H[a]?) : vx_Zq C n d A U H1 := ⟨va_Zq.kept h.1 hq, vx_L.kept h.2 hq⟩
theorem vx_Zq.narrow {C n d : String} {A B : Nat → Prop} {U : State} {H : Heap} (h : vx_Zq C n d A U H) (hAB : ∀ q, B q → A q) : vx_Zq C n d B U H := ⟨va_Zq.narrow h.1 hAB, vx_L.narrow h.2 hAB⟩
theorem vx_Zqof {args : Array Value} {s : State} {C n d : String} {A : Nat → Prop} (hl : (Cond.laysStatic C n d).before args s = true) (hini : (Cond.initialized C).before args s = true) (h : (Cond.isRef (.static C n d)).before args s = true) (hA : ∀ a : Nat, a < s.heap.size → ¬ A a) : vx_Zq C n d A s s.heap := by
  refine ⟨va_Zqof hl hini h hA, ?_⟩
  obtain ⟨c, k, i, f, a, cell, h1, h2, h3, h4, h5, h6, h7, h8, h9⟩ := Cond.laysStatic_spec hl
  exact ⟨c, k, i, f, a, cell, h1, h2, h3, h4, h5, h6, h7, h8, h9, hA a (Array.getElem?_eq_some_iff.mp h5).1⟩
theorem vx_isRef {C n d : String} {v : Value} {A : Nat → Prop} {s : State} {args : Array Value} (h : va_Z C n d v A s s.heap) (hv : v.isRef = true) : (Cond.isRef (.static C n d)).before args s = true := by
  obtain ⟨cf, kf, fi, f, a, cell, h1, h2, h3, h4, h5, h6, h7, -⟩ := h
  have he : (Term.static C n d).eval args s none [] s = some v := by
    simp [Term.eval, State.fieldNamed?, h1, h2, h4, h5, h6, h7]
  simp only [Cond.before, Cond.holds, Cond.value, he]
  cases v <;> simp_all [Value.isRef]
theorem vx_isRefq {C n d : String} {A : Nat → Prop} {s : State} {args : Array Value} (h : va_Zq C n d A s s.heap) : (Cond.isRef (.static C n d)).before args s = true := by
  rcases h with h | ⟨t, h⟩
  · exact vx_isRef h rfl
  · exact vx_isRef h rfl
/-- the same frame, seen from here: as if the method were called anew in this heap -/
theorem vx_rebase {T : State} (X : Stand p l e R s m args below meth c T locs cells slots) {R' : Room} (hf : R'.frames ≤ R.frames) (hl : R'.locals ≤ R.locals) (hc : cells + R'.cells ≤ R.cells) (hs : slots + R'.slots ≤ R.slots) :
    Stand p l e R' ((T.setVm s.vm).setFrames (.invoking m args :: below)) m args below meth c T [] 0 0 := by
  have htop : (T.setVm s.vm).topJava?.isSome := X.here.top
  have hF : ((T.setVm s.vm).setFrames (.invoking m args :: below)).frames = .invoking m args :: below := State.frames_setFrames _ (State.cur_lt_of_top htop)
  obtain ⟨g₀, hg0⟩ := Option.isSome_iff_exists.mp htop
  obtain ⟨r, hr⟩ := State.topJava?_eq_some.mp hg0
  have hl9 : e.platform.stackLimits (T.setVm s.vm).me = e.platform.stackLimits s.me := X.limits
  have hb9 : (T.setVm s.vm).me.stackBytes = s.me.stackBytes := X.bytes
  refine ⟨X.admits, X.cas, X.clock, hF, ?_, X.hears, X.method, X.code, X.here, X.tail, X.warmed, ?_, ?_, ?_⟩
  · have h := X.room
    have hU : ((T.setVm s.vm).setFrames (.invoking m args :: below)).localsInUse = s.localsInUse := by
      rw [State.localsInUse_invoking hF (meth := meth) (c := c) X.method X.code, State.localsInUse_invoking X.frames X.method X.code]
    simp only [State.hasRoom, Bool.and_eq_true, decide_eq_true_eq] at h ⊢
    obtain ⟨⟨⟨⟨h1, h2, h3, h4, h5, h6⟩, h7⟩, h8⟩, h9⟩ := h
    rw [X.frames, List.length_cons] at h2 h3
    have q1 := X.heapSize
    have q2 := X.used
    simp only [hF, hU, List.length_cons, State.stackLimits_setFrames, State.stackBytes_setFrames, hl9, hb9]
    refine ⟨⟨⟨⟨by omega, by omega, by omega, by omega, by omega, h6⟩, ?_⟩, ?_⟩, X.book⟩
    · show T.heap.size + R'.cells ≤ e.platform.maxCells
      omega
    · show T.slotsUsed + R'.slots ≤ e.platform.maxSlots
      omega
  · rw [State.stackLimits_setFrames]; rfl
  · rw [State.stackBytes_setFrames]; rfl
  · refine ⟨?_, Nat.le_refl _, Nat.le_refl _, ?_, ?_, fun a c9 h9 => ⟨c9, h9, rfl, rfl, fun _ _ => rfl⟩⟩
    · obtain ⟨t, ht, -⟩ := State.frames_cons hr
      show T.setVm s.vm = { ((T.setVm s.vm).setFrames (.invoking m args :: below)).setFrames (T.setVm s.vm).frames with heap := T.heap, slotsUsed := T.slotsUsed }
      rw [State.setFrames_setFrames, State.setFrames_self ht]
      rfl
    · show T.slotsUsed = T.slotsUsed + ((T.heap.toList.drop T.heap.size).map (·.slots.size)).sum
      rw [List.drop_eq_nil_of_le (Nat.le_of_eq Array.length_toList)]
      rfl
    · show ((T.heap.toList.drop T.heap.size).map (·.slots.size)).sum ≤ 0
      rw [List.drop_eq_nil_of_le (Nat.le_of_eq Array.length_toList)]
      exact Nat.le_refl _
/-- 'throw new E()': new; dup; invokespecial; athrow -/
theorem vx_throw0 {cc : ByteArray} {pc : Nat} (hexec : p.tables.exec = Jvm.exec) (hb : c.code = cc) (hl : l.stackTraces = false) {own cls : String} {names : List String} {ik ic mc ms : Nat} {A : Nat → Prop}
    (hown : s.vm.findClass own = some m.cls) (hcls : Bundle.fit cls = true) (hnames : ∀ n ∈ names, Bundle.fit n = true)
    (hk : (Cond.classLink own ik cls).before args s = true) (hini : (Cond.initialized cls).before args s = true) (hat : ∀ w ∈ vx_at0 own ic cls names, w.before args s = true)
    (hgood : ∀ w ∈ Cond.classLink own ik cls :: Cond.initialized cls :: vx_at0 own ic cls names, vx_ot w = true)
    (hU : vx_Zq Bundle.tN "UNASSIGNED_STACK" Bundle.steD A s s.heap) (hN : vx_Zq Bundle.tN "SUPPRESSED_SENTINEL" Bundle.listD A s s.heap) (hS : va_S A s.heap H locs) (hsize : ls.size = c.maxLocals)
    (d0 : decode cc pc = .ok (.new ik, 3)) (d3 : decode cc (pc + 3) = .ok (.dup, 1)) (d4 : decode cc (pc + 4) = .ok (.invokespecial ic, 3)) (d7 : decode cc (pc + 7) = .ok (.athrow, 1))
    (hout : ∀ x ∈ c.exceptionTable.toList, covers x (pc + 7) = false)
    (hRframes : names.length + 3 < R.frames) (hRlocals : (rest.map fun v => v.category).sum + (13 * (names.length + 1) + 42) ≤ R.locals) (hRcells : cells + 1 ≤ R.cells) (hRslots : slots + 6 ≤ R.slots) (hlocks : meth.locks = false)
    (hx : ∀ t : State, s.vm.Alike t.vm → H.size ≤ t.heap.size → (∀ q : Nat, q < H.size → t.heap[q]? = H[q]?) → XC cls s t)
    (hf : ∀ z ∈ locs, free z.base) (hc : cells + 1 ≤ mc) (hs : slots + 6 ≤ ms) :
    W p l e R s m args below meth c H locs cells slots (vx_MQ below Qc XC args s mc ms free) (F0 m pc ls rest) := by
  intro T hT X
  have htr : e.platform.stackTraces = false := (show e.platform.stackTraces = l.stackTraces by rw [X.admits.platform]).trans hl
  have Y := vx_rebase X (R' := { frames := R.frames, locals := R.locals, cells := 1, slots := 6 }) (Nat.le_refl _) (Nat.le_refl _) hRcells hRslots
  obtain ⟨s', hA⟩ : ∃ z, z = (T.setVm s.vm).setFrames (.invoking m args :: below) := ⟨_, rfl⟩
  rw [← hA] at Y
  have hvm : s'.vm = s.vm := by rw [hA]; rfl
  have hhp : s'.heap = H := by rw [hA]; exact hT
  have hW0 : s.WarmedH s'.vm := by rw [hvm]; exact State.WarmedH.refl s
  have hat' : ∀ w ∈ vx_at0 own ic cls names, w.before args s' = true := fun w hw => vx_ot_at hW0 hvm.symm (hgood w (List.mem_cons_of_mem _ (List.mem_cons_of_mem _ hw))) (hat w hw)
  have hk' : (Cond.classLink own ik cls).before args s' = true := vx_ot_at hW0 hvm.symm (hgood _ List.mem_cons_self) hk
  have hini' : (Cond.initialized cls).before args s' = true := vx_ot_at hW0 hvm.symm (hgood _ (List.mem_cons_of_mem _ List.mem_cons_self)) hini
  have hU' : vx_Zq Bundle.tN "UNASSIGNED_STACK" Bundle.steD A s' s'.heap := by rw [hhp]; exact vx_Zq.moved hW0.alike (hU.kept hS.2.1)
  have hN' : vx_Zq Bundle.tN "SUPPRESSED_SENTINEL" Bundle.listD A s' s'.heap := by rw [hhp]; exact vx_Zq.moved hW0.alike (hN.kept hS.2.1)
  have h : ∀ w ∈ Bundle.ownAtoms0 own ic cls names, w.before args s' = true := vx_own hat' (vx_isRefq hU'.1) (vx_isRefq hN'.1) hU'.2.word hN'.2.word
  have hown' : s'.vm.findClass own = some m.cls := by rw [hvm]; exact hown
  have hins : (Cond.instantiable cls 6).before args s' = true := h _ (by simp [Bundle.ownAtoms0])
  obtain ⟨vm₁, cX, kX, hfX, hkX, -, -, X₁, st1⟩ := Y.newCold hexec (own := own) (C := cls) (index := ik) (n := 6) hown' hk' hins hini'
    (g := F0 m pc ls rest) rfl (by rw [hb]; exact d0) (Nat.le_refl _) (Nat.le_refl _)
  generalize hT1 : (T.setVm vm₁).pushCell { cls := cX, slots := kX.instanceTypes.map defaultValue, vm := .none } = T1 at X₁ st1
  have hcat : (Value.ref T.heap.size).category = 1 := rfl
  have hcellA : T1.heap[T.heap.size]? = some (freshCell cX kX) := by rw [← hT1]; exact State.heap_pushCell_size _ _
  have d3' : decode c.code (pc + 3) = .ok (.dup, 1) := by rw [hb]; exact d3
  obtain ⟨U, hsteps, hrun, hend, hW, hsame, ce, hce, hO⟩ := X₁.ctorThrow0 hexec htr (own := own) (cls := cls) (names := names) (ic := ic) hown' hcls hnames h (fun x hx => nomatch hx) hfX hkX hcellA (by rw [hhp, hT]; exact Nat.le_refl _)
    (g := { method := m, pc := pc + 4, locals := ls, stack := .ref T.heap.size :: .ref T.heap.size :: rest, locked := none }) rfl hsize rfl rfl (rest := rest) rfl
    (by rw [hb]; exact d4) (by rw [hb]; exact d7) hout hRframes (by simp only [List.map_cons, List.sum_cons, hcat]; omega) hlocks
  obtain ⟨f1, f2⟩ := vx_frame hsame
  rw [hhp] at f1 f2
  have hWs : s.WarmedH U.vm := State.WarmedH.trans hW0 hW
  have hcl : s.vm.findClass cls = some ce.cls := by
    have h9 := hO.cls
    rw [hvm] at h9
    exact h9
  have hall : s.sameButNew ({ U with vm := s.vm } : State) locs mc ms := by
    subst hA
    obtain ⟨e1, e2⟩ := hsame
    rw [State.setFrames_setFrames] at e1
    have h2 : (T.setVm s.vm).sameButNew ({ U with vm := s.vm } : State) [] (0 + 1) (0 + 6) := ⟨e1, e2⟩
    have h3 := X.same.trans h2
    rw [List.append_nil] at h3
    exact h3.mono hc hs
  refine ⟨U, ?_, .threw T.heap.size, hrun, hend, Or.inr ⟨T.heap.size, rfl, cls, ce, locs, hx U hWs.alike f1 (fun q hq => f2 q hq (fun z hz => nomatch hz)), hce, hO.vm, hcl, hWs, hall, hf⟩⟩
  refine st1 _ ?_
  show Steps p.tables e below (T1.setTop { method := m, pc := pc + 3, locals := ls, stack := .ref T.heap.size :: rest, locked := none }) _
  jvm_step X₁.here [X₁.here.top, hexec, d3', Value.category]
  exact hsteps
/-- 'throw new E("text")': new; dup; ldc; invokespecial; athrow -/
theorem vx_throwS {cc : ByteArray} {pc : Nat} (hexec : p.tables.exec = Jvm.exec) (hb : c.code = cc) (hl : l.stackTraces = false) {own cls text : String} {names : List String} {ik is ic mc ms sa : Nat} {A : Nat → Prop}
    (hown : s.vm.findClass own = some m.cls) (hcls : Bundle.fit cls = true) (hnames : ∀ n ∈ names, Bundle.fit n = true)
    (hk : (Cond.classLink own ik cls).before args s = true) (hini : (Cond.initialized cls).before args s = true) (hstr : vk_R own is text sa s) (hat : ∀ w ∈ vx_atS own ic cls names, w.before args s = true)
    (hgood : ∀ w ∈ Cond.classLink own ik cls :: Cond.initialized cls :: vx_atS own ic cls names, vx_ot w = true)
    (hU : vx_Zq Bundle.tN "UNASSIGNED_STACK" Bundle.steD A s s.heap) (hN : vx_Zq Bundle.tN "SUPPRESSED_SENTINEL" Bundle.listD A s s.heap) (hS : va_S A s.heap H locs) (hsize : ls.size = c.maxLocals)
    (d0 : decode cc pc = .ok (.new ik, 3)) (d3 : decode cc (pc + 3) = .ok (.dup, 1)) (d4 : decode cc (pc + 4) = .ok (.ldc is, 2)) (d6 : decode cc (pc + 6) = .ok (.invokespecial ic, 3)) (d9 : decode cc (pc + 9) = .ok (.athrow, 1))
    (hout : ∀ x ∈ c.exceptionTable.toList, covers x (pc + 9) = false)
    (hRframes : names.length + 3 < R.frames) (hRlocals : (rest.map fun v => v.category).sum + (13 * (names.length + 1) + 43) ≤ R.locals) (hRcells : cells + 1 ≤ R.cells) (hRslots : slots + 6 ≤ R.slots) (hlocks : meth.locks = false)
    (hx : ∀ t : State, s.vm.Alike t.vm → H.size ≤ t.heap.size → (∀ q : Nat, q < H.size → t.heap[q]? = H[q]?) → XC cls s t)
    (hf : ∀ z ∈ locs, free z.base) (hc : cells + 1 ≤ mc) (hs : slots + 6 ≤ ms) :
    W p l e R s m args below meth c H locs cells slots (vx_MQ below Qc XC args s mc ms free) (F0 m pc ls rest) := by
  intro T hT X
  have htr : e.platform.stackTraces = false := (show e.platform.stackTraces = l.stackTraces by rw [X.admits.platform]).trans hl
  have Y := vx_rebase X (R' := { frames := R.frames, locals := R.locals, cells := 1, slots := 6 }) (Nat.le_refl _) (Nat.le_refl _) hRcells hRslots
  obtain ⟨s', hA⟩ : ∃ z, z = (T.setVm s.vm).setFrames (.invoking m args :: below) := ⟨_, rfl⟩
  rw [← hA] at Y
  have hvm : s'.vm = s.vm := by rw [hA]; rfl
  have hhp : s'.heap = H := by rw [hA]; exact hT
  have hW0 : s.WarmedH s'.vm := by rw [hvm]; exact State.WarmedH.refl s
  have hat' : ∀ w ∈ vx_atS own ic cls names, w.before args s' = true := fun w hw => vx_ot_at hW0 hvm.symm (hgood w (List.mem_cons_of_mem _ (List.mem_cons_of_mem _ hw))) (hat w hw)
  have hk' : (Cond.classLink own ik cls).before args s' = true := vx_ot_at hW0 hvm.symm (hgood _ List.mem_cons_self) hk
  have hini' : (Cond.initialized cls).before args s' = true := vx_ot_at hW0 hvm.symm (hgood _ (List.mem_cons_of_mem _ List.mem_cons_self)) hini
  have hU' : vx_Zq Bundle.tN "UNASSIGNED_STACK" Bundle.steD A s' s'.heap := by rw [hhp]; exact vx_Zq.moved hW0.alike (hU.kept hS.2.1)
  have hN' : vx_Zq Bundle.tN "SUPPRESSED_SENTINEL" Bundle.listD A s' s'.heap := by rw [hhp]; exact vx_Zq.moved hW0.alike (hN.kept hS.2.1)
  have h : ∀ w ∈ Bundle.ownAtoms own ic cls names, w.before args s' = true := vx_own hat' (vx_isRefq hU'.1) (vx_isRefq hN'.1) hU'.2.word hN'.2.word
  have hown' : s'.vm.findClass own = some m.cls := by rw [hvm]; exact hown
  have hins : (Cond.instantiable cls 6).before args s' = true := h _ (by simp [Bundle.ownAtoms])
  obtain ⟨vm₁, cX, kX, hfX, hkX, -, -, X₁, st1⟩ := Y.newCold hexec (own := own) (C := cls) (index := ik) (n := 6) hown' hk' hins hini'
    (g := F0 m pc ls rest) rfl (by rw [hb]; exact d0) (Nat.le_refl _) (Nat.le_refl _)
  generalize hT1 : (T.setVm vm₁).pushCell { cls := cX, slots := kX.instanceTypes.map defaultValue, vm := .none } = T1 at X₁ st1
  have hcat : (Value.ref T.heap.size).category = 1 := rfl
  have hcellA : T1.heap[T.heap.size]? = some (freshCell cX kX) := by rw [← hT1]; exact State.heap_pushCell_size _ _
  have d3' : decode c.code (pc + 3) = .ok (.dup, 1) := by rw [hb]; exact d3
  have d4' : decode c.code (pc + 4) = .ok (.ldc is, 2) := by rw [hb]; exact d4
  have hstr' : vk_R own is text sa s' := vk_R.warm hW0 hstr
  obtain ⟨U, hsteps, hrun, hend, hW, hsame, ce, hce, hO⟩ := X₁.ctorThrowS hexec htr (own := own) (cls := cls) (names := names) (ic := ic) hown' hcls hnames h (fun x hx => nomatch hx) hfX hkX hcellA (by rw [hhp, hT]; exact Nat.le_refl _) (msg := .ref sa) rfl
    (g := { method := m, pc := pc + 6, locals := ls, stack := .ref sa :: .ref T.heap.size :: .ref T.heap.size :: rest, locked := none }) rfl hsize rfl rfl (rest := rest) rfl
    (by rw [hb]; exact d6) (by rw [hb]; exact d9) hout hRframes (by simp only [List.map_cons, List.sum_cons, hcat]; omega) hlocks
  obtain ⟨f1, f2⟩ := vx_frame hsame
  rw [hhp] at f1 f2
  have hWs : s.WarmedH U.vm := State.WarmedH.trans hW0 hW
  have hcl : s.vm.findClass cls = some ce.cls := by
    have h9 := hO.cls
    rw [hvm] at h9
    exact h9
  have hall : s.sameButNew ({ U with vm := s.vm } : State) locs mc ms := by
    subst hA
    obtain ⟨e1, e2⟩ := hsame
    rw [State.setFrames_setFrames] at e1
    have h2 : (T.setVm s.vm).sameButNew ({ U with vm := s.vm } : State) [] (0 + 1) (0 + 6) := ⟨e1, e2⟩
    have h3 := X.same.trans h2
    rw [List.append_nil] at h3
    exact h3.mono hc hs
  refine ⟨U, ?_, .threw T.heap.size, hrun, hend, Or.inr ⟨T.heap.size, rfl, cls, ce, locs, hx U hWs.alike f1 (fun q hq => f2 q hq (fun z hz => nomatch hz)), hce, hO.vm, hcl, hWs, hall, hf⟩⟩
  refine st1 _ ?_
  show Steps p.tables e below (T1.setTop { method := m, pc := pc + 3, locals := ls, stack := .ref T.heap.size :: rest, locked := none }) _
  jvm_step X₁.here [X₁.here.top, hexec, d3', Value.category]
  exact X₁.ldcString hexec (own := own) (text := text) (index := is) (a := sa) hown' hstr'.1 hstr'.2
    (g := { method := m, pc := pc + 4, locals := ls, stack := .ref T.heap.size :: .ref T.heap.size :: rest, locked := none }) rfl d4' _ hsteps
/-- 'throw new E("text")', the text by a wide index -/
theorem vx_throwSW {cc : ByteArray} {pc : Nat} (hexec : p.tables.exec = Jvm.exec) (hb : c.code = cc) (hl : l.stackTraces = false) {own cls text : String} {names : List String} {ik is ic mc ms sa : Nat} {A : Nat → Prop}
    (hown : s.vm.findClass own = some m.cls) (hcls : Bundle.fit cls = true) (hnames : ∀ n ∈ names, Bundle.fit n = true)
    (hk : (Cond.classLink own ik cls).before args s = true) (hini : (Cond.initialized cls).before args s = true) (hstr : vk_R own is text sa s) (hat : ∀ w ∈ vx_atS own ic cls names, w.before args s = true)
    (hgood : ∀ w ∈ Cond.classLink own ik cls :: Cond.initialized cls :: vx_atS own ic cls names, vx_ot w = true)
    (hU : vx_Zq Bundle.tN "UNASSIGNED_STACK" Bundle.steD A s s.heap) (hN : vx_Zq Bundle.tN "SUPPRESSED_SENTINEL" Bundle.listD A s s.heap) (hS : va_S A s.heap H locs) (hsize : ls.size = c.maxLocals)
    (d0 : decode cc pc = .ok (.new ik, 3)) (d3 : decode cc (pc + 3) = .ok (.dup, 1)) (d4 : decode cc (pc + 4) = .ok (.ldc_w is, 3)) (d7 : decode cc (pc + 7) = .ok (.invokespecial ic, 3)) (d10 : decode cc (pc + 10) = .ok (.athrow, 1))
    (hout : ∀ x ∈ c.exceptionTable.toList, covers x (pc + 10) = false)
    (hRframes : names.length + 3 < R.frames) (hRlocals : (rest.map fun v => v.category).sum + (13 * (names.length + 1) + 43) ≤ R.locals) (hRcells : cells + 1 ≤ R.cells) (hRslots : slots + 6 ≤ R.slots) (hlocks : meth.locks = false)
    (hx : ∀ t : State, s.vm.Alike t.vm → H.size ≤ t.heap.size → (∀ q : Nat, q < H.size → t.heap[q]? = H[q]?) → XC cls s t)
    (hf : ∀ z ∈ locs, free z.base) (hc : cells + 1 ≤ mc) (hs : slots + 6 ≤ ms) :
    W p l e R s m args below meth c H locs cells slots (vx_MQ below Qc XC args s mc ms free) (F0 m pc ls rest) := by
  intro T hT X
  have htr : e.platform.stackTraces = false := (show e.platform.stackTraces = l.stackTraces by rw [X.admits.platform]).trans hl
  have Y := vx_rebase X (R' := { frames := R.frames, locals := R.locals, cells := 1, slots := 6 }) (Nat.le_refl _) (Nat.le_refl _) hRcells hRslots
  obtain ⟨s', hA⟩ : ∃ z, z = (T.setVm s.vm).setFrames (.invoking m args :: below) := ⟨_, rfl⟩
  rw [← hA] at Y
  have hvm : s'.vm = s.vm := by rw [hA]; rfl
  have hhp : s'.heap = H := by rw [hA]; exact hT
  have hW0 : s.WarmedH s'.vm := by rw [hvm]; exact State.WarmedH.refl s
  have hat' : ∀ w ∈ vx_atS own ic cls names, w.before args s' = true := fun w hw => vx_ot_at hW0 hvm.symm (hgood w (List.mem_cons_of_mem _ (List.mem_cons_of_mem _ hw))) (hat w hw)
  have hk' : (Cond.classLink own ik cls).before args s' = true := vx_ot_at hW0 hvm.symm (hgood _ List.mem_cons_self) hk
  have hini' : (Cond.initialized cls).before args s' = true := vx_ot_at hW0 hvm.symm (hgood _ (List.mem_cons_of_mem _ List.mem_cons_self)) hini
  have hU' : vx_Zq Bundle.tN "UNASSIGNED_STACK" Bundle.steD A s' s'.heap := by rw [hhp]; exact vx_Zq.moved hW0.alike (hU.kept hS.2.1)
  have hN' : vx_Zq Bundle.tN "SUPPRESSED_SENTINEL" Bundle.listD A s' s'.heap := by rw [hhp]; exact vx_Zq.moved hW0.alike (hN.kept hS.2.1)
  have h : ∀ w ∈ Bundle.ownAtoms own ic cls names, w.before args s' = true := vx_own hat' (vx_isRefq hU'.1) (vx_isRefq hN'.1) hU'.2.word hN'.2.word
  have hown' : s'.vm.findClass own = some m.cls := by rw [hvm]; exact hown
  have hins : (Cond.instantiable cls 6).before args s' = true := h _ (by simp [Bundle.ownAtoms])
  obtain ⟨vm₁, cX, kX, hfX, hkX, -, -, X₁, st1⟩ := Y.newCold hexec (own := own) (C := cls) (index := ik) (n := 6) hown' hk' hins hini'
    (g := F0 m pc ls rest) rfl (by rw [hb]; exact d0) (Nat.le_refl _) (Nat.le_refl _)
  generalize hT1 : (T.setVm vm₁).pushCell { cls := cX, slots := kX.instanceTypes.map defaultValue, vm := .none } = T1 at X₁ st1
  have hcat : (Value.ref T.heap.size).category = 1 := rfl
  have hcellA : T1.heap[T.heap.size]? = some (freshCell cX kX) := by rw [← hT1]; exact State.heap_pushCell_size _ _
  have d3' : decode c.code (pc + 3) = .ok (.dup, 1) := by rw [hb]; exact d3
  have d4' : decode c.code (pc + 4) = .ok (.ldc_w is, 3) := by rw [hb]; exact d4
  have hstr' : vk_R own is text sa s' := vk_R.warm hW0 hstr
  obtain ⟨U, hsteps, hrun, hend, hW, hsame, ce, hce, hO⟩ := X₁.ctorThrowS hexec htr (own := own) (cls := cls) (names := names) (ic := ic) hown' hcls hnames h (fun x hx => nomatch hx) hfX hkX hcellA (by rw [hhp, hT]; exact Nat.le_refl _) (msg := .ref sa) rfl
    (g := { method := m, pc := pc + 7, locals := ls, stack := .ref sa :: .ref T.heap.size :: .ref T.heap.size :: rest, locked := none }) rfl hsize rfl rfl (rest := rest) rfl
    (by rw [hb]; exact d7) (by rw [hb]; exact d10) hout hRframes (by simp only [List.map_cons, List.sum_cons, hcat]; omega) hlocks
  obtain ⟨f1, f2⟩ := vx_frame hsame
  rw [hhp] at f1 f2
  have hWs : s.WarmedH U.vm := State.WarmedH.trans hW0 hW
  have hcl : s.vm.findClass cls = some ce.cls := by
    have h9 := hO.cls
    rw [hvm] at h9
    exact h9
  have hall : s.sameButNew ({ U with vm := s.vm } : State) locs mc ms := by
    subst hA
    obtain ⟨e1, e2⟩ := hsame
    rw [State.setFrames_setFrames] at e1
    have h2 : (T.setVm s.vm).sameButNew ({ U with vm := s.vm } : State) [] (0 + 1) (0 + 6) := ⟨e1, e2⟩
    have h3 := X.same.trans h2
    rw [List.append_nil] at h3
    exact h3.mono hc hs
  refine ⟨U, ?_, .threw T.heap.size, hrun, hend, Or.inr ⟨T.heap.size, rfl, cls, ce, locs, hx U hWs.alike f1 (fun q hq => f2 q hq (fun z hz => nomatch hz)), hce, hO.vm, hcl, hWs, hall, hf⟩⟩
  refine st1 _ ?_
  show Steps p.tables e below (T1.setTop { method := m, pc := pc + 3, locals := ls, stack := .ref T.heap.size :: rest, locked := none }) _
  jvm_step X₁.here [X₁.here.top, hexec, d3', Value.category]
  exact X₁.ldcStringW hexec (own := own) (text := text) (index := is) (a := sa) hown' hstr'.1 hstr'.2
    (g := { method := m, pc := pc + 4, locals := ls, stack := .ref T.heap.size :: .ref T.heap.size :: rest, locked := none }) rfl d4' _ hsteps
end Ends
section Bodies
variable {l : Launch}
theorem vx_ofW {y : MethodName} {ws ws' : List Cond} {rm : Room} {Pc : Array Value → State → Prop} {Qc : Array Value → State → Outcome → State → Prop} {XC : String → State → State → Prop} {mc ms : Nat} {free : Addr → Prop} {cc : ByteArray} {maxL : Nat} {ret : Option FieldType}
    (hy : plainName y.cls = true) (hw : ws = Cond.code y cc maxL ret :: ws')
    (body : ∀ p e s m args below meth c s₁, BodyLoose p l y (headSpec ws rm) cc maxL ret e s m args below meth c s₁ → c.maxLocals = maxL → (∀ x ∈ c.exceptionTable.toList, False) → Pc args s →
      W p l e (headSpec ws rm).room s m args below meth c s.heap [] 0 0 (vx_MQ below Qc XC args s mc ms free) (entryFrame m args maxL)) : vx_Met l y ws rm Pc Qc XC mc ms free := by
  refine MetFree.of_bodyS (code := cc) (maxLocals := maxL) (ret := ret) hy ?_ ?_
  · intro args s m h hn
    obtain ⟨meth, c, h1, h2, h3, h4, h5, h6, -, -⟩ := Cond.code_spec hn (atoms_spec (ws := ws) h _ (by rw [hw]; exact List.mem_cons_self))
    exact ⟨meth, c, h1, h2, h3, h4, h5, h6⟩
  · intro p e s m args below meth c s₁ B hml hP _
    have hh0 : s₁.heap = s.heap := by rw [B.state]; rfl
    have ht : ∀ x ∈ c.exceptionTable.toList, False := by
      obtain ⟨meth9, c9, h1, h2, -, -, -, -, h7, -⟩ := Cond.code_spec B.named (atoms_spec (ws := ws) B.pre _ (by rw [hw]; exact List.mem_cons_self))
      cases Option.some.inj (h1.symm.trans B.method)
      cases Option.some.inj (h2.symm.trans (Stand.of_body B).code)
      intro x hx
      rw [Array.isEmpty_iff.mp h7] at hx
      cases hx
    obtain ⟨t, a1, o, b1, b2, b3⟩ := body p e s m args below meth c s₁ B hml ht hP s₁ hh0 (Stand.of_body B)
    exact ⟨t, o, a1, b1, b2, b3⟩
/-- the table of a body with handlers -/
theorem vx_table {p : Program} {x y : MethodName} {S : Spec} {cc bytes : ByteArray} {maxL maxL' : Nat} {ret ret' : Option FieldType} {e : Env} {s s₁ : State} {m : MethodId} {args : Array Value} {below : List Frame} {meth : Method} {c : Code} {hh : List (Nat × Nat × Nat × Nat)}
    (B : BodyLoose p l y S cc maxL ret e s m args below meth c s₁) (h : (Cond.codeWith y bytes maxL' ret' hh).before args s = true) : c.exceptionTable.toList = tableOf hh := by
  obtain ⟨m9, meth9, c9, hn9, h1, h2, -, -, h6, -⟩ := Cond.codeWith_spec h
  cases Option.some.inj (hn9.symm.trans B.named)
  cases Option.some.inj (h1.symm.trans B.method)
  cases Option.some.inj (h2.symm.trans (Stand.of_body B).code)
  rw [← h6, table_eq]
end Bodies
end VXA
/-! ===== END ===== -/
/-! ===== BEGIN a static call of a method with an exception table ===== -/
section VXS
variable {p : Program} {l : Launch} {e : Env} {R : Room} {s : State} {m : MethodId} {args : Array Value} {below : List Frame} {meth : Method} {c : Code} {T : State} {H : Heap} {locs : List Loc} {cells slots : Nat}
abbrev vx_CSW (R : Room) (s : State) (args : Array Value) (own : String) (index : Nat) (y : MethodName) (bytes : ByteArray) (maxL : Nat) (ret : Option FieldType) (hh : List (Nat × Nat × Nat × Nat)) (ws : List Cond) (rm : Room) (mc ms n : Nat) : Prop :=
  (rm.cells = mc ∧ rm.slots = ms ∧ rm.frames + 1 ≤ R.frames ∧ 8 + (maxL + 11) + rm.locals ≤ R.locals ∧ (∀ w ∈ ws, ∀ (a' : Array Value) (U : State), s.WarmedH U.vm → w.before a' U = true) ∧ Cond.codeWith y bytes maxL ret hh ∈ ws) ∧
  (Cond.codeWith y bytes maxL ret hh).before args s = true ∧ (Cond.initialized y.cls).before args s = true ∧ (y.cls ≠ "java/lang/invoke/MethodHandle" ∧ y.cls ≠ "java/lang/invoke/VarHandle") ∧
  (∀ sig, parseMethodDescriptor y.desc = some sig → n = sig.parameters.length) ∧ (Cond.methodLink own index y).before args s = true ∧ (Cond.static y).before args s = true
theorem vx_cwSW {own : String} {index maxL mc ms : Nat} {y : MethodName} {bytes : ByteArray} {ret : Option FieldType} {hh : List (Nat × Nat × Nat × Nat)} {Ts ws ws' : List Cond} {rm : Room} (n : Nat) (ht : ∀ w ∈ Ts, w.before args s = true) (hT : GoodIn Ts (va_wsS own index y ws)) (hw : ws = Cond.codeWith y bytes maxL ret hh :: ws') (hrc : rm.cells = mc) (hrs : rm.slots = ms)
    (hd : y.cls ≠ "java/lang/invoke/MethodHandle" ∧ y.cls ≠ "java/lang/invoke/VarHandle" ∧ (parseMethodDescriptor y.desc).map (fun d => d.parameters.length) = some n) (hR : rm.frames + 1 ≤ R.frames ∧ 8 + (maxL + 11) + rm.locals ≤ R.locals) :
    vx_CSW R s args own index y bytes maxL ret hh ws rm mc ms n := by
  have ok : ∀ w ∈ va_wsS own index y ws, w.before args s = true := fun w h => ht w (hT w h).1
  have hG : GoodIn Ts ws := fun w h => hT w (by unfold va_wsS; exact List.mem_append_right _ h)
  have hc : Cond.codeWith y bytes maxL ret hh ∈ ws := by rw [hw]; exact List.mem_cons_self
  refine ⟨⟨hrc, hrs, hR.1, hR.2, pay_in ht hG, hc⟩, ht _ (hG _ hc).1, ok _ (by simp [va_wsS]), ⟨hd.1, hd.2.1⟩, fun sig h => ?_, ok _ (by simp [va_wsS]), ok _ (by simp [va_wsS])⟩
  have h2 := hd.2.2
  rw [h] at h2
  exact (Option.some.inj h2).symm
theorem vx_callSW (X : Stand p l e R s m args below meth c T locs cells slots) (hexec : p.tables.exec = Jvm.exec) {own : String} {index : Nat} {y : MethodName} {bytes : ByteArray} {maxL : Nat} {ret : Option FieldType} {hh : List (Nat × Nat × Nat × Nat)}
    (hown : s.vm.findClass own = some m.cls) (hlink : (Cond.methodLink own index y).before args s = true) (hstat : (Cond.static y).before args s = true) (hinit : (Cond.initialized y.cls).before args s = true)
    (hcode : (Cond.codeWith y bytes maxL ret hh).before args s = true) (hy : y.cls ≠ "java/lang/invoke/MethodHandle" ∧ y.cls ≠ "java/lang/invoke/VarHandle")
    {W9 : Nat} {Pre : Pt → Array Value → Prop} {Post : Pt → Array Value → Option Value → Pt → Prop} (hK : Back l R p e below s args y 3 W9 Pre Post)
    {g : JFrame} (hg : g.method = m) (hsize : g.locals.size = c.maxLocals) {argsL rest : List Value} (hlen : ∀ sig, parseMethodDescriptor y.desc = some sig → argsL.length = sig.parameters.length)
    (hstack : g.stack = argsL.reverse ++ rest) (hW : 2 * g.monitorRoom + (rest.map fun v => v.category).sum ≤ W9) (hdg : decode c.code g.pc = .ok (.invokestatic index, 3))
    (hpre : ∀ vm₁, s.WarmedH vm₁ → Pre ⟨T.setVm vm₁, locs, cells, slots⟩ argsL.toArray) :
    ∃ (v : Option Value) (vm₁ : Vm) (B : Pt), s.WarmedH vm₁ ∧ Stand p l e R s m args below meth c B.U B.locs B.cells B.slots ∧ Post ⟨T.setVm vm₁, locs, cells, slots⟩ argsL.toArray v B ∧
      ∀ target, Steps p.tables e below (B.U.setTop { g with pc := g.pc + 3, stack := v.toList ++ rest }) target → Steps p.tables e below (T.setTop g) target := by
  obtain ⟨mk, methM, cM, hnamed, hmethM, -, -, -, -, -, -, hsigM⟩ := Cond.codeWith_spec hcode
  have hstatic : methM.isStatic = true := Cond.static_spec hnamed hmethM hstat
  obtain ⟨kP, hkP, -⟩ := className_of_methodNamed hnamed
  have hinitP : kP.init = .initialized := Cond.initialized_spec (findClass_of_methodNamed hnamed) hkP hinit
  obtain ⟨vm₁, X₁, hstep₁⟩ := X.invokestatic hexec hown hlink hnamed hmethM hstatic hkP hinitP hy (g := g) hg (argsL := argsL) (rest := rest) (hlen _ hsigM) hstack hdg
  obtain ⟨v, B, X', hpost, hsteps⟩ := hK m meth c ⟨T.setVm vm₁, locs, cells, slots⟩ { g with stack := rest } (.invokestatic index) mk argsL.toArray X₁ hg hsize hdg hW (X₁.named hnamed) (hpre vm₁ X₁.warmed)
  exact ⟨v, vm₁, B, X₁.warmed, X', hpost, fun target h => hstep₁ _ fun acts => by rw [doInvoke_state]; exact hsteps.trans h⟩
theorem vx_runSW {y : MethodName} {bytes cc : ByteArray} {maxL nL mc ms n index : Nat} {ret : Option FieldType} {hh : List (Nat × Nat × Nat × Nat)} {ws : List Cond} {rm : Room} {Pc : Array Value → State → Prop} {Qc : Array Value → State → Outcome → State → Prop} {free : Addr → Prop} {Ts : List Cond} {own : String} {As rest : List Value} {g : JFrame}
    (S : CallFix p m c cc nL s args Ts own) (hM : Met l y ws rm Pc Qc mc ms free) (cw : vx_CSW R s args own index y bytes maxL ret hh ws rm mc ms n) (hp : PreS s H Pc As)
    (hg : g.method = m) (hn : As.length = n) (hsize : g.locals.size = nL) (hstack : g.stack = As.reverse ++ rest) (hW : 2 * g.monitorRoom + (rest.map fun v => v.category).sum ≤ 8) (hdg : decode cc g.pc = .ok (.invokestatic index, 3)) (hf : cells + mc ≤ R.cells ∧ slots + ms ≤ R.slots) :
    va_Run p l e R s m args below meth c H locs cells slots mc ms g rest (Qc As.toArray) (free) := by
  obtain ⟨⟨hrc, hrs, hfr, hlo, hws, hcw⟩, hcode, hini, hy, hlen, hl, hstt⟩ := cw
  have hK : Back l R p e below s args y 3 8 (PreOf R mc ms Pc) (PostOf Qc mc ms free) := va_backW (hh := hh) (bytes := bytes) (maxL := maxL) (ret := ret) hM hp.1 hrc hrs hfr hlo hws hcw (fun a' U hW => word_at hW (Or.inl (by first | rfl | simp [Cond.onTables, Cond.keeps, Cond.steady])) hini)
  obtain ⟨hx, hb, hml, ho, -⟩ := S
  intro T hT X
  obtain ⟨v, vm₁, ⟨U', l2, c2, s2⟩, hW₁, X', ⟨g', mk, t, L, e1, e2, hq, h1, hL, h2, h3⟩, st⟩ := vx_callSW X hx (hh := hh) (bytes := bytes) (maxL := maxL) (ret := ret) ho hl hstt hini hcode hy hK hg (hsize.trans hml.symm) (argsL := As) (rest := rest) (fun sig h => hn.trans (hlen sig h)) hstack hW (by rw [hb]; exact hdg)
    (fun vm₁ hW₁ => ⟨hf.1, hf.2, hp.2 (T.setVm vm₁) hT hW₁⟩)
  dsimp only [Pt.U, Pt.locs, Pt.cells, Pt.slots] at X' e1 e2 h1 h2 h3 st
  subst h1; subst h2; subst h3
  exact ⟨v, (T.setVm vm₁).calling g' mk As.toArray, t, U', L, hT, X', hL, e1, e2, hq, st⟩
/-- not caught here, past rows that name other classes: it goes on to the caller -/
theorem vx_outP {p : Program} {l : Launch} {e : Env} {R : Room} {s : State} {m : MethodId} {args : Array Value} {below : List Frame} {meth : Method} {c : Code} {H : Heap} {locs : List Loc} {cells slots : Nat} {free : Addr → Prop} {ls : Array Slot} {rest : List Value} {Qc : Array Value → State → Outcome → State → Prop} {XC : String → State → State → Prop}
    {pc : Nat} {own E : String} {ce : Cell} {q : Addr} {mc ms : Nat} (hown : s.vm.findClass own = some m.cls) (hlocks : meth.locks = false)
    (hpass : ∀ z ∈ c.exceptionTable.toList, covers z pc = false ∨ (z.catchType ≠ 0 ∧ ∃ nm : String, (Cond.classLink own z.catchType nm).before args s = true ∧ va_Nc E nm s)) (hcell : H[q]? = some ce) (hv : ce.vm = .none) (hcl : s.vm.findClass E = some ce.cls)
    (hx : ∀ t : State, t.heap = H → s.vm.Alike t.vm → XC E s t) (hf : ∀ z ∈ locs, free z.base) (hc : cells ≤ mc) (hs : slots ≤ ms) :
    vx_W p l e R s m args below meth c H locs cells slots (vx_MQ below Qc XC args s mc ms free) (F0 m pc ls rest) q := by
  intro T hT X
  have hpl : e.platform.magicAccessors = ({} : Platform).magicAccessors := by rw [X.admits.platform]
  obtain ⟨vm', hW', X', st⟩ := X.outThrough hlocks q (g := F0 m pc ls rest) rfl rfl rfl (cell := ce) (by rw [hT]; exact hcell) (by rw [hv]; rfl)
    (by obtain ⟨k9, h9, -⟩ := Vm.findClass_spec hcl; exact ⟨k9, h9⟩) (fun z hz => by
      rcases hpass z hz with h | ⟨hz0, nm, hl1, hn1⟩
      · exact Or.inl h
      · obtain ⟨c6, hc6, hcl6⟩ := Cond.classLink_spec hown hl1 e.platform hpl
        obtain ⟨a8, b8, h1, h2, h3⟩ := hn1
        cases Option.some.inj (h1.symm.trans hcl)
        cases Option.some.inj (h2.symm.trans hc6)
        exact Or.inr ⟨hz0, _, hcl6, h3⟩)
  obtain ⟨g₀, hfr⟩ := X'.frames_eq
  have hcell9 : ((T.setVm vm').setFrames (.throwing q :: below)).heap[q]? = some ce := by
    show T.heap[q]? = some ce
    rw [hT]; exact hcell
  have hend : Ended ((T.setVm vm').setFrames (.throwing q :: below)) below (.threw q) := State.frames_setFrames _ (State.cur_lt_of_frames hfr)
  refine ⟨(T.setVm vm').setFrames (.throwing q :: below), ?_, .threw q, X'.here.running, hend, Or.inr ⟨q, rfl, E, ce, locs, hx _ hT (X'.ends _).1.alike, hcell9, hv, hcl, (X'.ends _).1, (X'.ends _).2.mono hc hs, hf⟩⟩
  rw [X.pushThrowing_eq]
  exact st
/-- a thing of a world lies in the heap -/
theorem vx_lt {D : va_G} {cl : List vw_C} {ws : va_W} {H1 : Heap} (h : va_P D cl ws H1) {k : Nat} {q : Nat × va_E} (hk : ws[k]? = some q) : q.1 < H1.size := (h k q hk).lt
end VXS
/-! ===== END ===== -/
/-! ===== BEGIN methods with a table of their own: called by a name, returning or throwing ===== -/
section VXH
/-! vx_backW, vx_callVX, vx_callSX, vx_callVW, vx_runVW, vx_runVX, vx_runSX, vx_ofWH follow the same proofs as their sisters above (Free/Laws.lean, Shelf42/LK1.lean); vx_outP calls Shelf42/NT130.lean (outThrough). -/
section
variable {l : Launch} {R : Room} {p : Program} {e : Env} {below : List Frame} {s : State} {sargs : Array Value} {y : MethodName} {len W9 : Nat}
theorem vx_backW {ws : List Cond} {rm : Room} {Pc : Array Value → State → Prop} {Qc : Array Value → State → Outcome → State → Prop} {XC : String → State → State → Prop} {mc ms : Nat} {free : Addr → Prop} {bytes : ByteArray} {maxL : Nat} {ret : Option FieldType} {hh : List (Nat × Nat × Nat × Nat)}
    (hM : vx_Met l y ws rm Pc Qc XC mc ms free) (hblind : FrameBlind Pc) (hrc : rm.cells = mc) (hrs : rm.slots = ms)
    (hframes : rm.frames + 1 ≤ R.frames) (hlocals : W9 + (maxL + 11) + rm.locals ≤ R.locals)
    (hws : ∀ w ∈ ws, ∀ a' U, s.WarmedH U.vm → w.before a' U = true) (hcode : Cond.codeWith y bytes maxL ret hh ∈ ws) (hinit : ∀ a' U, s.WarmedH U.vm → (Cond.initialized y.cls).before a' U = true) :
    vx_Back l R p e below s sargs y len W9 (PreOf R mc ms Pc) (PostOf Qc mc ms free) (vx_Post XC mc ms free) := by
  intro m meth c A g ig mk a X hg hsize hdg hW hn hp
  have h1 : (headSpec ws rm).pre.before a A.U = true := atoms_intro fun w hw => hws w hw _ _ X.warmed
  have h2 : (Cond.codeWith y bytes maxL ret hh).before a A.U = true := hws _ hcode _ _ X.warmed
  have h3 : (Cond.initialized y.cls).before a A.U = true := hinit _ _ X.warmed
  have h4 : A.cells + (headSpec ws rm).room.cells ≤ R.cells := by rw [show (headSpec ws rm).room.cells = mc from hrc]; exact hp.1
  have h5 : A.slots + (headSpec ws rm).room.slots ≤ R.slots := by rw [show (headSpec ws rm).room.slots = ms from hrs]; exact hp.2.1
  have hPc : Pc a (A.U.calling g mk a) := hblind _ _ _ _ hp.2.2
  obtain ⟨U, Ls, c0, s0⟩ := A
  dsimp only [Pt.U, Pt.locs, Pt.cells, Pt.slots] at h1 h2 h3 h4 h5 X hn hPc ⊢
  obtain ⟨m9, methY, cY, hn9, hmY, hcY, -, hlY, -⟩ := Cond.codeWith_spec h2
  cases Option.some.inj (hn9.symm.trans hn)
  obtain ⟨kY, hkY, -⟩ := className_of_methodNamed hn
  have hinitY : kY.init = .initialized := Cond.initialized_spec (findClass_of_methodNamed hn) hkY h3
  have h : At U g.method c below := by rw [hg]; exact X.here
  have hlocals9 : W9 + (maxL + 11) + (headSpec ws rm).room.locals ≤ R.locals := hlocals
  have happ : (headSpec ws rm).appliesLoose y e.platform (U.calling g mk a) = true :=
    Spec.appliesLoose_calling (g := g) h hdg hn hkY hinitY
      (X.room_calling (g := g) (R' := (headSpec ws rm).room) hsize hmY hcY hframes (by rw [hlY]; omega) h4 h5) h1
  obtain ⟨mid, hmid⟩ := h.above
  have hfr : (U.setTop g).frames = (.java g :: mid) ++ below := by rw [State.frames_setTop' g h.top, hmid]; rfl
  obtain ⟨o, s₂, hsteps, -, hend, hq⟩ := Steps.callFree hM p X.admits X.cas X.clock (acts := []) hfr happ hPc trivial
  have hq' : vx_Q Qc XC mc ms free a (U.calling g mk a) o s₂ := hq
  rw [State.frames_setTop' g h.top] at hend
  obtain ⟨g₀, hg0⟩ := Option.isSome_iff_exists.mp h.top
  obtain ⟨r, hr⟩ := State.topJava?_eq_some.mp hg0
  have hr' : (({ U with heap := s₂.heap, slotsUsed := s₂.slotsUsed } : State).setVm s₂.vm).frames = .java g₀ :: r := hr
  rcases hq' with ⟨hqc, L, hfe, hL⟩ | ⟨q, rfl, E, ce, L, hx, hce, hcv, hcl, hW₂, hsm, hL⟩
  · obtain ⟨⟨v, rfl⟩, hW₂, e2, q2, q3, q4, q5, q6⟩ := id hfe
    have e3 : s₂ = ({ (U.calling g mk a).setFrames s₂.frames with heap := s₂.heap, slotsUsed := s₂.slotsUsed } : State).setVm s₂.vm := by
      have : s₂ = ({ s₂ with vm := (U.calling g mk a).vm } : State).setVm s₂.vm := rfl
      rw [e2] at this
      exact this
    obtain ⟨c₂, i₂, len₂, hc₂, hd₂, hf₂⟩ := hend
    have hW' : U.WarmedH s₂.vm := hW₂
    have hcc : c₂ = c := by
      have h1 : s₂.code? g.method = U.code? g.method := by
        rw [State.code?_eq, State.code?_eq, hW'.alike.method?]
      exact Option.some.inj (hc₂.symm.trans (h1.trans h.code))
    subst hcc
    have hlen : len₂ = len := by rw [hdg] at hd₂; cases hd₂; rfl
    subst hlen
    have hs₂ : s₂ = (({ U with heap := s₂.heap, slotsUsed := s₂.slotsUsed } : State).setVm s₂.vm).setTop { g with pc := g.pc + len₂, stack := v.toList ++ g.stack } := by
      refine e3.trans ?_
      rw [hf₂, State.calling_eq h.top, State.setFrames_setFrames, State.setTop_of_frames _ hr', hr]
      rfl
    have hsame : U.sameButNew ({ U with heap := s₂.heap, slotsUsed := s₂.slotsUsed } : State) L mc ms := by
      refine ⟨?_, q2, q3, q4, q5, q6⟩
      obtain ⟨t, ht, -⟩ := State.frames_cons hr
      show ({ U with heap := s₂.heap, slotsUsed := s₂.slotsUsed } : State) = { U.setFrames U.frames with heap := s₂.heap, slotsUsed := s₂.slotsUsed }
      rw [State.setFrames_self ht]
    subst hg
    refine Or.inl ⟨v, ⟨(({ U with heap := s₂.heap, slotsUsed := s₂.slotsUsed } : State).setVm s₂.vm), Ls ++ L, c0 + mc, s0 + ms⟩,
      ⟨X.admits, X.cas, X.clock, X.frames, X.room, X.hears, X.method, X.code, (X.here.setHeapUsed s₂.heap s₂.slotsUsed).setVm hW'.alike, X.tail, State.WarmedH.trans X.warmed hW', X.limits, X.bytes, X.same.trans (hsame.setVm s.vm)⟩,
      ⟨g, mk, s₂, L, rfl, rfl, hqc, rfl, hL, rfl, rfl⟩, ?_⟩
    show Steps p.tables e below _ ((({ U with heap := s₂.heap, slotsUsed := s₂.slotsUsed } : State).setVm s₂.vm).setTop { g with pc := g.pc + len₂, stack := v.toList ++ g.stack })
    rw [← hs₂]
    exact hsteps
  · obtain ⟨e2, q2, q3, q4, q5, q6⟩ := id hsm
    have e3 : s₂ = ({ (U.calling g mk a).setFrames s₂.frames with heap := s₂.heap, slotsUsed := s₂.slotsUsed } : State).setVm s₂.vm := by
      have : s₂ = ({ s₂ with vm := (U.calling g mk a).vm } : State).setVm s₂.vm := rfl
      rw [e2] at this
      exact this
    have hf₂ : s₂.frames = .throwing q :: .java g :: U.frames.tail := hend
    have hW' : U.WarmedH s₂.vm := hW₂
    have hs₂ : s₂ = ((({ U with heap := s₂.heap, slotsUsed := s₂.slotsUsed } : State).setVm s₂.vm).setTop g).pushFrame (.throwing q) := by
      refine e3.trans ?_
      rw [hf₂, State.calling_eq h.top, State.setFrames_setFrames, State.pushFrame, State.frames_setTop _ hr', State.setTop_of_frames _ hr', State.setFrames_setFrames, hr]
      rfl
    have hsame : U.sameButNew ({ U with heap := s₂.heap, slotsUsed := s₂.slotsUsed } : State) L mc ms := by
      refine ⟨?_, q2, q3, q4, q5, q6⟩
      obtain ⟨t, ht, -⟩ := State.frames_cons hr
      show ({ U with heap := s₂.heap, slotsUsed := s₂.slotsUsed } : State) = { U.setFrames U.frames with heap := s₂.heap, slotsUsed := s₂.slotsUsed }
      rw [State.setFrames_self ht]
    subst hg
    refine Or.inr ⟨q, ⟨(({ U with heap := s₂.heap, slotsUsed := s₂.slotsUsed } : State).setVm s₂.vm), Ls ++ L, c0 + mc, s0 + ms⟩,
      ⟨X.admits, X.cas, X.clock, X.frames, X.room, X.hears, X.method, X.code, (X.here.setHeapUsed s₂.heap s₂.slotsUsed).setVm hW'.alike, X.tail, State.WarmedH.trans X.warmed hW', X.limits, X.bytes, X.same.trans (hsame.setVm s.vm)⟩,
      ⟨g, mk, s₂, L, E, ce, rfl, rfl, hx, hce, hcv, hcl, rfl, hL, rfl, rfl⟩, ?_⟩
    show Steps p.tables e below _ (((({ U with heap := s₂.heap, slotsUsed := s₂.slotsUsed } : State).setVm s₂.vm).setTop g).pushFrame (.throwing q))
    rw [← hs₂]
    exact hsteps
end
variable {p : Program} {l : Launch} {e : Env} {R : Room} {s : State} {m : MethodId} {args : Array Value} {below : List Frame} {meth : Method} {c : Code} {T : State} {H : Heap} {locs : List Loc} {cells slots : Nat}
theorem vx_callVX (X : Stand p l e R s m args below meth c T locs cells slots) (hexec : p.tables.exec = Jvm.exec) {own C : String} {index : Nat} {y : MethodName} {bytes : ByteArray} {maxL : Nat} {ret : Option FieldType} {hh : List (Nat × Nat × Nat × Nat)}
    (hown : s.vm.findClass own = some m.cls) (hlink : (Cond.methodLink own index y).before args s = true) (hinst : (Cond.instanceMethod y).before args s = true) (hsel : (Cond.selects C y y).before args s = true)
    (hcode : (Cond.codeWith y bytes maxL ret hh).before args s = true) (hy : y.cls ≠ "java/lang/invoke/MethodHandle" ∧ y.cls ≠ "java/lang/invoke/VarHandle")
    {W9 : Nat} {Pre : Pt → Array Value → Prop} {Post : Pt → Array Value → Option Value → Pt → Prop} {PostX : Pt → Array Value → Addr → Pt → Prop} (hK : vx_Back l R p e below s args y 3 W9 Pre Post PostX)
    {b : Addr} {cellB : Cell} (hcell : T.heap[b]? = some cellB) (hobj : cellB.vm.isStatics = false) (hcls : s.vm.findClass C = some cellB.cls)
    {g : JFrame} (hg : g.method = m) (hsize : g.locals.size = c.maxLocals) {argsL rest : List Value} (hlen : ∀ sig, parseMethodDescriptor y.desc = some sig → argsL.length = sig.parameters.length)
    (hstack : g.stack = argsL.reverse ++ .ref b :: rest) (hW : 2 * g.monitorRoom + (rest.map fun v => v.category).sum ≤ W9) (hdg : decode c.code g.pc = .ok (.invokevirtual index, 3))
    (hpre : ∀ vm₁, s.WarmedH vm₁ → Pre ⟨T.setVm vm₁, locs, cells, slots⟩ (Value.ref b :: argsL).toArray) :
    (∃ (v : Option Value) (vm₁ : Vm) (B : Pt), s.WarmedH vm₁ ∧ Stand p l e R s m args below meth c B.U B.locs B.cells B.slots ∧ Post ⟨T.setVm vm₁, locs, cells, slots⟩ (Value.ref b :: argsL).toArray v B ∧
      ∀ target, Steps p.tables e below (B.U.setTop { g with pc := g.pc + 3, stack := v.toList ++ rest }) target → Steps p.tables e below (T.setTop g) target) ∨
    (∃ (q : Addr) (vm₁ : Vm) (B : Pt), s.WarmedH vm₁ ∧ Stand p l e R s m args below meth c B.U B.locs B.cells B.slots ∧ PostX ⟨T.setVm vm₁, locs, cells, slots⟩ (Value.ref b :: argsL).toArray q B ∧
      Steps p.tables e below (T.setTop g) ((B.U.setTop { g with stack := rest }).pushFrame (.throwing q))) := by
  obtain ⟨mk, methM, hnamed, hmethM, hstM, habM⟩ := Cond.instanceMethod_spec hinst
  obtain ⟨m8, methM', cM, hn8, hmethM', -, -, -, -, -, -, hsigM⟩ := Cond.codeWith_spec hcode
  cases Option.some.inj (hn8.symm.trans hnamed)
  cases hmethM.symm.trans hmethM'
  obtain ⟨c2, r2, m2, q1, q2, q3, q4, kP, hkP, hkPi⟩ := Cond.selects_spec hsel
  cases hcls.symm.trans q1
  cases (State.methodFound?_of_named hnamed hy).symm.trans q2
  cases hnamed.symm.trans q3
  have hselP : selectMethod e.platform s.vm cellB.cls mk = .method mk := by rw [Launch.admits_selectMethod X.admits]; exact q4
  obtain ⟨vm₁, X₁, hstep₁⟩ := X.invokevirtual hexec hown hlink hnamed hmethM hstM hkP hkPi hy (a := b) (cell := cellB) hcell
    (fun z h => by rw [h] at hobj; cases hobj) hselP hmethM habM hkP hkPi (g := g) hg (argsL := argsL) (rest := rest) (hlen _ hsigM) hstack hdg
  rcases hK m meth c ⟨T.setVm vm₁, locs, cells, slots⟩ { g with stack := rest } (.invokevirtual index) mk (Value.ref b :: argsL).toArray X₁ hg hsize hdg hW (X₁.named hnamed) (hpre vm₁ X₁.warmed) with ⟨v, B, X', hpost, hsteps⟩ | ⟨q, B, X', hpost, hsteps⟩
  · exact Or.inl ⟨v, vm₁, B, X₁.warmed, X', hpost, fun target h => hstep₁ _ fun acts => by rw [doInvoke_state]; exact hsteps.trans h⟩
  · exact Or.inr ⟨q, vm₁, B, X₁.warmed, X', hpost, hstep₁ _ fun acts => by rw [doInvoke_state]; exact hsteps⟩
theorem vx_callSX (X : Stand p l e R s m args below meth c T locs cells slots) (hexec : p.tables.exec = Jvm.exec) {own : String} {index : Nat} {y : MethodName} {bytes : ByteArray} {maxL : Nat} {ret : Option FieldType} {hh : List (Nat × Nat × Nat × Nat)}
    (hown : s.vm.findClass own = some m.cls) (hlink : (Cond.methodLink own index y).before args s = true) (hstat : (Cond.static y).before args s = true) (hinit : (Cond.initialized y.cls).before args s = true)
    (hcode : (Cond.codeWith y bytes maxL ret hh).before args s = true) (hy : y.cls ≠ "java/lang/invoke/MethodHandle" ∧ y.cls ≠ "java/lang/invoke/VarHandle")
    {W9 : Nat} {Pre : Pt → Array Value → Prop} {Post : Pt → Array Value → Option Value → Pt → Prop} {PostX : Pt → Array Value → Addr → Pt → Prop} (hK : vx_Back l R p e below s args y 3 W9 Pre Post PostX)
    {g : JFrame} (hg : g.method = m) (hsize : g.locals.size = c.maxLocals) {argsL rest : List Value} (hlen : ∀ sig, parseMethodDescriptor y.desc = some sig → argsL.length = sig.parameters.length)
    (hstack : g.stack = argsL.reverse ++ rest) (hW : 2 * g.monitorRoom + (rest.map fun v => v.category).sum ≤ W9) (hdg : decode c.code g.pc = .ok (.invokestatic index, 3))
    (hpre : ∀ vm₁, s.WarmedH vm₁ → Pre ⟨T.setVm vm₁, locs, cells, slots⟩ argsL.toArray) :
    (∃ (v : Option Value) (vm₁ : Vm) (B : Pt), s.WarmedH vm₁ ∧ Stand p l e R s m args below meth c B.U B.locs B.cells B.slots ∧ Post ⟨T.setVm vm₁, locs, cells, slots⟩ argsL.toArray v B ∧
      ∀ target, Steps p.tables e below (B.U.setTop { g with pc := g.pc + 3, stack := v.toList ++ rest }) target → Steps p.tables e below (T.setTop g) target) ∨
    (∃ (q : Addr) (vm₁ : Vm) (B : Pt), s.WarmedH vm₁ ∧ Stand p l e R s m args below meth c B.U B.locs B.cells B.slots ∧ PostX ⟨T.setVm vm₁, locs, cells, slots⟩ argsL.toArray q B ∧
      Steps p.tables e below (T.setTop g) ((B.U.setTop { g with stack := rest }).pushFrame (.throwing q))) := by
  obtain ⟨mk, methM, cM, hnamed, hmethM, -, -, -, -, -, -, hsigM⟩ := Cond.codeWith_spec hcode
  have hstatic : methM.isStatic = true := Cond.static_spec hnamed hmethM hstat
  obtain ⟨kP, hkP, -⟩ := className_of_methodNamed hnamed
  have hinitP : kP.init = .initialized := Cond.initialized_spec (findClass_of_methodNamed hnamed) hkP hinit
  obtain ⟨vm₁, X₁, hstep₁⟩ := X.invokestatic hexec hown hlink hnamed hmethM hstatic hkP hinitP hy (g := g) hg (argsL := argsL) (rest := rest) (hlen _ hsigM) hstack hdg
  rcases hK m meth c ⟨T.setVm vm₁, locs, cells, slots⟩ { g with stack := rest } (.invokestatic index) mk argsL.toArray X₁ hg hsize hdg hW (X₁.named hnamed) (hpre vm₁ X₁.warmed) with ⟨v, B, X', hpost, hsteps⟩ | ⟨q, B, X', hpost, hsteps⟩
  · exact Or.inl ⟨v, vm₁, B, X₁.warmed, X', hpost, fun target h => hstep₁ _ fun acts => by rw [doInvoke_state]; exact hsteps.trans h⟩
  · exact Or.inr ⟨q, vm₁, B, X₁.warmed, X', hpost, hstep₁ _ fun acts => by rw [doInvoke_state]; exact hsteps⟩
theorem vx_callVW (X : Stand p l e R s m args below meth c T locs cells slots) (hexec : p.tables.exec = Jvm.exec) {own C : String} {index : Nat} {y : MethodName} {bytes : ByteArray} {maxL : Nat} {ret : Option FieldType} {hh : List (Nat × Nat × Nat × Nat)}
    (hown : s.vm.findClass own = some m.cls) (hlink : (Cond.methodLink own index y).before args s = true) (hinst : (Cond.instanceMethod y).before args s = true) (hsel : (Cond.selects C y y).before args s = true)
    (hcode : (Cond.codeWith y bytes maxL ret hh).before args s = true) (hy : y.cls ≠ "java/lang/invoke/MethodHandle" ∧ y.cls ≠ "java/lang/invoke/VarHandle")
    {W9 : Nat} {Pre : Pt → Array Value → Prop} {Post : Pt → Array Value → Option Value → Pt → Prop} (hK : Back l R p e below s args y 3 W9 Pre Post)
    {b : Addr} {cellB : Cell} (hcell : T.heap[b]? = some cellB) (hobj : cellB.vm.isStatics = false) (hcls : s.vm.findClass C = some cellB.cls)
    {g : JFrame} (hg : g.method = m) (hsize : g.locals.size = c.maxLocals) {argsL rest : List Value} (hlen : ∀ sig, parseMethodDescriptor y.desc = some sig → argsL.length = sig.parameters.length)
    (hstack : g.stack = argsL.reverse ++ .ref b :: rest) (hW : 2 * g.monitorRoom + (rest.map fun v => v.category).sum ≤ W9) (hdg : decode c.code g.pc = .ok (.invokevirtual index, 3))
    (hpre : ∀ vm₁, s.WarmedH vm₁ → Pre ⟨T.setVm vm₁, locs, cells, slots⟩ (Value.ref b :: argsL).toArray) :
    ∃ (v : Option Value) (vm₁ : Vm) (B : Pt), s.WarmedH vm₁ ∧ Stand p l e R s m args below meth c B.U B.locs B.cells B.slots ∧ Post ⟨T.setVm vm₁, locs, cells, slots⟩ (Value.ref b :: argsL).toArray v B ∧
      ∀ target, Steps p.tables e below (B.U.setTop { g with pc := g.pc + 3, stack := v.toList ++ rest }) target → Steps p.tables e below (T.setTop g) target := by
  obtain ⟨mk, methM, hnamed, hmethM, hstM, habM⟩ := Cond.instanceMethod_spec hinst
  obtain ⟨m8, methM', cM, hn8, hmethM', -, -, -, -, -, -, hsigM⟩ := Cond.codeWith_spec hcode
  cases Option.some.inj (hn8.symm.trans hnamed)
  cases hmethM.symm.trans hmethM'
  obtain ⟨c2, r2, m2, q1, q2, q3, q4, kP, hkP, hkPi⟩ := Cond.selects_spec hsel
  cases hcls.symm.trans q1
  cases (State.methodFound?_of_named hnamed hy).symm.trans q2
  cases hnamed.symm.trans q3
  have hselP : selectMethod e.platform s.vm cellB.cls mk = .method mk := by rw [Launch.admits_selectMethod X.admits]; exact q4
  obtain ⟨vm₁, X₁, hstep₁⟩ := X.invokevirtual hexec hown hlink hnamed hmethM hstM hkP hkPi hy (a := b) (cell := cellB) hcell
    (fun z h => by rw [h] at hobj; cases hobj) hselP hmethM habM hkP hkPi (g := g) hg (argsL := argsL) (rest := rest) (hlen _ hsigM) hstack hdg
  obtain ⟨v, B, X', hpost, hsteps⟩ := hK m meth c ⟨T.setVm vm₁, locs, cells, slots⟩ { g with stack := rest } (.invokevirtual index) mk (Value.ref b :: argsL).toArray X₁ hg hsize hdg hW (X₁.named hnamed) (hpre vm₁ X₁.warmed)
  exact ⟨v, vm₁, B, X₁.warmed, X', hpost, fun target h => hstep₁ _ fun acts => by rw [doInvoke_state]; exact hsteps.trans h⟩
abbrev vx_CVW (R : Room) (s : State) (args : Array Value) (own C : String) (index : Nat) (y : MethodName) (bytes : ByteArray) (maxL : Nat) (ret : Option FieldType) (hh : List (Nat × Nat × Nat × Nat)) (ws : List Cond) (rm : Room) (mc ms n : Nat) : Prop :=
  (rm.cells = mc ∧ rm.slots = ms ∧ rm.frames + 1 ≤ R.frames ∧ 8 + (maxL + 11) + rm.locals ≤ R.locals ∧ (∀ w ∈ ws, ∀ (a' : Array Value) (U : State), s.WarmedH U.vm → w.before a' U = true) ∧ Cond.codeWith y bytes maxL ret hh ∈ ws) ∧
  (Cond.codeWith y bytes maxL ret hh).before args s = true ∧ (Cond.initialized y.cls).before args s = true ∧ (y.cls ≠ "java/lang/invoke/MethodHandle" ∧ y.cls ≠ "java/lang/invoke/VarHandle") ∧
  (∀ sig, parseMethodDescriptor y.desc = some sig → n = sig.parameters.length) ∧ (Cond.methodLink own index y).before args s = true ∧ (Cond.instanceMethod y).before args s = true ∧ (Cond.selects C y y).before args s = true
theorem vx_cwVW {own C : String} {index maxL mc ms : Nat} {y : MethodName} {bytes : ByteArray} {ret : Option FieldType} {hh : List (Nat × Nat × Nat × Nat)} {Ts ws ws' : List Cond} {rm : Room} (n : Nat) (ht : ∀ w ∈ Ts, w.before args s = true) (hT : GoodIn Ts (wsV own index C y ws)) (hw : ws = Cond.codeWith y bytes maxL ret hh :: ws') (hrc : rm.cells = mc) (hrs : rm.slots = ms)
    (hd : y.cls = C ∧ y.cls ≠ "java/lang/invoke/MethodHandle" ∧ y.cls ≠ "java/lang/invoke/VarHandle" ∧ (parseMethodDescriptor y.desc).map (fun d => d.parameters.length) = some n) (hR : rm.frames + 1 ≤ R.frames ∧ 8 + (maxL + 11) + rm.locals ≤ R.locals) :
    vx_CVW R s args own C index y bytes maxL ret hh ws rm mc ms n := by
  obtain ⟨hC, hd⟩ := hd
  subst hC
  have ok : ∀ w ∈ wsV own index y.cls y ws, w.before args s = true := fun w h => ht w (hT w h).1
  have hG : GoodIn Ts ws := fun w h => hT w (by unfold wsV; exact List.mem_append_right _ h)
  have hc : Cond.codeWith y bytes maxL ret hh ∈ ws := by rw [hw]; exact List.mem_cons_self
  refine ⟨⟨hrc, hrs, hR.1, hR.2, pay_in ht hG, hc⟩, ht _ (hG _ hc).1, ok _ (by simp [wsV]), ⟨hd.1, hd.2.1⟩, fun sig h => ?_, ok _ (by simp [wsV]), ok _ (by simp [wsV]), ok _ (by simp [wsV])⟩
  have h2 := hd.2.2
  rw [h] at h2
  exact (Option.some.inj h2).symm
theorem vx_runVW {y : MethodName} {bytes cc : ByteArray} {maxL nL mc ms n index : Nat} {ret : Option FieldType} {hh : List (Nat × Nat × Nat × Nat)} {ws : List Cond} {rm : Room} {Pc : Array Value → State → Prop} {Qc : Array Value → State → Outcome → State → Prop} {free : Addr → Prop} {Ts : List Cond} {own C : String} {b : Addr} {As rest : List Value} {g : JFrame}
    (S : CallFix p m c cc nL s args Ts own) (hM : Met l y ws rm Pc Qc mc ms free) (cw : vx_CVW R s args own C index y bytes maxL ret hh ws rm mc ms n) (hp : PreV s H C b Pc As)
    (hg : g.method = m) (hn : As.length = n) (hsize : g.locals.size = nL) (hstack : g.stack = As.reverse ++ .ref b :: rest) (hW : 2 * g.monitorRoom + (rest.map fun v => v.category).sum ≤ 8) (hdg : decode cc g.pc = .ok (.invokevirtual index, 3)) (hf : cells + mc ≤ R.cells ∧ slots + ms ≤ R.slots) :
    va_Run p l e R s m args below meth c H locs cells slots mc ms g rest (Qc (Value.ref b :: As).toArray) free := by
  obtain ⟨⟨hrc, hrs, hfr, hlo, hws, hcw⟩, hcode, hini, hy, hlen, hl, hin, hse⟩ := cw
  have hK : Back l R p e below s args y 3 8 (PreOf R mc ms Pc) (PostOf Qc mc ms free) := va_backW (hh := hh) (bytes := bytes) (maxL := maxL) (ret := ret) hM hp.1 hrc hrs hfr hlo hws hcw (fun a' U hW => word_at hW (Or.inl (by first | rfl | simp [Cond.onTables, Cond.keeps, Cond.steady])) hini)
  obtain ⟨hx, hb, hml, ho, -⟩ := S
  obtain ⟨-, ⟨cellB, hcB, hoB, hclB⟩, hPc⟩ := hp
  intro T hT X
  obtain ⟨v, vm₁, ⟨U', l2, c2, s2⟩, hW₁, X', ⟨g', mk, t, L, e1, e2, hq, h1, hL, h2, h3⟩, st⟩ := vx_callVW X hx (C := C) (hh := hh) (bytes := bytes) (maxL := maxL) (ret := ret) ho hl hin hse hcode hy hK (by rw [hT]; exact hcB) hoB hclB hg (hsize.trans hml.symm) (argsL := As) (rest := rest) (fun sig h => hn.trans (hlen sig h)) hstack hW (by rw [hb]; exact hdg)
    (fun vm₁ hW₁ => ⟨hf.1, hf.2, hPc (T.setVm vm₁) hT hW₁⟩)
  dsimp only [Pt.U, Pt.locs, Pt.cells, Pt.slots] at X' e1 e2 h1 h2 h3 st
  subst h1; subst h2; subst h3
  exact ⟨v, (T.setVm vm₁).calling g' mk (Value.ref b :: As).toArray, t, U', L, hT, X', hL, e1, e2, hq, st⟩
section
variable {y : MethodName} {bytes cc : ByteArray} {maxL nL mc ms n index : Nat} {ret : Option FieldType} {ws : List Cond} {rm : Room} {Pc : Array Value → State → Prop} {Qc : Array Value → State → Outcome → State → Prop} {XC : String → State → State → Prop} {free : Addr → Prop} {Ts : List Cond} {own C : String} {b : Addr} {As rest : List Value} {g : JFrame}
theorem vx_runVX {hh : List (Nat × Nat × Nat × Nat)} (S : CallFix p m c cc nL s args Ts own) (hM : vx_Met l y ws rm Pc Qc XC mc ms free) (cw : vx_CVW R s args own C index y bytes maxL ret hh ws rm mc ms n) (hp : PreV s H C b Pc As)
    (hg : g.method = m) (hn : As.length = n) (hsize : g.locals.size = nL) (hstack : g.stack = As.reverse ++ .ref b :: rest) (hW : 2 * g.monitorRoom + (rest.map fun v => v.category).sum ≤ 8) (hdg : decode cc g.pc = .ok (.invokevirtual index, 3)) (hf : cells + mc ≤ R.cells ∧ slots + ms ≤ R.slots) :
    vx_Run p l e R s m args below meth c H locs cells slots mc ms g rest (Qc (Value.ref b :: As).toArray) XC free := by
  obtain ⟨⟨hrc, hrs, hfr, hlo, hws, hcw⟩, hcode, hini, hy, hlen, hl, hin, hse⟩ := cw
  have hK : vx_Back l R p e below s args y 3 8 (PreOf R mc ms Pc) (PostOf Qc mc ms free) (vx_Post XC mc ms free) := vx_backW (hh := hh) (bytes := bytes) (maxL := maxL) (ret := ret) hM hp.1 hrc hrs hfr hlo hws hcw (fun a' U hW => word_at hW (Or.inl (by first | rfl | simp [Cond.onTables, Cond.keeps, Cond.steady])) hini)
  obtain ⟨hx, hb, hml, ho, -⟩ := S
  obtain ⟨-, ⟨cellB, hcB, hoB, hclB⟩, hPc⟩ := hp
  intro T hT X
  rcases vx_callVX X hx (C := C) (hh := hh) (bytes := bytes) (maxL := maxL) (ret := ret) ho hl hin hse hcode hy hK (by rw [hT]; exact hcB) hoB hclB hg (hsize.trans hml.symm) (argsL := As) (rest := rest) (fun sig h => hn.trans (hlen sig h)) hstack hW (by rw [hb]; exact hdg)
    (fun vm₁ hW₁ => ⟨hf.1, hf.2, hPc (T.setVm vm₁) hT hW₁⟩) with ⟨v, vm₁, ⟨U', l2, c2, s2⟩, hW₁, X', ⟨g', mk, t, L, e1, e2, hq, h1, hL, h2, h3⟩, st⟩ | ⟨q, vm₁, ⟨U', l2, c2, s2⟩, hW₁, X', ⟨g', mk, t, L, E, ce, e1, e2, hq, hce, hcv, hcl, h1, hL, h2, h3⟩, st⟩
  · dsimp only [Pt.U, Pt.locs, Pt.cells, Pt.slots] at X' e1 e2 h1 h2 h3 st
    subst h1; subst h2; subst h3
    exact Or.inl ⟨v, (T.setVm vm₁).calling g' mk (Value.ref b :: As).toArray, t, U', L, hT, X', hL, e1, e2, hq, st⟩
  · dsimp only [Pt.U, Pt.locs, Pt.cells, Pt.slots] at X' e1 e2 h1 h2 h3 st hcl
    subst h1; subst h2; subst h3
    exact Or.inr ⟨q, (T.setVm vm₁).calling g' mk (Value.ref b :: As).toArray, t, U', L, E, ce, hT, X', hL, e1, e2, hq, hce, hcv, vx_cls hW₁ hcl, st⟩
theorem vx_runSX {hh : List (Nat × Nat × Nat × Nat)} (S : CallFix p m c cc nL s args Ts own) (hM : vx_Met l y ws rm Pc Qc XC mc ms free) (cw : vx_CSW R s args own index y bytes maxL ret hh ws rm mc ms n) (hp : PreS s H Pc As)
    (hg : g.method = m) (hn : As.length = n) (hsize : g.locals.size = nL) (hstack : g.stack = As.reverse ++ rest) (hW : 2 * g.monitorRoom + (rest.map fun v => v.category).sum ≤ 8) (hdg : decode cc g.pc = .ok (.invokestatic index, 3)) (hf : cells + mc ≤ R.cells ∧ slots + ms ≤ R.slots) :
    vx_Run p l e R s m args below meth c H locs cells slots mc ms g rest (Qc As.toArray) XC free := by
  obtain ⟨⟨hrc, hrs, hfr, hlo, hws, hcw⟩, hcode, hini, hy, hlen, hl, hstt⟩ := cw
  have hK : vx_Back l R p e below s args y 3 8 (PreOf R mc ms Pc) (PostOf Qc mc ms free) (vx_Post XC mc ms free) := vx_backW (hh := hh) (bytes := bytes) (maxL := maxL) (ret := ret) hM hp.1 hrc hrs hfr hlo hws hcw (fun a' U hW => word_at hW (Or.inl (by first | rfl | simp [Cond.onTables, Cond.keeps, Cond.steady])) hini)
  obtain ⟨hx, hb, hml, ho, -⟩ := S
  intro T hT X
  rcases vx_callSX X hx (hh := hh) (bytes := bytes) (maxL := maxL) (ret := ret) ho hl hstt hini hcode hy hK hg (hsize.trans hml.symm) (argsL := As) (rest := rest) (fun sig h => hn.trans (hlen sig h)) hstack hW (by rw [hb]; exact hdg)
    (fun vm₁ hW₁ => ⟨hf.1, hf.2, hp.2 (T.setVm vm₁) hT hW₁⟩) with ⟨v, vm₁, ⟨U', l2, c2, s2⟩, hW₁, X', ⟨g', mk, t, L, e1, e2, hq, h1, hL, h2, h3⟩, st⟩ | ⟨q, vm₁, ⟨U', l2, c2, s2⟩, hW₁, X', ⟨g', mk, t, L, E, ce, e1, e2, hq, hce, hcv, hcl, h1, hL, h2, h3⟩, st⟩
  · dsimp only [Pt.U, Pt.locs, Pt.cells, Pt.slots] at X' e1 e2 h1 h2 h3 st
    subst h1; subst h2; subst h3
    exact Or.inl ⟨v, (T.setVm vm₁).calling g' mk As.toArray, t, U', L, hT, X', hL, e1, e2, hq, st⟩
  · dsimp only [Pt.U, Pt.locs, Pt.cells, Pt.slots] at X' e1 e2 h1 h2 h3 st hcl
    subst h1; subst h2; subst h3
    exact Or.inr ⟨q, (T.setVm vm₁).calling g' mk As.toArray, t, U', L, E, ce, hT, X', hL, e1, e2, hq, hce, hcv, vx_cls hW₁ hcl, st⟩
end
end VXH
theorem vx_ofWH {l : Launch} {y : MethodName} {ws ws' : List Cond} {rm : Room} {Pc : Array Value → State → Prop} {Qc : Array Value → State → Outcome → State → Prop} {XC : String → State → State → Prop} {mc ms : Nat} {free : Addr → Prop} {cc : ByteArray} {maxL : Nat} {ret : Option FieldType} {hh : List (Nat × Nat × Nat × Nat)}
    (hy : plainName y.cls = true) (hw : ws = Cond.codeWith y cc maxL ret hh :: ws')
    (body : ∀ p e s m args below meth c s₁, BodyLoose p l y (headSpec ws rm) cc maxL ret e s m args below meth c s₁ → c.maxLocals = maxL → Pc args s →
      W p l e (headSpec ws rm).room s m args below meth c s.heap [] 0 0 (vx_MQ below Qc XC args s mc ms free) (entryFrame m args maxL)) : vx_Met l y ws rm Pc Qc XC mc ms free := by
  refine MetFree.of_bodyS (code := cc) (maxLocals := maxL) (ret := ret) hy ?_ ?_
  · intro args s m h hn
    obtain ⟨m9, meth, c, hn9, h1, h2, h3, h4, -, h5, h6, -⟩ := Cond.codeWith_spec (atoms_spec (ws := ws) h _ (by rw [hw]; exact List.mem_cons_self))
    cases hn.symm.trans hn9
    exact ⟨meth, c, h1, h2, h3, h4, h5, h6⟩
  · intro p e s m args below meth c s₁ B hml hP _
    have hh0 : s₁.heap = s.heap := by rw [B.state]; rfl
    obtain ⟨t, a1, o, b1, b2, b3⟩ := body p e s m args below meth c s₁ B hml hP s₁ hh0 (Stand.of_body B)
    exact ⟨t, o, a1, b1, b2, b3⟩
/-! ===== END ===== -/


/-! THE GOOD WORDS OF THE TABLES: every method asks for the same list, beside its own code. -/
def gw : List Cond := lw_tbl.filter goodWord
theorem gw_mem {w : Cond} (i : Nat) (h : tables_1[i]? = some w) (hg : goodWord w = true) : w ∈ gw := List.mem_filter.mpr ⟨List.mem_append_right _ (List.mem_of_getElem? h), hg⟩
theorem gw_sel {q : MethodName × Nat} (i : Nat) (h : lw_privs[i]? = some q) : Cond.selects q.1.cls q.1 q.1 ∈ gw :=
  List.mem_filter.mpr ⟨List.mem_append_left _ (List.mem_map.mpr ⟨q, List.mem_of_getElem? h, rfl⟩), rfl⟩
theorem gw_good : GoodIn gw gw := fun w h => ⟨h, good_of_word (List.mem_filter.mp h).2⟩
theorem gw_code {w : Cond} (h : w ∈ gw) : GoodIn gw (w :: gw) := fun z hz => (List.mem_cons.mp hz).elim (fun q => by rw [q]; exact gw_good _ h) (gw_good z)
theorem gw_V {own C : String} {idx : Nat} {y : MethodName} {w : Cond} (h : w ∈ gw) (h1 : Cond.methodLink own idx y ∈ gw) (h2 : Cond.instanceMethod y ∈ gw) (h3 : Cond.selects C y y ∈ gw) (h4 : Cond.initialized C ∈ gw) : GoodIn gw (wsV own idx C y (w :: gw)) := by
  intro z hz
  rcases List.mem_append.mp hz with q | q
  · simp only [List.mem_cons, List.not_mem_nil, or_false] at q
    rcases q with rfl | rfl | rfl | rfl
    · exact gw_good _ h1
    · exact gw_good _ h2
    · exact gw_good _ h3
    · exact gw_good _ h4
  · exact gw_code h z q
theorem gw_S {own : String} {idx : Nat} {y : MethodName} {w : Cond} (h : w ∈ gw) (h1 : Cond.methodLink own idx y ∈ gw) (h2 : Cond.static y ∈ gw) (h3 : Cond.initialized own ∈ gw) : GoodIn gw (wsS own idx y (w :: gw)) := by
  intro z hz
  rcases List.mem_append.mp hz with q | q
  · simp only [List.mem_cons, List.not_mem_nil, or_false] at q
    rcases q with rfl | rfl | rfl
    · exact gw_good _ h1
    · exact gw_good _ h2
    · exact gw_good _ h3
  · exact gw_code h z q
theorem gw_tbl {args : Array Value} {s : State} (h : ∀ w ∈ lw_tbl, w.before args s = true) : ∀ w ∈ gw, w.before args s = true := fun w hw => h w (List.mem_filter.mp hw).1
end
section
def R_B : String := "RoundTrips$Building"
def F_B : u_T := fun k => match k with
  | 0 => ("RoundTrips$Building", "personsOf", "[I", true)
  | 1 => ("RoundTrips$Building", "heightOf", "[I", true)
  | 2 => ("RoundTrips$Building", "floors", "I", false)
  | _ => ("RoundTrips$Building", "everybody", "I", false)
def ft_B : Nat → FieldType := fun k => match k with
  | 0 => .array .int
  | 1 => .array .int
  | 2 => .int
  | _ => .int
theorem n_B : ∀ a, a < 4 → ∀ b, b < 4 → a ≠ b → (F_B a).2.1 ≠ (F_B b).2.1 := by decide +kernel
theorem ft_B_ok : ∀ k, k < 4 → parseFieldDescriptor (F_B k).2.2.1 = some (ft_B k) := by decide +kernel
set_option maxRecDepth 20000 in
theorem i_B : ∀ w ∈ u_ws R_B F_B 4, w ∈ gw := by decide +kernel
def R_C : String := "RoundTrips$CarType"
def F_C : u_T := fun k => match k with
  | 0 => ("RoundTrips$CarType", "room", "I", true)
  | 1 => ("RoundTrips$CarType", "speed", "I", true)
  | 2 => ("RoundTrips$CarType", "doors", "I", true)
  | 3 => ("RoundTrips$CarType", "people", "I", true)
  | _ => ("RoundTrips$CarType", "cents", "I", true)
def ft_C : Nat → FieldType := fun k => match k with
  | 0 => .int
  | 1 => .int
  | 2 => .int
  | 3 => .int
  | _ => .int
theorem n_C : ∀ a, a < 5 → ∀ b, b < 5 → a ≠ b → (F_C a).2.1 ≠ (F_C b).2.1 := by decide +kernel
theorem ft_C_ok : ∀ k, k < 5 → parseFieldDescriptor (F_C k).2.2.1 = some (ft_C k) := by decide +kernel
set_option maxRecDepth 20000 in
theorem i_C : ∀ w ∈ u_ws R_C F_C 5, w ∈ gw := by decide +kernel
def R_O : String := "RoundTrips$Odds"
def F_O : u_T := fun k => match k with
  | 0 => ("RoundTrips$Odds", "empty", "Z", false)
  | 1 => ("RoundTrips$Odds", "ways", "J", false)
  | 2 => ("RoundTrips$Odds", "stopsOfAll", "J", false)
  | _ => ("RoundTrips$Odds", "heightsOfAll", "J", false)
def ft_O : Nat → FieldType := fun k => match k with
  | 0 => .boolean
  | 1 => .long
  | 2 => .long
  | _ => .long
theorem n_O : ∀ a, a < 4 → ∀ b, b < 4 → a ≠ b → (F_O a).2.1 ≠ (F_O b).2.1 := by decide +kernel
theorem ft_O_ok : ∀ k, k < 4 → parseFieldDescriptor (F_O k).2.2.1 = some (ft_O k) := by decide +kernel
set_option maxRecDepth 20000 in
theorem i_O : ∀ w ∈ u_ws R_O F_O 4, w ∈ gw := by decide +kernel
def R_S : String := "RoundTrips$Splits"
def F_S : u_T := fun k => match k with
  | 0 => ("RoundTrips$Splits", "tripsAbove", "[J", true)
  | 1 => ("RoundTrips$Splits", "tripsBelow", "[J", true)
  | 2 => ("RoundTrips$Splits", "ends", "[I", true)
  | 3 => ("RoundTrips$Splits", "bestEnds", "[I", true)
  | 4 => ("RoundTrips$Splits", "bestLongest", "I", false)
  | 5 => ("RoundTrips$Splits", "floors", "I", false)
  | _ => ("RoundTrips$Splits", "zones", "I", false)
def ft_S : Nat → FieldType := fun k => match k with
  | 0 => .array .long
  | 1 => .array .long
  | 2 => .array .int
  | 3 => .array .int
  | 4 => .int
  | 5 => .int
  | _ => .int
theorem n_S : ∀ a, a < 7 → ∀ b, b < 7 → a ≠ b → (F_S a).2.1 ≠ (F_S b).2.1 := by decide +kernel
theorem ft_S_ok : ∀ k, k < 7 → parseFieldDescriptor (F_S k).2.2.1 = some (ft_S k) := by decide +kernel
set_option maxRecDepth 20000 in
theorem i_S : ∀ w ∈ u_ws R_S F_S 7, w ∈ gw := by decide +kernel
def R_A : String := "RoundTrips$Stairs"
def F_A : u_T := fun k => match k with
  | 0 => ("RoundTrips$Stairs", "at", "[I", true)
  | _ => ("RoundTrips$Stairs", "inside", "I", false)
def ft_A : Nat → FieldType := fun k => match k with
  | 0 => .array .int
  | _ => .int
theorem n_A : ∀ a, a < 2 → ∀ b, b < 2 → a ≠ b → (F_A a).2.1 ≠ (F_A b).2.1 := by decide +kernel
theorem ft_A_ok : ∀ k, k < 2 → parseFieldDescriptor (F_A k).2.2.1 = some (ft_A k) := by decide +kernel
set_option maxRecDepth 20000 in
theorem i_A : ∀ w ∈ u_ws R_A F_A 2, w ∈ gw := by decide +kernel
def R_T : String := "RoundTrips"
def F_T : u_T := fun k => match k with
  | 0 => ("RoundTrips", "building", "LRoundTrips$Building;", true)
  | 1 => ("RoundTrips", "types", "[LRoundTrips$CarType;", true)
  | 2 => ("RoundTrips", "typeCount", "I", false)
  | 3 => ("RoundTrips", "odds", "LRoundTrips$Odds;", true)
  | 4 => ("RoundTrips", "splits", "LRoundTrips$Splits;", true)
  | _ => ("RoundTrips", "stairs", "LRoundTrips$Stairs;", true)
def ft_T : Nat → FieldType := fun k => match k with
  | 0 => .object "RoundTrips$Building"
  | 1 => .array (.object "RoundTrips$CarType")
  | 2 => .int
  | 3 => .object "RoundTrips$Odds"
  | 4 => .object "RoundTrips$Splits"
  | _ => .object "RoundTrips$Stairs"
theorem n_T : ∀ a, a < 6 → ∀ b, b < 6 → a ≠ b → (F_T a).2.1 ≠ (F_T b).2.1 := by decide +kernel
theorem ft_T_ok : ∀ k, k < 6 → parseFieldDescriptor (F_T k).2.2.1 = some (ft_T k) := by decide +kernel
set_option maxRecDepth 20000 in
theorem i_T : ∀ w ∈ u_ws R_T F_T 6, w ∈ gw := by decide +kernel
def R_M : String := "RoundTripsModel"
def F_M : u_T := fun k => match k with
  | 0 => ("RoundTripsModel", "thrown", "I", false)
  | 1 => ("RoundTripsModel", "people", "[I", true)
  | 2 => ("RoundTripsModel", "heights", "[I", true)
  | 3 => ("RoundTripsModel", "floors", "I", false)
  | 4 => ("RoundTripsModel", "rooms", "[I", true)
  | 5 => ("RoundTripsModel", "speeds", "[I", true)
  | 6 => ("RoundTripsModel", "doors", "[I", true)
  | 7 => ("RoundTripsModel", "seconds", "[I", true)
  | 8 => ("RoundTripsModel", "cents", "[I", true)
  | 9 => ("RoundTripsModel", "types", "I", false)
  | 10 => ("RoundTripsModel", "above", "J", false)
  | 11 => ("RoundTripsModel", "below", "J", false)
  | 12 => ("RoundTripsModel", "tripAbove", "[J", true)
  | 13 => ("RoundTripsModel", "tripBelow", "[J", true)
  | 14 => ("RoundTripsModel", "ends", "[I", true)
  | 15 => ("RoundTripsModel", "best", "[I", true)
  | _ => ("RoundTripsModel", "at", "[I", true)
def ft_M : Nat → FieldType := fun k => match k with
  | 0 => .int
  | 1 => .array .int
  | 2 => .array .int
  | 3 => .int
  | 4 => .array .int
  | 5 => .array .int
  | 6 => .array .int
  | 7 => .array .int
  | 8 => .array .int
  | 9 => .int
  | 10 => .long
  | 11 => .long
  | 12 => .array .long
  | 13 => .array .long
  | 14 => .array .int
  | 15 => .array .int
  | _ => .array .int
theorem n_M : ∀ a, a < 17 → ∀ b, b < 17 → a ≠ b → (F_M a).2.1 ≠ (F_M b).2.1 := by decide +kernel
theorem ft_M_ok : ∀ k, k < 17 → parseFieldDescriptor (F_M k).2.2.1 = some (ft_M k) := by decide +kernel
set_option maxRecDepth 20000 in
theorem i_M : ∀ w ∈ u_ws R_M F_M 17, w ∈ gw := by decide +kernel
def R_L : String := "RoundTripsLaw"
abbrev vwCl : List vw_C := [(R_B, F_B, 4), (R_C, F_C, 5), (R_O, F_O, 4), (R_S, F_S, 7), (R_A, F_A, 2), (R_T, F_T, 6), (R_M, F_M, 17)]
abbrev b_T_init : ByteArray := prog_1_method_1_code
def y_T_init : MethodName := ⟨R_T, "<init>", "()V"⟩
abbrev b_B_init : ByteArray := prog_2_method_1_code
def y_B_init : MethodName := ⟨R_B, "<init>", "()V"⟩
abbrev b_O_init : ByteArray := prog_4_method_1_code
def y_O_init : MethodName := ⟨R_O, "<init>", "()V"⟩
abbrev b_S_init : ByteArray := prog_5_method_1_code
def y_S_init : MethodName := ⟨R_S, "<init>", "()V"⟩
abbrev b_A_init : ByteArray := prog_6_method_1_code
def y_A_init : MethodName := ⟨R_A, "<init>", "()V"⟩
abbrev b_L_floor : ByteArray := method_3_code
def y_L_floor : MethodName := ⟨R_L, "floor", "(LRoundTrips;II[J)I"⟩
abbrev b_T_floor : ByteArray := prog_1_method_2_code
def y_T_floor : MethodName := ⟨R_T, "floor", "(II)I"⟩
abbrev b_T_requireWithin : ByteArray := prog_1_method_15_code
def y_T_requireWithin : MethodName := ⟨R_T, "requireWithin", "(III)V"⟩
abbrev b_T_requireRoomForAll : ByteArray := prog_1_method_20_code
def y_T_requireRoomForAll : MethodName := ⟨R_T, "requireRoomForAll", "(I)V"⟩
abbrev b_B_addFloor : ByteArray := prog_2_method_2_code
def y_B_addFloor : MethodName := ⟨R_B, "addFloor", "(II)I"⟩
abbrev b_L_persons : ByteArray := method_4_code
def y_L_persons : MethodName := ⟨R_L, "persons", "(LRoundTrips;II[J)I"⟩
abbrev b_T_persons : ByteArray := prog_1_method_3_code
def y_T_persons : MethodName := ⟨R_T, "persons", "(II)I"⟩
abbrev b_T_requireFloor : ByteArray := prog_1_method_16_code
def y_T_requireFloor : MethodName := ⟨R_T, "requireFloor", "(I)V"⟩
abbrev b_L_type : ByteArray := method_5_code
def y_L_type : MethodName := ⟨R_L, "type", "(LRoundTrips;IIIII[J)I"⟩
abbrev b_T_type : ByteArray := prog_1_method_4_code
def y_T_type : MethodName := ⟨R_T, "type", "(IIIII)I"⟩
abbrev b_C_init : ByteArray := prog_3_method_1_code
def y_C_init : MethodName := ⟨R_C, "<init>", "(IIIII)V"⟩
abbrev b_L_stops : ByteArray := method_6_code
def y_L_stops : MethodName := ⟨R_L, "stops", "(LRoundTrips;IIII[J)I"⟩
abbrev b_T_stops : ByteArray := prog_1_method_5_code
def y_T_stops : MethodName := ⟨R_T, "stops", "(IIII)J"⟩
abbrev b_T_countOdds : ByteArray := prog_1_method_21_code
def y_T_countOdds : MethodName := ⟨R_T, "countOdds", "(IIII)LRoundTrips$CarType;"⟩
abbrev b_T_requireType : ByteArray := prog_1_method_18_code
def y_T_requireType : MethodName := ⟨R_T, "requireType", "(I)LRoundTrips$CarType;"⟩
abbrev b_T_requireZone : ByteArray := prog_1_method_17_code
def y_T_requireZone : MethodName := ⟨R_T, "requireZone", "(II)V"⟩
abbrev b_O_count : ByteArray := prog_4_method_2_code
def y_O_count : MethodName := ⟨R_O, "count", "(LRoundTrips$Building;III)V"⟩
abbrev b_B_personsBetween : ByteArray := prog_2_method_3_code
def y_B_personsBetween : MethodName := ⟨R_B, "personsBetween", "(II)I"⟩
abbrev b_O_power : ByteArray := prog_4_method_6_code
def y_O_power : MethodName := ⟨R_O, "power", "(JI)J"⟩
abbrev b_T_partInLowestTerms : ByteArray := prog_1_method_23_code
def y_T_partInLowestTerms : MethodName := ⟨R_T, "partInLowestTerms", "(JJI)J"⟩
abbrev b_T_commonDivisor : ByteArray := prog_1_method_24_code
def y_T_commonDivisor : MethodName := ⟨R_T, "commonDivisor", "(JJ)J"⟩
abbrev b_L_highest : ByteArray := method_7_code
def y_L_highest : MethodName := ⟨R_L, "highest", "(LRoundTrips;IIII[J)I"⟩
abbrev b_T_highest : ByteArray := prog_1_method_6_code
def y_T_highest : MethodName := ⟨R_T, "highest", "(IIII)J"⟩
abbrev b_L_trip : ByteArray := method_8_code
def y_L_trip : MethodName := ⟨R_L, "trip", "(LRoundTrips;IIII[J)I"⟩
abbrev b_T_trip : ByteArray := prog_1_method_7_code
def y_T_trip : MethodName := ⟨R_T, "trip", "(IIII)J"⟩
abbrev b_O_tripAbove : ByteArray := prog_4_method_3_code
def y_O_tripAbove : MethodName := ⟨R_O, "tripAbove", "(LRoundTrips$CarType;)J"⟩
abbrev b_O_tripBelow : ByteArray := prog_4_method_4_code
def y_O_tripBelow : MethodName := ⟨R_O, "tripBelow", "(LRoundTrips$CarType;)J"⟩
abbrev b_L_compare : ByteArray := method_9_code
def y_L_compare : MethodName := ⟨R_L, "compare", "(LRoundTrips;IIII[J)I"⟩
abbrev b_T_compare : ByteArray := prog_1_method_8_code
def y_T_compare : MethodName := ⟨R_T, "compare", "(IIII)I"⟩
abbrev b_T_orderOfFractions : ByteArray := prog_1_method_25_code
def y_T_orderOfFractions : MethodName := ⟨R_T, "orderOfFractions", "(JJJJ)I"⟩
abbrev b_L_carried : ByteArray := method_10_code
def y_L_carried : MethodName := ⟨R_L, "carried", "(LRoundTrips;II[J)I"⟩
abbrev b_T_carried : ByteArray := prog_1_method_9_code
def y_T_carried : MethodName := ⟨R_T, "carried", "(II)J"⟩
abbrev b_T_requireSomeFloor : ByteArray := prog_1_method_19_code
def y_T_requireSomeFloor : MethodName := ⟨R_T, "requireSomeFloor", "()V"⟩
abbrev b_O_carriedBy : ByteArray := prog_4_method_5_code
def y_O_carriedBy : MethodName := ⟨R_O, "carriedBy", "(ILRoundTrips$CarType;)J"⟩
abbrev b_L_cheapest : ByteArray := method_11_code
def y_L_cheapest : MethodName := ⟨R_L, "cheapest", "(LRoundTrips;I[J)I"⟩
abbrev b_T_cheapest : ByteArray := prog_1_method_10_code
def y_T_cheapest : MethodName := ⟨R_T, "cheapest", "(I)I"⟩
abbrev b_T_fewestCars : ByteArray := prog_1_method_22_code
def y_T_fewestCars : MethodName := ⟨R_T, "fewestCars", "(LRoundTrips$CarType;I)I"⟩
abbrev b_L_split : ByteArray := method_12_code
def y_L_split : MethodName := ⟨R_L, "split", "(LRoundTrips;III[J)I"⟩
abbrev b_T_split : ByteArray := prog_1_method_11_code
def y_T_split : MethodName := ⟨R_T, "split", "(III)I"⟩
abbrev b_S_measureZones : ByteArray := prog_5_method_2_code
def y_S_measureZones : MethodName := ⟨R_S, "measureZones", "(LRoundTrips$Building;LRoundTrips$CarType;LRoundTrips$Odds;)V"⟩
abbrev b_S_zone : ByteArray := prog_5_method_8_code
def y_S_zone : MethodName := ⟨R_S, "zone", "(II)I"⟩
abbrev b_S_findBest : ByteArray := prog_5_method_3_code
def y_S_findBest : MethodName := ⟨R_S, "findBest", "(II)V"⟩
abbrev b_S_tryZonesFrom : ByteArray := prog_5_method_4_code
def y_S_tryZonesFrom : MethodName := ⟨R_S, "tryZonesFrom", "(III)V"⟩
abbrev b_S_longer : ByteArray := prog_5_method_6_code
def y_S_longer : MethodName := ⟨R_S, "longer", "(II)I"⟩
abbrev b_S_order : ByteArray := prog_5_method_7_code
def y_S_order : MethodName := ⟨R_S, "order", "(II)I"⟩
abbrev b_S_keepIfBetter : ByteArray := prog_5_method_5_code
def y_S_keepIfBetter : MethodName := ⟨R_S, "keepIfBetter", "(I)V"⟩
abbrev b_L_out : ByteArray := method_13_code
def y_L_out : MethodName := ⟨R_L, "out", "(LRoundTrips;I[J)I"⟩
abbrev b_T_out : ByteArray := prog_1_method_12_code
def y_T_out : MethodName := ⟨R_T, "out", "(I)I"⟩
abbrev b_A_begin : ByteArray := prog_6_method_2_code
def y_A_begin : MethodName := ⟨R_A, "begin", "(LRoundTrips$Building;)V"⟩
abbrev b_A_oneSecond : ByteArray := prog_6_method_3_code
def y_A_oneSecond : MethodName := ⟨R_A, "oneSecond", "(II)V"⟩
abbrev b_L_there : ByteArray := method_14_code
def y_L_there : MethodName := ⟨R_L, "there", "(LRoundTrips;III[J)I"⟩
abbrev b_T_there : ByteArray := prog_1_method_13_code
def y_T_there : MethodName := ⟨R_T, "there", "(III)I"⟩
abbrev b_L_crowd : ByteArray := method_15_code
def y_L_crowd : MethodName := ⟨R_L, "crowd", "(LRoundTrips;II[J)I"⟩
abbrev b_T_crowd : ByteArray := prog_1_method_14_code
def y_T_crowd : MethodName := ⟨R_T, "crowd", "(II)I"⟩
abbrev b_M_init : ByteArray := prog_8_method_1_code
def y_M_init : MethodName := ⟨R_M, "<init>", "()V"⟩
abbrev b_M_thrown : ByteArray := prog_8_method_2_code
def y_M_thrown : MethodName := ⟨R_M, "thrown", "()I"⟩
abbrev b_M_floor : ByteArray := prog_8_method_5_code
def y_M_floor : MethodName := ⟨R_M, "floor", "(II)I"⟩
abbrev b_M_isIn : ByteArray := prog_8_method_3_code
def y_M_isIn : MethodName := ⟨R_M, "isIn", "(III)Z"⟩
abbrev b_M_allPersons : ByteArray := prog_8_method_4_code
def y_M_allPersons : MethodName := ⟨R_M, "allPersons", "()I"⟩
abbrev b_M_persons : ByteArray := prog_8_method_7_code
def y_M_persons : MethodName := ⟨R_M, "persons", "(II)I"⟩
abbrev b_M_noFloor : ByteArray := prog_8_method_6_code
def y_M_noFloor : MethodName := ⟨R_M, "noFloor", "(I)Z"⟩
abbrev b_M_type : ByteArray := prog_8_method_8_code
def y_M_type : MethodName := ⟨R_M, "type", "(IIIII)I"⟩
abbrev b_M_stops : ByteArray := prog_8_method_17_code
def y_M_stops : MethodName := ⟨R_M, "stops", "(IIII)J"⟩
abbrev b_M_noZone : ByteArray := prog_8_method_15_code
def y_M_noZone : MethodName := ⟨R_M, "noZone", "(III)Z"⟩
abbrev b_M_zonePersons : ByteArray := prog_8_method_10_code
def y_M_zonePersons : MethodName := ⟨R_M, "zonePersons", "(II)I"⟩
abbrev b_M_power : ByteArray := prog_8_method_9_code
def y_M_power : MethodName := ⟨R_M, "power", "(JI)J"⟩
abbrev b_M_stopsOf : ByteArray := prog_8_method_11_code
def y_M_stopsOf : MethodName := ⟨R_M, "stopsOf", "(III)J"⟩
abbrev b_M_lowest : ByteArray := prog_8_method_13_code
def y_M_lowest : MethodName := ⟨R_M, "lowest", "(JJ)V"⟩
abbrev b_M_part : ByteArray := prog_8_method_16_code
def y_M_part : MethodName := ⟨R_M, "part", "(I)J"⟩
abbrev b_M_highest : ByteArray := prog_8_method_18_code
def y_M_highest : MethodName := ⟨R_M, "highest", "(IIII)J"⟩
abbrev b_M_highestOf : ByteArray := prog_8_method_12_code
def y_M_highestOf : MethodName := ⟨R_M, "highestOf", "(III)J"⟩
abbrev b_M_trip : ByteArray := prog_8_method_19_code
def y_M_trip : MethodName := ⟨R_M, "trip", "(IIII)J"⟩
abbrev b_M_reckonTrip : ByteArray := prog_8_method_14_code
def y_M_reckonTrip : MethodName := ⟨R_M, "reckonTrip", "(III)V"⟩
abbrev b_M_compare : ByteArray := prog_8_method_21_code
def y_M_compare : MethodName := ⟨R_M, "compare", "(IIII)I"⟩
abbrev b_M_order : ByteArray := prog_8_method_20_code
def y_M_order : MethodName := ⟨R_M, "order", "(JJJJ)I"⟩
abbrev b_M_carried : ByteArray := prog_8_method_23_code
def y_M_carried : MethodName := ⟨R_M, "carried", "(II)J"⟩
abbrev b_M_carriedBy : ByteArray := prog_8_method_22_code
def y_M_carriedBy : MethodName := ⟨R_M, "carriedBy", "(II)J"⟩
abbrev b_M_cheapest : ByteArray := prog_8_method_24_code
def y_M_cheapest : MethodName := ⟨R_M, "cheapest", "(I)I"⟩
abbrev b_M_split : ByteArray := prog_8_method_27_code
def y_M_split : MethodName := ⟨R_M, "split", "(III)I"⟩
abbrev b_M_longest : ByteArray := prog_8_method_25_code
def y_M_longest : MethodName := ⟨R_M, "longest", "(I)I"⟩
abbrev b_M_nextEnds : ByteArray := prog_8_method_26_code
def y_M_nextEnds : MethodName := ⟨R_M, "nextEnds", "(I)Z"⟩
abbrev b_M_out : ByteArray := prog_8_method_31_code
def y_M_out : MethodName := ⟨R_M, "out", "(I)I"⟩
abbrev b_M_begin : ByteArray := prog_8_method_28_code
def y_M_begin : MethodName := ⟨R_M, "begin", "()V"⟩
abbrev b_M_inside : ByteArray := prog_8_method_29_code
def y_M_inside : MethodName := ⟨R_M, "inside", "()I"⟩
abbrev b_M_second : ByteArray := prog_8_method_30_code
def y_M_second : MethodName := ⟨R_M, "second", "(I)V"⟩
abbrev b_M_there : ByteArray := prog_8_method_32_code
def y_M_there : MethodName := ⟨R_M, "there", "(III)I"⟩
abbrev b_M_crowd : ByteArray := prog_8_method_33_code
def y_M_crowd : MethodName := ⟨R_M, "crowd", "(II)I"⟩
def y_L_law : MethodName := ⟨R_L, "law", "([I)Z"⟩
end
section
theorem d_T_init_0 : decode b_T_init 0 = .ok (.aload_n 0, 1) := by decide +kernel
theorem d_T_init_1 : decode b_T_init 1 = .ok (.invokespecial 1, 3) := by decide +kernel
theorem d_T_init_4 : decode b_T_init 4 = .ok (.aload_n 0, 1) := by decide +kernel
theorem d_T_init_5 : decode b_T_init 5 = .ok (.new 7, 3) := by decide +kernel
theorem d_T_init_8 : decode b_T_init 8 = .ok (.dup, 1) := by decide +kernel
theorem d_T_init_9 : decode b_T_init 9 = .ok (.invokespecial 9, 3) := by decide +kernel
theorem d_T_init_12 : decode b_T_init 12 = .ok (.putfield 10, 3) := by decide +kernel
theorem d_T_init_15 : decode b_T_init 15 = .ok (.aload_n 0, 1) := by decide +kernel
theorem d_T_init_16 : decode b_T_init 16 = .ok (.bipush 6, 2) := by decide +kernel
theorem d_T_init_18 : decode b_T_init 18 = .ok (.anewarray 16, 3) := by decide +kernel
theorem d_T_init_21 : decode b_T_init 21 = .ok (.putfield 18, 3) := by decide +kernel
theorem d_T_init_24 : decode b_T_init 24 = .ok (.aload_n 0, 1) := by decide +kernel
theorem d_T_init_25 : decode b_T_init 25 = .ok (.iconst 0, 1) := by decide +kernel
theorem d_T_init_26 : decode b_T_init 26 = .ok (.putfield 22, 3) := by decide +kernel
theorem d_T_init_29 : decode b_T_init 29 = .ok (.aload_n 0, 1) := by decide +kernel
theorem d_T_init_30 : decode b_T_init 30 = .ok (.new 26, 3) := by decide +kernel
theorem d_T_init_33 : decode b_T_init 33 = .ok (.dup, 1) := by decide +kernel
theorem d_T_init_34 : decode b_T_init 34 = .ok (.invokespecial 28, 3) := by decide +kernel
theorem d_T_init_37 : decode b_T_init 37 = .ok (.putfield 29, 3) := by decide +kernel
theorem d_T_init_40 : decode b_T_init 40 = .ok (.aload_n 0, 1) := by decide +kernel
theorem d_T_init_41 : decode b_T_init 41 = .ok (.new 33, 3) := by decide +kernel
theorem d_T_init_44 : decode b_T_init 44 = .ok (.dup, 1) := by decide +kernel
theorem d_T_init_45 : decode b_T_init 45 = .ok (.invokespecial 35, 3) := by decide +kernel
theorem d_T_init_48 : decode b_T_init 48 = .ok (.putfield 36, 3) := by decide +kernel
theorem d_T_init_51 : decode b_T_init 51 = .ok (.aload_n 0, 1) := by decide +kernel
theorem d_T_init_52 : decode b_T_init 52 = .ok (.new 40, 3) := by decide +kernel
theorem d_T_init_55 : decode b_T_init 55 = .ok (.dup, 1) := by decide +kernel
theorem d_T_init_56 : decode b_T_init 56 = .ok (.invokespecial 42, 3) := by decide +kernel
theorem d_T_init_59 : decode b_T_init 59 = .ok (.putfield 43, 3) := by decide +kernel
theorem d_T_init_62 : decode b_T_init 62 = .ok (.return_, 1) := by decide +kernel
theorem d_T_floor_0 : decode b_T_floor 0 = .ok (.iload_n 1, 1) := by decide +kernel
theorem d_T_floor_1 : decode b_T_floor 1 = .ok (.iconst 0, 1) := by decide +kernel
theorem d_T_floor_2 : decode b_T_floor 2 = .ok (.sipush 200, 3) := by decide +kernel
theorem d_T_floor_5 : decode b_T_floor 5 = .ok (.invokestatic 47, 3) := by decide +kernel
theorem d_T_floor_8 : decode b_T_floor 8 = .ok (.iload_n 2, 1) := by decide +kernel
theorem d_T_floor_9 : decode b_T_floor 9 = .ok (.bipush 10, 2) := by decide +kernel
theorem d_T_floor_11 : decode b_T_floor 11 = .ok (.bipush 100, 2) := by decide +kernel
theorem d_T_floor_13 : decode b_T_floor 13 = .ok (.invokestatic 47, 3) := by decide +kernel
theorem d_T_floor_16 : decode b_T_floor 16 = .ok (.aload_n 0, 1) := by decide +kernel
theorem d_T_floor_17 : decode b_T_floor 17 = .ok (.getfield 10, 3) := by decide +kernel
theorem d_T_floor_20 : decode b_T_floor 20 = .ok (.getfield 51, 3) := by decide +kernel
theorem d_T_floor_23 : decode b_T_floor 23 = .ok (.bipush 12, 2) := by decide +kernel
theorem d_T_floor_25 : decode b_T_floor 25 = .ok (.if_icmp .lt 13, 3) := by decide +kernel
theorem d_T_floor_28 : decode b_T_floor 28 = .ok (.new 54, 3) := by decide +kernel
theorem d_T_floor_31 : decode b_T_floor 31 = .ok (.dup, 1) := by decide +kernel
theorem d_T_floor_32 : decode b_T_floor 32 = .ok (.ldc 56, 2) := by decide +kernel
theorem d_T_floor_34 : decode b_T_floor 34 = .ok (.invokespecial 58, 3) := by decide +kernel
theorem d_T_floor_37 : decode b_T_floor 37 = .ok (.athrow, 1) := by decide +kernel
theorem d_T_floor_38 : decode b_T_floor 38 = .ok (.aload_n 0, 1) := by decide +kernel
theorem d_T_floor_39 : decode b_T_floor 39 = .ok (.getfield 10, 3) := by decide +kernel
theorem d_T_floor_42 : decode b_T_floor 42 = .ok (.getfield 61, 3) := by decide +kernel
theorem d_T_floor_45 : decode b_T_floor 45 = .ok (.iload_n 1, 1) := by decide +kernel
theorem d_T_floor_46 : decode b_T_floor 46 = .ok (.iadd, 1) := by decide +kernel
theorem d_T_floor_47 : decode b_T_floor 47 = .ok (.invokestatic 64, 3) := by decide +kernel
theorem d_T_floor_50 : decode b_T_floor 50 = .ok (.aload_n 0, 1) := by decide +kernel
theorem d_T_floor_51 : decode b_T_floor 51 = .ok (.getfield 10, 3) := by decide +kernel
theorem d_T_floor_54 : decode b_T_floor 54 = .ok (.iload_n 1, 1) := by decide +kernel
theorem d_T_floor_55 : decode b_T_floor 55 = .ok (.iload_n 2, 1) := by decide +kernel
theorem d_T_floor_56 : decode b_T_floor 56 = .ok (.invokevirtual 68, 3) := by decide +kernel
theorem d_T_floor_59 : decode b_T_floor 59 = .ok (.ireturn, 1) := by decide +kernel
theorem d_T_persons_0 : decode b_T_persons 0 = .ok (.aload_n 0, 1) := by decide +kernel
theorem d_T_persons_1 : decode b_T_persons 1 = .ok (.iload_n 1, 1) := by decide +kernel
theorem d_T_persons_2 : decode b_T_persons 2 = .ok (.invokevirtual 72, 3) := by decide +kernel
theorem d_T_persons_5 : decode b_T_persons 5 = .ok (.iload_n 2, 1) := by decide +kernel
theorem d_T_persons_6 : decode b_T_persons 6 = .ok (.iconst 0, 1) := by decide +kernel
theorem d_T_persons_7 : decode b_T_persons 7 = .ok (.sipush 200, 3) := by decide +kernel
theorem d_T_persons_10 : decode b_T_persons 10 = .ok (.invokestatic 47, 3) := by decide +kernel
theorem d_T_persons_13 : decode b_T_persons 13 = .ok (.aload_n 0, 1) := by decide +kernel
theorem d_T_persons_14 : decode b_T_persons 14 = .ok (.getfield 10, 3) := by decide +kernel
theorem d_T_persons_17 : decode b_T_persons 17 = .ok (.getfield 75, 3) := by decide +kernel
theorem d_T_persons_20 : decode b_T_persons 20 = .ok (.iload_n 1, 1) := by decide +kernel
theorem d_T_persons_21 : decode b_T_persons 21 = .ok (.iaload, 1) := by decide +kernel
theorem d_T_persons_22 : decode b_T_persons 22 = .ok (.istore_n 3, 1) := by decide +kernel
theorem d_T_persons_23 : decode b_T_persons 23 = .ok (.aload_n 0, 1) := by decide +kernel
theorem d_T_persons_24 : decode b_T_persons 24 = .ok (.getfield 10, 3) := by decide +kernel
theorem d_T_persons_27 : decode b_T_persons 27 = .ok (.getfield 61, 3) := by decide +kernel
theorem d_T_persons_30 : decode b_T_persons 30 = .ok (.iload_n 3, 1) := by decide +kernel
theorem d_T_persons_31 : decode b_T_persons 31 = .ok (.isub, 1) := by decide +kernel
theorem d_T_persons_32 : decode b_T_persons 32 = .ok (.iload_n 2, 1) := by decide +kernel
theorem d_T_persons_33 : decode b_T_persons 33 = .ok (.iadd, 1) := by decide +kernel
theorem d_T_persons_34 : decode b_T_persons 34 = .ok (.invokestatic 64, 3) := by decide +kernel
theorem d_T_persons_37 : decode b_T_persons 37 = .ok (.aload_n 0, 1) := by decide +kernel
theorem d_T_persons_38 : decode b_T_persons 38 = .ok (.getfield 10, 3) := by decide +kernel
theorem d_T_persons_41 : decode b_T_persons 41 = .ok (.getfield 75, 3) := by decide +kernel
theorem d_T_persons_44 : decode b_T_persons 44 = .ok (.iload_n 1, 1) := by decide +kernel
theorem d_T_persons_45 : decode b_T_persons 45 = .ok (.iload_n 2, 1) := by decide +kernel
theorem d_T_persons_46 : decode b_T_persons 46 = .ok (.iastore, 1) := by decide +kernel
theorem d_T_persons_47 : decode b_T_persons 47 = .ok (.aload_n 0, 1) := by decide +kernel
theorem d_T_persons_48 : decode b_T_persons 48 = .ok (.getfield 10, 3) := by decide +kernel
theorem d_T_persons_51 : decode b_T_persons 51 = .ok (.dup, 1) := by decide +kernel
theorem d_T_persons_52 : decode b_T_persons 52 = .ok (.getfield 61, 3) := by decide +kernel
theorem d_T_persons_55 : decode b_T_persons 55 = .ok (.iload_n 2, 1) := by decide +kernel
theorem d_T_persons_56 : decode b_T_persons 56 = .ok (.iload_n 3, 1) := by decide +kernel
theorem d_T_persons_57 : decode b_T_persons 57 = .ok (.isub, 1) := by decide +kernel
theorem d_T_persons_58 : decode b_T_persons 58 = .ok (.iadd, 1) := by decide +kernel
theorem d_T_persons_59 : decode b_T_persons 59 = .ok (.putfield 61, 3) := by decide +kernel
theorem d_T_persons_62 : decode b_T_persons 62 = .ok (.iload_n 3, 1) := by decide +kernel
theorem d_T_persons_63 : decode b_T_persons 63 = .ok (.ireturn, 1) := by decide +kernel
theorem d_T_type_0 : decode b_T_type 0 = .ok (.iload_n 1, 1) := by decide +kernel
theorem d_T_type_1 : decode b_T_type 1 = .ok (.iconst 1, 1) := by decide +kernel
theorem d_T_type_2 : decode b_T_type 2 = .ok (.iconst 5, 1) := by decide +kernel
theorem d_T_type_3 : decode b_T_type 3 = .ok (.invokestatic 47, 3) := by decide +kernel
theorem d_T_type_6 : decode b_T_type 6 = .ok (.iload_n 2, 1) := by decide +kernel
theorem d_T_type_7 : decode b_T_type 7 = .ok (.iconst 1, 1) := by decide +kernel
theorem d_T_type_8 : decode b_T_type 8 = .ok (.bipush 100, 2) := by decide +kernel
theorem d_T_type_10 : decode b_T_type 10 = .ok (.invokestatic 47, 3) := by decide +kernel
theorem d_T_type_13 : decode b_T_type 13 = .ok (.iload_n 3, 1) := by decide +kernel
theorem d_T_type_14 : decode b_T_type 14 = .ok (.iconst 0, 1) := by decide +kernel
theorem d_T_type_15 : decode b_T_type 15 = .ok (.bipush 30, 2) := by decide +kernel
theorem d_T_type_17 : decode b_T_type 17 = .ok (.invokestatic 47, 3) := by decide +kernel
theorem d_T_type_20 : decode b_T_type 20 = .ok (.iload 4, 2) := by decide +kernel
theorem d_T_type_22 : decode b_T_type 22 = .ok (.iconst 0, 1) := by decide +kernel
theorem d_T_type_23 : decode b_T_type 23 = .ok (.bipush 10, 2) := by decide +kernel
theorem d_T_type_25 : decode b_T_type 25 = .ok (.invokestatic 47, 3) := by decide +kernel
theorem d_T_type_28 : decode b_T_type 28 = .ok (.iload 5, 2) := by decide +kernel
theorem d_T_type_30 : decode b_T_type 30 = .ok (.iconst 1, 1) := by decide +kernel
theorem d_T_type_31 : decode b_T_type 31 = .ok (.ldc 79, 2) := by decide +kernel
theorem d_T_type_33 : decode b_T_type 33 = .ok (.invokestatic 47, 3) := by decide +kernel
theorem d_T_type_36 : decode b_T_type 36 = .ok (.aload_n 0, 1) := by decide +kernel
theorem d_T_type_37 : decode b_T_type 37 = .ok (.getfield 22, 3) := by decide +kernel
theorem d_T_type_40 : decode b_T_type 40 = .ok (.istore 6, 2) := by decide +kernel
theorem d_T_type_42 : decode b_T_type 42 = .ok (.iload 6, 2) := by decide +kernel
theorem d_T_type_44 : decode b_T_type 44 = .ok (.bipush 6, 2) := by decide +kernel
theorem d_T_type_46 : decode b_T_type 46 = .ok (.if_icmp .lt 13, 3) := by decide +kernel
theorem d_T_type_49 : decode b_T_type 49 = .ok (.new 54, 3) := by decide +kernel
theorem d_T_type_52 : decode b_T_type 52 = .ok (.dup, 1) := by decide +kernel
theorem d_T_type_53 : decode b_T_type 53 = .ok (.ldc 80, 2) := by decide +kernel
theorem d_T_type_55 : decode b_T_type 55 = .ok (.invokespecial 58, 3) := by decide +kernel
theorem d_T_type_58 : decode b_T_type 58 = .ok (.athrow, 1) := by decide +kernel
theorem d_T_type_59 : decode b_T_type 59 = .ok (.aload_n 0, 1) := by decide +kernel
theorem d_T_type_60 : decode b_T_type 60 = .ok (.getfield 18, 3) := by decide +kernel
theorem d_T_type_63 : decode b_T_type 63 = .ok (.iload 6, 2) := by decide +kernel
theorem d_T_type_65 : decode b_T_type 65 = .ok (.new 16, 3) := by decide +kernel
theorem d_T_type_68 : decode b_T_type 68 = .ok (.dup, 1) := by decide +kernel
theorem d_T_type_69 : decode b_T_type 69 = .ok (.iload_n 1, 1) := by decide +kernel
theorem d_T_type_70 : decode b_T_type 70 = .ok (.iload_n 2, 1) := by decide +kernel
theorem d_T_type_71 : decode b_T_type 71 = .ok (.iload_n 3, 1) := by decide +kernel
theorem d_T_type_72 : decode b_T_type 72 = .ok (.iload 4, 2) := by decide +kernel
theorem d_T_type_74 : decode b_T_type 74 = .ok (.iload 5, 2) := by decide +kernel
theorem d_T_type_76 : decode b_T_type 76 = .ok (.invokespecial 82, 3) := by decide +kernel
theorem d_T_type_79 : decode b_T_type 79 = .ok (.aastore, 1) := by decide +kernel
theorem d_T_type_80 : decode b_T_type 80 = .ok (.aload_n 0, 1) := by decide +kernel
theorem d_T_type_81 : decode b_T_type 81 = .ok (.iload 6, 2) := by decide +kernel
theorem d_T_type_83 : decode b_T_type 83 = .ok (.iconst 1, 1) := by decide +kernel
theorem d_T_type_84 : decode b_T_type 84 = .ok (.iadd, 1) := by decide +kernel
theorem d_T_type_85 : decode b_T_type 85 = .ok (.putfield 22, 3) := by decide +kernel
theorem d_T_type_88 : decode b_T_type 88 = .ok (.iload 6, 2) := by decide +kernel
theorem d_T_type_90 : decode b_T_type 90 = .ok (.ireturn, 1) := by decide +kernel
theorem d_T_stops_0 : decode b_T_stops 0 = .ok (.aload_n 0, 1) := by decide +kernel
theorem d_T_stops_1 : decode b_T_stops 1 = .ok (.iload_n 1, 1) := by decide +kernel
theorem d_T_stops_2 : decode b_T_stops 2 = .ok (.iload_n 2, 1) := by decide +kernel
theorem d_T_stops_3 : decode b_T_stops 3 = .ok (.iload_n 3, 1) := by decide +kernel
theorem d_T_stops_4 : decode b_T_stops 4 = .ok (.iload 4, 2) := by decide +kernel
theorem d_T_stops_6 : decode b_T_stops 6 = .ok (.invokevirtual 85, 3) := by decide +kernel
theorem d_T_stops_9 : decode b_T_stops 9 = .ok (.pop, 1) := by decide +kernel
theorem d_T_stops_10 : decode b_T_stops 10 = .ok (.aload_n 0, 1) := by decide +kernel
theorem d_T_stops_11 : decode b_T_stops 11 = .ok (.getfield 29, 3) := by decide +kernel
theorem d_T_stops_14 : decode b_T_stops 14 = .ok (.getfield 89, 3) := by decide +kernel
theorem d_T_stops_17 : decode b_T_stops 17 = .ok (.aload_n 0, 1) := by decide +kernel
theorem d_T_stops_18 : decode b_T_stops 18 = .ok (.getfield 29, 3) := by decide +kernel
theorem d_T_stops_21 : decode b_T_stops 21 = .ok (.getfield 93, 3) := by decide +kernel
theorem d_T_stops_24 : decode b_T_stops 24 = .ok (.iload 4, 2) := by decide +kernel
theorem d_T_stops_26 : decode b_T_stops 26 = .ok (.invokestatic 96, 3) := by decide +kernel
theorem d_T_stops_29 : decode b_T_stops 29 = .ok (.lreturn, 1) := by decide +kernel
theorem d_T_highest_0 : decode b_T_highest 0 = .ok (.aload_n 0, 1) := by decide +kernel
theorem d_T_highest_1 : decode b_T_highest 1 = .ok (.iload_n 1, 1) := by decide +kernel
theorem d_T_highest_2 : decode b_T_highest 2 = .ok (.iload_n 2, 1) := by decide +kernel
theorem d_T_highest_3 : decode b_T_highest 3 = .ok (.iload_n 3, 1) := by decide +kernel
theorem d_T_highest_4 : decode b_T_highest 4 = .ok (.iload 4, 2) := by decide +kernel
theorem d_T_highest_6 : decode b_T_highest 6 = .ok (.invokevirtual 85, 3) := by decide +kernel
theorem d_T_highest_9 : decode b_T_highest 9 = .ok (.pop, 1) := by decide +kernel
theorem d_T_highest_10 : decode b_T_highest 10 = .ok (.aload_n 0, 1) := by decide +kernel
theorem d_T_highest_11 : decode b_T_highest 11 = .ok (.getfield 29, 3) := by decide +kernel
theorem d_T_highest_14 : decode b_T_highest 14 = .ok (.getfield 100, 3) := by decide +kernel
theorem d_T_highest_17 : decode b_T_highest 17 = .ok (.aload_n 0, 1) := by decide +kernel
theorem d_T_highest_18 : decode b_T_highest 18 = .ok (.getfield 29, 3) := by decide +kernel
theorem d_T_highest_21 : decode b_T_highest 21 = .ok (.getfield 93, 3) := by decide +kernel
theorem d_T_highest_24 : decode b_T_highest 24 = .ok (.iload 4, 2) := by decide +kernel
theorem d_T_highest_26 : decode b_T_highest 26 = .ok (.invokestatic 96, 3) := by decide +kernel
theorem d_T_highest_29 : decode b_T_highest 29 = .ok (.lreturn, 1) := by decide +kernel
theorem d_T_trip_0 : decode b_T_trip 0 = .ok (.aload_n 0, 1) := by decide +kernel
theorem d_T_trip_1 : decode b_T_trip 1 = .ok (.iload_n 1, 1) := by decide +kernel
theorem d_T_trip_2 : decode b_T_trip 2 = .ok (.iload_n 2, 1) := by decide +kernel
theorem d_T_trip_3 : decode b_T_trip 3 = .ok (.iload_n 3, 1) := by decide +kernel
theorem d_T_trip_4 : decode b_T_trip 4 = .ok (.iload 4, 2) := by decide +kernel
theorem d_T_trip_6 : decode b_T_trip 6 = .ok (.invokevirtual 85, 3) := by decide +kernel
theorem d_T_trip_9 : decode b_T_trip 9 = .ok (.astore 5, 2) := by decide +kernel
theorem d_T_trip_11 : decode b_T_trip 11 = .ok (.aload_n 0, 1) := by decide +kernel
theorem d_T_trip_12 : decode b_T_trip 12 = .ok (.getfield 29, 3) := by decide +kernel
theorem d_T_trip_15 : decode b_T_trip 15 = .ok (.aload 5, 2) := by decide +kernel
theorem d_T_trip_17 : decode b_T_trip 17 = .ok (.invokevirtual 103, 3) := by decide +kernel
theorem d_T_trip_20 : decode b_T_trip 20 = .ok (.aload_n 0, 1) := by decide +kernel
theorem d_T_trip_21 : decode b_T_trip 21 = .ok (.getfield 29, 3) := by decide +kernel
theorem d_T_trip_24 : decode b_T_trip 24 = .ok (.aload 5, 2) := by decide +kernel
theorem d_T_trip_26 : decode b_T_trip 26 = .ok (.invokevirtual 107, 3) := by decide +kernel
theorem d_T_trip_29 : decode b_T_trip 29 = .ok (.iload 4, 2) := by decide +kernel
theorem d_T_trip_31 : decode b_T_trip 31 = .ok (.invokestatic 96, 3) := by decide +kernel
theorem d_T_trip_34 : decode b_T_trip 34 = .ok (.lreturn, 1) := by decide +kernel
theorem d_T_compare_0 : decode b_T_compare 0 = .ok (.aload_n 0, 1) := by decide +kernel
theorem d_T_compare_1 : decode b_T_compare 1 = .ok (.iload_n 1, 1) := by decide +kernel
theorem d_T_compare_2 : decode b_T_compare 2 = .ok (.invokevirtual 110, 3) := by decide +kernel
theorem d_T_compare_5 : decode b_T_compare 5 = .ok (.astore 5, 2) := by decide +kernel
theorem d_T_compare_7 : decode b_T_compare 7 = .ok (.aload_n 0, 1) := by decide +kernel
theorem d_T_compare_8 : decode b_T_compare 8 = .ok (.iload_n 2, 1) := by decide +kernel
theorem d_T_compare_9 : decode b_T_compare 9 = .ok (.invokevirtual 110, 3) := by decide +kernel
theorem d_T_compare_12 : decode b_T_compare 12 = .ok (.astore 6, 2) := by decide +kernel
theorem d_T_compare_14 : decode b_T_compare 14 = .ok (.aload_n 0, 1) := by decide +kernel
theorem d_T_compare_15 : decode b_T_compare 15 = .ok (.iload_n 3, 1) := by decide +kernel
theorem d_T_compare_16 : decode b_T_compare 16 = .ok (.iload 4, 2) := by decide +kernel
theorem d_T_compare_18 : decode b_T_compare 18 = .ok (.invokevirtual 114, 3) := by decide +kernel
theorem d_T_compare_21 : decode b_T_compare 21 = .ok (.aload_n 0, 1) := by decide +kernel
theorem d_T_compare_22 : decode b_T_compare 22 = .ok (.getfield 29, 3) := by decide +kernel
theorem d_T_compare_25 : decode b_T_compare 25 = .ok (.aload_n 0, 1) := by decide +kernel
theorem d_T_compare_26 : decode b_T_compare 26 = .ok (.getfield 10, 3) := by decide +kernel
theorem d_T_compare_29 : decode b_T_compare 29 = .ok (.aload 5, 2) := by decide +kernel
theorem d_T_compare_31 : decode b_T_compare 31 = .ok (.getfield 118, 3) := by decide +kernel
theorem d_T_compare_34 : decode b_T_compare 34 = .ok (.iload_n 3, 1) := by decide +kernel
theorem d_T_compare_35 : decode b_T_compare 35 = .ok (.iload 4, 2) := by decide +kernel
theorem d_T_compare_37 : decode b_T_compare 37 = .ok (.invokevirtual 121, 3) := by decide +kernel
theorem d_T_compare_40 : decode b_T_compare 40 = .ok (.aload_n 0, 1) := by decide +kernel
theorem d_T_compare_41 : decode b_T_compare 41 = .ok (.getfield 29, 3) := by decide +kernel
theorem d_T_compare_44 : decode b_T_compare 44 = .ok (.aload 5, 2) := by decide +kernel
theorem d_T_compare_46 : decode b_T_compare 46 = .ok (.invokevirtual 103, 3) := by decide +kernel
theorem d_T_compare_49 : decode b_T_compare 49 = .ok (.lstore 7, 2) := by decide +kernel
theorem d_T_compare_51 : decode b_T_compare 51 = .ok (.aload_n 0, 1) := by decide +kernel
theorem d_T_compare_52 : decode b_T_compare 52 = .ok (.getfield 29, 3) := by decide +kernel
theorem d_T_compare_55 : decode b_T_compare 55 = .ok (.aload 5, 2) := by decide +kernel
theorem d_T_compare_57 : decode b_T_compare 57 = .ok (.invokevirtual 107, 3) := by decide +kernel
theorem d_T_compare_60 : decode b_T_compare 60 = .ok (.lstore 9, 2) := by decide +kernel
theorem d_T_compare_62 : decode b_T_compare 62 = .ok (.aload_n 0, 1) := by decide +kernel
theorem d_T_compare_63 : decode b_T_compare 63 = .ok (.getfield 29, 3) := by decide +kernel
theorem d_T_compare_66 : decode b_T_compare 66 = .ok (.aload_n 0, 1) := by decide +kernel
theorem d_T_compare_67 : decode b_T_compare 67 = .ok (.getfield 10, 3) := by decide +kernel
theorem d_T_compare_70 : decode b_T_compare 70 = .ok (.aload 6, 2) := by decide +kernel
theorem d_T_compare_72 : decode b_T_compare 72 = .ok (.getfield 118, 3) := by decide +kernel
theorem d_T_compare_75 : decode b_T_compare 75 = .ok (.iload_n 3, 1) := by decide +kernel
theorem d_T_compare_76 : decode b_T_compare 76 = .ok (.iload 4, 2) := by decide +kernel
theorem d_T_compare_78 : decode b_T_compare 78 = .ok (.invokevirtual 121, 3) := by decide +kernel
theorem d_T_compare_81 : decode b_T_compare 81 = .ok (.lload 7, 2) := by decide +kernel
theorem d_T_compare_83 : decode b_T_compare 83 = .ok (.lload 9, 2) := by decide +kernel
theorem d_T_compare_85 : decode b_T_compare 85 = .ok (.aload_n 0, 1) := by decide +kernel
theorem d_T_compare_86 : decode b_T_compare 86 = .ok (.getfield 29, 3) := by decide +kernel
theorem d_T_compare_89 : decode b_T_compare 89 = .ok (.aload 6, 2) := by decide +kernel
theorem d_T_compare_91 : decode b_T_compare 91 = .ok (.invokevirtual 103, 3) := by decide +kernel
theorem d_T_compare_94 : decode b_T_compare 94 = .ok (.aload_n 0, 1) := by decide +kernel
theorem d_T_compare_95 : decode b_T_compare 95 = .ok (.getfield 29, 3) := by decide +kernel
theorem d_T_compare_98 : decode b_T_compare 98 = .ok (.aload 6, 2) := by decide +kernel
theorem d_T_compare_100 : decode b_T_compare 100 = .ok (.invokevirtual 107, 3) := by decide +kernel
theorem d_T_compare_103 : decode b_T_compare 103 = .ok (.invokestatic 125, 3) := by decide +kernel
theorem d_T_compare_106 : decode b_T_compare 106 = .ok (.ireturn, 1) := by decide +kernel
theorem d_T_carried_0 : decode b_T_carried 0 = .ok (.iload_n 1, 1) := by decide +kernel
theorem d_T_carried_1 : decode b_T_carried 1 = .ok (.iconst 1, 1) := by decide +kernel
theorem d_T_carried_2 : decode b_T_carried 2 = .ok (.bipush 6, 2) := by decide +kernel
theorem d_T_carried_4 : decode b_T_carried 4 = .ok (.invokestatic 47, 3) := by decide +kernel
theorem d_T_carried_7 : decode b_T_carried 7 = .ok (.aload_n 0, 1) := by decide +kernel
theorem d_T_carried_8 : decode b_T_carried 8 = .ok (.iload_n 2, 1) := by decide +kernel
theorem d_T_carried_9 : decode b_T_carried 9 = .ok (.invokevirtual 110, 3) := by decide +kernel
theorem d_T_carried_12 : decode b_T_carried 12 = .ok (.astore_n 3, 1) := by decide +kernel
theorem d_T_carried_13 : decode b_T_carried 13 = .ok (.aload_n 0, 1) := by decide +kernel
theorem d_T_carried_14 : decode b_T_carried 14 = .ok (.invokevirtual 129, 3) := by decide +kernel
theorem d_T_carried_17 : decode b_T_carried 17 = .ok (.aload_n 0, 1) := by decide +kernel
theorem d_T_carried_18 : decode b_T_carried 18 = .ok (.getfield 29, 3) := by decide +kernel
theorem d_T_carried_21 : decode b_T_carried 21 = .ok (.aload_n 0, 1) := by decide +kernel
theorem d_T_carried_22 : decode b_T_carried 22 = .ok (.getfield 10, 3) := by decide +kernel
theorem d_T_carried_25 : decode b_T_carried 25 = .ok (.aload_n 3, 1) := by decide +kernel
theorem d_T_carried_26 : decode b_T_carried 26 = .ok (.getfield 118, 3) := by decide +kernel
theorem d_T_carried_29 : decode b_T_carried 29 = .ok (.iconst 1, 1) := by decide +kernel
theorem d_T_carried_30 : decode b_T_carried 30 = .ok (.aload_n 0, 1) := by decide +kernel
theorem d_T_carried_31 : decode b_T_carried 31 = .ok (.getfield 10, 3) := by decide +kernel
theorem d_T_carried_34 : decode b_T_carried 34 = .ok (.getfield 51, 3) := by decide +kernel
theorem d_T_carried_37 : decode b_T_carried 37 = .ok (.invokevirtual 121, 3) := by decide +kernel
theorem d_T_carried_40 : decode b_T_carried 40 = .ok (.aload_n 0, 1) := by decide +kernel
theorem d_T_carried_41 : decode b_T_carried 41 = .ok (.getfield 29, 3) := by decide +kernel
theorem d_T_carried_44 : decode b_T_carried 44 = .ok (.iload_n 1, 1) := by decide +kernel
theorem d_T_carried_45 : decode b_T_carried 45 = .ok (.aload_n 3, 1) := by decide +kernel
theorem d_T_carried_46 : decode b_T_carried 46 = .ok (.invokevirtual 132, 3) := by decide +kernel
theorem d_T_carried_49 : decode b_T_carried 49 = .ok (.lreturn, 1) := by decide +kernel
theorem d_T_cheapest_0 : decode b_T_cheapest 0 = .ok (.iload_n 1, 1) := by decide +kernel
theorem d_T_cheapest_1 : decode b_T_cheapest 1 = .ok (.ifCond .ge 13, 3) := by decide +kernel
theorem d_T_cheapest_4 : decode b_T_cheapest 4 = .ok (.new 136, 3) := by decide +kernel
theorem d_T_cheapest_7 : decode b_T_cheapest 7 = .ok (.dup, 1) := by decide +kernel
theorem d_T_cheapest_8 : decode b_T_cheapest 8 = .ok (.ldc 138, 2) := by decide +kernel
theorem d_T_cheapest_10 : decode b_T_cheapest 10 = .ok (.invokespecial 140, 3) := by decide +kernel
theorem d_T_cheapest_13 : decode b_T_cheapest 13 = .ok (.athrow, 1) := by decide +kernel
theorem d_T_cheapest_14 : decode b_T_cheapest 14 = .ok (.aload_n 0, 1) := by decide +kernel
theorem d_T_cheapest_15 : decode b_T_cheapest 15 = .ok (.invokevirtual 129, 3) := by decide +kernel
theorem d_T_cheapest_18 : decode b_T_cheapest 18 = .ok (.iconst (-1), 1) := by decide +kernel
theorem d_T_cheapest_19 : decode b_T_cheapest 19 = .ok (.istore_n 2, 1) := by decide +kernel
theorem d_T_cheapest_20 : decode b_T_cheapest 20 = .ok (.iconst 0, 1) := by decide +kernel
theorem d_T_cheapest_21 : decode b_T_cheapest 21 = .ok (.istore_n 3, 1) := by decide +kernel
theorem d_T_cheapest_22 : decode b_T_cheapest 22 = .ok (.iconst 0, 1) := by decide +kernel
theorem d_T_cheapest_23 : decode b_T_cheapest 23 = .ok (.istore 4, 2) := by decide +kernel
theorem d_T_cheapest_25 : decode b_T_cheapest 25 = .ok (.iconst 0, 1) := by decide +kernel
theorem d_T_cheapest_26 : decode b_T_cheapest 26 = .ok (.istore 5, 2) := by decide +kernel
theorem d_T_cheapest_28 : decode b_T_cheapest 28 = .ok (.iload 5, 2) := by decide +kernel
theorem d_T_cheapest_30 : decode b_T_cheapest 30 = .ok (.aload_n 0, 1) := by decide +kernel
theorem d_T_cheapest_31 : decode b_T_cheapest 31 = .ok (.getfield 22, 3) := by decide +kernel
theorem d_T_cheapest_34 : decode b_T_cheapest 34 = .ok (.if_icmp .ge 85, 3) := by decide +kernel
theorem d_T_cheapest_37 : decode b_T_cheapest 37 = .ok (.aload_n 0, 1) := by decide +kernel
theorem d_T_cheapest_38 : decode b_T_cheapest 38 = .ok (.iload 5, 2) := by decide +kernel
theorem d_T_cheapest_40 : decode b_T_cheapest 40 = .ok (.invokevirtual 110, 3) := by decide +kernel
theorem d_T_cheapest_43 : decode b_T_cheapest 43 = .ok (.astore 6, 2) := by decide +kernel
theorem d_T_cheapest_45 : decode b_T_cheapest 45 = .ok (.aload_n 0, 1) := by decide +kernel
theorem d_T_cheapest_46 : decode b_T_cheapest 46 = .ok (.aload 6, 2) := by decide +kernel
theorem d_T_cheapest_48 : decode b_T_cheapest 48 = .ok (.iload_n 1, 1) := by decide +kernel
theorem d_T_cheapest_49 : decode b_T_cheapest 49 = .ok (.invokevirtual 141, 3) := by decide +kernel
theorem d_T_cheapest_52 : decode b_T_cheapest 52 = .ok (.istore 7, 2) := by decide +kernel
theorem d_T_cheapest_54 : decode b_T_cheapest 54 = .ok (.iload 7, 2) := by decide +kernel
theorem d_T_cheapest_56 : decode b_T_cheapest 56 = .ok (.iconst (-1), 1) := by decide +kernel
theorem d_T_cheapest_57 : decode b_T_cheapest 57 = .ok (.if_icmp .ne 6, 3) := by decide +kernel
theorem d_T_cheapest_60 : decode b_T_cheapest 60 = .ok (.goto 53, 3) := by decide +kernel
theorem d_T_cheapest_63 : decode b_T_cheapest 63 = .ok (.iload 7, 2) := by decide +kernel
theorem d_T_cheapest_65 : decode b_T_cheapest 65 = .ok (.aload 6, 2) := by decide +kernel
theorem d_T_cheapest_67 : decode b_T_cheapest 67 = .ok (.getfield 145, 3) := by decide +kernel
theorem d_T_cheapest_70 : decode b_T_cheapest 70 = .ok (.imul, 1) := by decide +kernel
theorem d_T_cheapest_71 : decode b_T_cheapest 71 = .ok (.istore 8, 2) := by decide +kernel
theorem d_T_cheapest_73 : decode b_T_cheapest 73 = .ok (.iload_n 2, 1) := by decide +kernel
theorem d_T_cheapest_74 : decode b_T_cheapest 74 = .ok (.iconst (-1), 1) := by decide +kernel
theorem d_T_cheapest_75 : decode b_T_cheapest 75 = .ok (.if_icmp .eq 22, 3) := by decide +kernel
theorem d_T_cheapest_78 : decode b_T_cheapest 78 = .ok (.iload 8, 2) := by decide +kernel
theorem d_T_cheapest_80 : decode b_T_cheapest 80 = .ok (.iload_n 3, 1) := by decide +kernel
theorem d_T_cheapest_81 : decode b_T_cheapest 81 = .ok (.if_icmp .lt 16, 3) := by decide +kernel
theorem d_T_cheapest_84 : decode b_T_cheapest 84 = .ok (.iload 8, 2) := by decide +kernel
theorem d_T_cheapest_86 : decode b_T_cheapest 86 = .ok (.iload_n 3, 1) := by decide +kernel
theorem d_T_cheapest_87 : decode b_T_cheapest 87 = .ok (.if_icmp .ne 26, 3) := by decide +kernel
theorem d_T_cheapest_90 : decode b_T_cheapest 90 = .ok (.iload 7, 2) := by decide +kernel
theorem d_T_cheapest_92 : decode b_T_cheapest 92 = .ok (.iload 4, 2) := by decide +kernel
theorem d_T_cheapest_94 : decode b_T_cheapest 94 = .ok (.if_icmp .ge 19, 3) := by decide +kernel
theorem d_T_cheapest_97 : decode b_T_cheapest 97 = .ok (.bipush 10, 2) := by decide +kernel
theorem d_T_cheapest_99 : decode b_T_cheapest 99 = .ok (.iload 5, 2) := by decide +kernel
theorem d_T_cheapest_101 : decode b_T_cheapest 101 = .ok (.imul, 1) := by decide +kernel
theorem d_T_cheapest_102 : decode b_T_cheapest 102 = .ok (.iload 7, 2) := by decide +kernel
theorem d_T_cheapest_104 : decode b_T_cheapest 104 = .ok (.iadd, 1) := by decide +kernel
theorem d_T_cheapest_105 : decode b_T_cheapest 105 = .ok (.istore_n 2, 1) := by decide +kernel
theorem d_T_cheapest_106 : decode b_T_cheapest 106 = .ok (.iload 8, 2) := by decide +kernel
theorem d_T_cheapest_108 : decode b_T_cheapest 108 = .ok (.istore_n 3, 1) := by decide +kernel
theorem d_T_cheapest_109 : decode b_T_cheapest 109 = .ok (.iload 7, 2) := by decide +kernel
theorem d_T_cheapest_111 : decode b_T_cheapest 111 = .ok (.istore 4, 2) := by decide +kernel
theorem d_T_cheapest_113 : decode b_T_cheapest 113 = .ok (.iinc 5 1, 3) := by decide +kernel
theorem d_T_cheapest_116 : decode b_T_cheapest 116 = .ok (.goto (-88), 3) := by decide +kernel
theorem d_T_cheapest_119 : decode b_T_cheapest 119 = .ok (.iload_n 2, 1) := by decide +kernel
theorem d_T_cheapest_120 : decode b_T_cheapest 120 = .ok (.ireturn, 1) := by decide +kernel
theorem d_T_split_0 : decode b_T_split 0 = .ok (.aload_n 0, 1) := by decide +kernel
theorem d_T_split_1 : decode b_T_split 1 = .ok (.iload_n 1, 1) := by decide +kernel
theorem d_T_split_2 : decode b_T_split 2 = .ok (.invokevirtual 110, 3) := by decide +kernel
theorem d_T_split_5 : decode b_T_split 5 = .ok (.astore 4, 2) := by decide +kernel
theorem d_T_split_7 : decode b_T_split 7 = .ok (.iload_n 2, 1) := by decide +kernel
theorem d_T_split_8 : decode b_T_split 8 = .ok (.iconst 1, 1) := by decide +kernel
theorem d_T_split_9 : decode b_T_split 9 = .ok (.iconst 4, 1) := by decide +kernel
theorem d_T_split_10 : decode b_T_split 10 = .ok (.invokestatic 47, 3) := by decide +kernel
theorem d_T_split_13 : decode b_T_split 13 = .ok (.iload_n 3, 1) := by decide +kernel
theorem d_T_split_14 : decode b_T_split 14 = .ok (.iconst 0, 1) := by decide +kernel
theorem d_T_split_15 : decode b_T_split 15 = .ok (.iload_n 2, 1) := by decide +kernel
theorem d_T_split_16 : decode b_T_split 16 = .ok (.iconst 1, 1) := by decide +kernel
theorem d_T_split_17 : decode b_T_split 17 = .ok (.isub, 1) := by decide +kernel
theorem d_T_split_18 : decode b_T_split 18 = .ok (.invokestatic 47, 3) := by decide +kernel
theorem d_T_split_21 : decode b_T_split 21 = .ok (.aload_n 0, 1) := by decide +kernel
theorem d_T_split_22 : decode b_T_split 22 = .ok (.getfield 10, 3) := by decide +kernel
theorem d_T_split_25 : decode b_T_split 25 = .ok (.getfield 51, 3) := by decide +kernel
theorem d_T_split_28 : decode b_T_split 28 = .ok (.iload_n 2, 1) := by decide +kernel
theorem d_T_split_29 : decode b_T_split 29 = .ok (.if_icmp .ge 13, 3) := by decide +kernel
theorem d_T_split_32 : decode b_T_split 32 = .ok (.new 54, 3) := by decide +kernel
theorem d_T_split_35 : decode b_T_split 35 = .ok (.dup, 1) := by decide +kernel
theorem d_T_split_36 : decode b_T_split 36 = .ok (.ldc 148, 2) := by decide +kernel
theorem d_T_split_38 : decode b_T_split 38 = .ok (.invokespecial 58, 3) := by decide +kernel
theorem d_T_split_41 : decode b_T_split 41 = .ok (.athrow, 1) := by decide +kernel
theorem d_T_split_42 : decode b_T_split 42 = .ok (.aload_n 0, 1) := by decide +kernel
theorem d_T_split_43 : decode b_T_split 43 = .ok (.getfield 36, 3) := by decide +kernel
theorem d_T_split_46 : decode b_T_split 46 = .ok (.aload_n 0, 1) := by decide +kernel
theorem d_T_split_47 : decode b_T_split 47 = .ok (.getfield 10, 3) := by decide +kernel
theorem d_T_split_50 : decode b_T_split 50 = .ok (.aload 4, 2) := by decide +kernel
theorem d_T_split_52 : decode b_T_split 52 = .ok (.aload_n 0, 1) := by decide +kernel
theorem d_T_split_53 : decode b_T_split 53 = .ok (.getfield 29, 3) := by decide +kernel
theorem d_T_split_56 : decode b_T_split 56 = .ok (.invokevirtual 150, 3) := by decide +kernel
theorem d_T_split_59 : decode b_T_split 59 = .ok (.aload_n 0, 1) := by decide +kernel
theorem d_T_split_60 : decode b_T_split 60 = .ok (.getfield 36, 3) := by decide +kernel
theorem d_T_split_63 : decode b_T_split 63 = .ok (.aload_n 0, 1) := by decide +kernel
theorem d_T_split_64 : decode b_T_split 64 = .ok (.getfield 10, 3) := by decide +kernel
theorem d_T_split_67 : decode b_T_split 67 = .ok (.getfield 51, 3) := by decide +kernel
theorem d_T_split_70 : decode b_T_split 70 = .ok (.iload_n 2, 1) := by decide +kernel
theorem d_T_split_71 : decode b_T_split 71 = .ok (.invokevirtual 154, 3) := by decide +kernel
theorem d_T_split_74 : decode b_T_split 74 = .ok (.aload_n 0, 1) := by decide +kernel
theorem d_T_split_75 : decode b_T_split 75 = .ok (.getfield 36, 3) := by decide +kernel
theorem d_T_split_78 : decode b_T_split 78 = .ok (.getfield 157, 3) := by decide +kernel
theorem d_T_split_81 : decode b_T_split 81 = .ok (.iload_n 3, 1) := by decide +kernel
theorem d_T_split_82 : decode b_T_split 82 = .ok (.iaload, 1) := by decide +kernel
theorem d_T_split_83 : decode b_T_split 83 = .ok (.ireturn, 1) := by decide +kernel
theorem d_T_out_0 : decode b_T_out 0 = .ok (.iload_n 1, 1) := by decide +kernel
theorem d_T_out_1 : decode b_T_out 1 = .ok (.iconst 1, 1) := by decide +kernel
theorem d_T_out_2 : decode b_T_out 2 = .ok (.bipush 50, 2) := by decide +kernel
theorem d_T_out_4 : decode b_T_out 4 = .ok (.invokestatic 47, 3) := by decide +kernel
theorem d_T_out_7 : decode b_T_out 7 = .ok (.aload_n 0, 1) := by decide +kernel
theorem d_T_out_8 : decode b_T_out 8 = .ok (.getfield 43, 3) := by decide +kernel
theorem d_T_out_11 : decode b_T_out 11 = .ok (.aload_n 0, 1) := by decide +kernel
theorem d_T_out_12 : decode b_T_out 12 = .ok (.getfield 10, 3) := by decide +kernel
theorem d_T_out_15 : decode b_T_out 15 = .ok (.invokevirtual 160, 3) := by decide +kernel
theorem d_T_out_18 : decode b_T_out 18 = .ok (.iconst 0, 1) := by decide +kernel
theorem d_T_out_19 : decode b_T_out 19 = .ok (.istore_n 2, 1) := by decide +kernel
theorem d_T_out_20 : decode b_T_out 20 = .ok (.iload_n 2, 1) := by decide +kernel
theorem d_T_out_21 : decode b_T_out 21 = .ok (.sipush 1000, 3) := by decide +kernel
theorem d_T_out_24 : decode b_T_out 24 = .ok (.if_icmp .ge 34, 3) := by decide +kernel
theorem d_T_out_27 : decode b_T_out 27 = .ok (.aload_n 0, 1) := by decide +kernel
theorem d_T_out_28 : decode b_T_out 28 = .ok (.getfield 43, 3) := by decide +kernel
theorem d_T_out_31 : decode b_T_out 31 = .ok (.getfield 164, 3) := by decide +kernel
theorem d_T_out_34 : decode b_T_out 34 = .ok (.ifCond .le 24, 3) := by decide +kernel
theorem d_T_out_37 : decode b_T_out 37 = .ok (.aload_n 0, 1) := by decide +kernel
theorem d_T_out_38 : decode b_T_out 38 = .ok (.getfield 43, 3) := by decide +kernel
theorem d_T_out_41 : decode b_T_out 41 = .ok (.aload_n 0, 1) := by decide +kernel
theorem d_T_out_42 : decode b_T_out 42 = .ok (.getfield 10, 3) := by decide +kernel
theorem d_T_out_45 : decode b_T_out 45 = .ok (.getfield 51, 3) := by decide +kernel
theorem d_T_out_48 : decode b_T_out 48 = .ok (.iload_n 1, 1) := by decide +kernel
theorem d_T_out_49 : decode b_T_out 49 = .ok (.invokevirtual 167, 3) := by decide +kernel
theorem d_T_out_52 : decode b_T_out 52 = .ok (.iinc 2 1, 3) := by decide +kernel
theorem d_T_out_55 : decode b_T_out 55 = .ok (.goto (-35), 3) := by decide +kernel
theorem d_T_out_58 : decode b_T_out 58 = .ok (.iload_n 2, 1) := by decide +kernel
theorem d_T_out_59 : decode b_T_out 59 = .ok (.ireturn, 1) := by decide +kernel
theorem d_T_there_0 : decode b_T_there 0 = .ok (.iload_n 1, 1) := by decide +kernel
theorem d_T_there_1 : decode b_T_there 1 = .ok (.iconst 1, 1) := by decide +kernel
theorem d_T_there_2 : decode b_T_there 2 = .ok (.bipush 50, 2) := by decide +kernel
theorem d_T_there_4 : decode b_T_there 4 = .ok (.invokestatic 47, 3) := by decide +kernel
theorem d_T_there_7 : decode b_T_there 7 = .ok (.aload_n 0, 1) := by decide +kernel
theorem d_T_there_8 : decode b_T_there 8 = .ok (.iload_n 2, 1) := by decide +kernel
theorem d_T_there_9 : decode b_T_there 9 = .ok (.invokevirtual 72, 3) := by decide +kernel
theorem d_T_there_12 : decode b_T_there 12 = .ok (.iload_n 3, 1) := by decide +kernel
theorem d_T_there_13 : decode b_T_there 13 = .ok (.iconst 0, 1) := by decide +kernel
theorem d_T_there_14 : decode b_T_there 14 = .ok (.sipush 1000, 3) := by decide +kernel
theorem d_T_there_17 : decode b_T_there 17 = .ok (.invokestatic 47, 3) := by decide +kernel
theorem d_T_there_20 : decode b_T_there 20 = .ok (.aload_n 0, 1) := by decide +kernel
theorem d_T_there_21 : decode b_T_there 21 = .ok (.getfield 43, 3) := by decide +kernel
theorem d_T_there_24 : decode b_T_there 24 = .ok (.aload_n 0, 1) := by decide +kernel
theorem d_T_there_25 : decode b_T_there 25 = .ok (.getfield 10, 3) := by decide +kernel
theorem d_T_there_28 : decode b_T_there 28 = .ok (.invokevirtual 160, 3) := by decide +kernel
theorem d_T_there_31 : decode b_T_there 31 = .ok (.iconst 0, 1) := by decide +kernel
theorem d_T_there_32 : decode b_T_there 32 = .ok (.istore 4, 2) := by decide +kernel
theorem d_T_there_34 : decode b_T_there 34 = .ok (.iload 4, 2) := by decide +kernel
theorem d_T_there_36 : decode b_T_there 36 = .ok (.iload_n 3, 1) := by decide +kernel
theorem d_T_there_37 : decode b_T_there 37 = .ok (.if_icmp .ge 34, 3) := by decide +kernel
theorem d_T_there_40 : decode b_T_there 40 = .ok (.aload_n 0, 1) := by decide +kernel
theorem d_T_there_41 : decode b_T_there 41 = .ok (.getfield 43, 3) := by decide +kernel
theorem d_T_there_44 : decode b_T_there 44 = .ok (.getfield 164, 3) := by decide +kernel
theorem d_T_there_47 : decode b_T_there 47 = .ok (.ifCond .le 24, 3) := by decide +kernel
theorem d_T_there_50 : decode b_T_there 50 = .ok (.aload_n 0, 1) := by decide +kernel
theorem d_T_there_51 : decode b_T_there 51 = .ok (.getfield 43, 3) := by decide +kernel
theorem d_T_there_54 : decode b_T_there 54 = .ok (.aload_n 0, 1) := by decide +kernel
theorem d_T_there_55 : decode b_T_there 55 = .ok (.getfield 10, 3) := by decide +kernel
theorem d_T_there_58 : decode b_T_there 58 = .ok (.getfield 51, 3) := by decide +kernel
theorem d_T_there_61 : decode b_T_there 61 = .ok (.iload_n 1, 1) := by decide +kernel
theorem d_T_there_62 : decode b_T_there 62 = .ok (.invokevirtual 167, 3) := by decide +kernel
theorem d_T_there_65 : decode b_T_there 65 = .ok (.iinc 4 1, 3) := by decide +kernel
theorem d_T_there_68 : decode b_T_there 68 = .ok (.goto (-34), 3) := by decide +kernel
theorem d_T_there_71 : decode b_T_there 71 = .ok (.aload_n 0, 1) := by decide +kernel
theorem d_T_there_72 : decode b_T_there 72 = .ok (.getfield 43, 3) := by decide +kernel
theorem d_T_there_75 : decode b_T_there 75 = .ok (.getfield 170, 3) := by decide +kernel
theorem d_T_there_78 : decode b_T_there 78 = .ok (.iload_n 2, 1) := by decide +kernel
theorem d_T_there_79 : decode b_T_there 79 = .ok (.iaload, 1) := by decide +kernel
theorem d_T_there_80 : decode b_T_there 80 = .ok (.ireturn, 1) := by decide +kernel
theorem d_T_crowd_0 : decode b_T_crowd 0 = .ok (.iload_n 1, 1) := by decide +kernel
theorem d_T_crowd_1 : decode b_T_crowd 1 = .ok (.iconst 1, 1) := by decide +kernel
theorem d_T_crowd_2 : decode b_T_crowd 2 = .ok (.bipush 50, 2) := by decide +kernel
theorem d_T_crowd_4 : decode b_T_crowd 4 = .ok (.invokestatic 47, 3) := by decide +kernel
theorem d_T_crowd_7 : decode b_T_crowd 7 = .ok (.aload_n 0, 1) := by decide +kernel
theorem d_T_crowd_8 : decode b_T_crowd 8 = .ok (.iload_n 2, 1) := by decide +kernel
theorem d_T_crowd_9 : decode b_T_crowd 9 = .ok (.invokevirtual 72, 3) := by decide +kernel
theorem d_T_crowd_12 : decode b_T_crowd 12 = .ok (.aload_n 0, 1) := by decide +kernel
theorem d_T_crowd_13 : decode b_T_crowd 13 = .ok (.getfield 43, 3) := by decide +kernel
theorem d_T_crowd_16 : decode b_T_crowd 16 = .ok (.aload_n 0, 1) := by decide +kernel
theorem d_T_crowd_17 : decode b_T_crowd 17 = .ok (.getfield 10, 3) := by decide +kernel
theorem d_T_crowd_20 : decode b_T_crowd 20 = .ok (.invokevirtual 160, 3) := by decide +kernel
theorem d_T_crowd_23 : decode b_T_crowd 23 = .ok (.aload_n 0, 1) := by decide +kernel
theorem d_T_crowd_24 : decode b_T_crowd 24 = .ok (.getfield 43, 3) := by decide +kernel
theorem d_T_crowd_27 : decode b_T_crowd 27 = .ok (.getfield 170, 3) := by decide +kernel
theorem d_T_crowd_30 : decode b_T_crowd 30 = .ok (.iload_n 2, 1) := by decide +kernel
theorem d_T_crowd_31 : decode b_T_crowd 31 = .ok (.iaload, 1) := by decide +kernel
theorem d_T_crowd_32 : decode b_T_crowd 32 = .ok (.istore_n 3, 1) := by decide +kernel
theorem d_T_crowd_33 : decode b_T_crowd 33 = .ok (.iconst 0, 1) := by decide +kernel
theorem d_T_crowd_34 : decode b_T_crowd 34 = .ok (.istore 4, 2) := by decide +kernel
theorem d_T_crowd_36 : decode b_T_crowd 36 = .ok (.iload 4, 2) := by decide +kernel
theorem d_T_crowd_38 : decode b_T_crowd 38 = .ok (.sipush 1000, 3) := by decide +kernel
theorem d_T_crowd_41 : decode b_T_crowd 41 = .ok (.if_icmp .ge 48, 3) := by decide +kernel
theorem d_T_crowd_44 : decode b_T_crowd 44 = .ok (.aload_n 0, 1) := by decide +kernel
theorem d_T_crowd_45 : decode b_T_crowd 45 = .ok (.getfield 43, 3) := by decide +kernel
theorem d_T_crowd_48 : decode b_T_crowd 48 = .ok (.getfield 164, 3) := by decide +kernel
theorem d_T_crowd_51 : decode b_T_crowd 51 = .ok (.ifCond .le 38, 3) := by decide +kernel
theorem d_T_crowd_54 : decode b_T_crowd 54 = .ok (.aload_n 0, 1) := by decide +kernel
theorem d_T_crowd_55 : decode b_T_crowd 55 = .ok (.getfield 43, 3) := by decide +kernel
theorem d_T_crowd_58 : decode b_T_crowd 58 = .ok (.aload_n 0, 1) := by decide +kernel
theorem d_T_crowd_59 : decode b_T_crowd 59 = .ok (.getfield 10, 3) := by decide +kernel
theorem d_T_crowd_62 : decode b_T_crowd 62 = .ok (.getfield 51, 3) := by decide +kernel
theorem d_T_crowd_65 : decode b_T_crowd 65 = .ok (.iload_n 1, 1) := by decide +kernel
theorem d_T_crowd_66 : decode b_T_crowd 66 = .ok (.invokevirtual 167, 3) := by decide +kernel
theorem d_T_crowd_69 : decode b_T_crowd 69 = .ok (.iload_n 3, 1) := by decide +kernel
theorem d_T_crowd_70 : decode b_T_crowd 70 = .ok (.aload_n 0, 1) := by decide +kernel
theorem d_T_crowd_71 : decode b_T_crowd 71 = .ok (.getfield 43, 3) := by decide +kernel
theorem d_T_crowd_74 : decode b_T_crowd 74 = .ok (.getfield 170, 3) := by decide +kernel
theorem d_T_crowd_77 : decode b_T_crowd 77 = .ok (.iload_n 2, 1) := by decide +kernel
theorem d_T_crowd_78 : decode b_T_crowd 78 = .ok (.iaload, 1) := by decide +kernel
theorem d_T_crowd_79 : decode b_T_crowd 79 = .ok (.invokestatic 173, 3) := by decide +kernel
theorem d_T_crowd_82 : decode b_T_crowd 82 = .ok (.istore_n 3, 1) := by decide +kernel
theorem d_T_crowd_83 : decode b_T_crowd 83 = .ok (.iinc 4 1, 3) := by decide +kernel
theorem d_T_crowd_86 : decode b_T_crowd 86 = .ok (.goto (-50), 3) := by decide +kernel
theorem d_T_crowd_89 : decode b_T_crowd 89 = .ok (.iload_n 3, 1) := by decide +kernel
theorem d_T_crowd_90 : decode b_T_crowd 90 = .ok (.ireturn, 1) := by decide +kernel
theorem d_T_requireWithin_0 : decode b_T_requireWithin 0 = .ok (.iload_n 0, 1) := by decide +kernel
theorem d_T_requireWithin_1 : decode b_T_requireWithin 1 = .ok (.iload_n 1, 1) := by decide +kernel
theorem d_T_requireWithin_2 : decode b_T_requireWithin 2 = .ok (.if_icmp .lt 8, 3) := by decide +kernel
theorem d_T_requireWithin_5 : decode b_T_requireWithin 5 = .ok (.iload_n 0, 1) := by decide +kernel
theorem d_T_requireWithin_6 : decode b_T_requireWithin 6 = .ok (.iload_n 2, 1) := by decide +kernel
theorem d_T_requireWithin_7 : decode b_T_requireWithin 7 = .ok (.if_icmp .le 13, 3) := by decide +kernel
theorem d_T_requireWithin_10 : decode b_T_requireWithin 10 = .ok (.new 136, 3) := by decide +kernel
theorem d_T_requireWithin_13 : decode b_T_requireWithin 13 = .ok (.dup, 1) := by decide +kernel
theorem d_T_requireWithin_14 : decode b_T_requireWithin 14 = .ok (.ldc 178, 2) := by decide +kernel
theorem d_T_requireWithin_16 : decode b_T_requireWithin 16 = .ok (.invokespecial 140, 3) := by decide +kernel
theorem d_T_requireWithin_19 : decode b_T_requireWithin 19 = .ok (.athrow, 1) := by decide +kernel
theorem d_T_requireWithin_20 : decode b_T_requireWithin 20 = .ok (.return_, 1) := by decide +kernel
theorem d_T_requireFloor_0 : decode b_T_requireFloor 0 = .ok (.iload_n 1, 1) := by decide +kernel
theorem d_T_requireFloor_1 : decode b_T_requireFloor 1 = .ok (.iconst 1, 1) := by decide +kernel
theorem d_T_requireFloor_2 : decode b_T_requireFloor 2 = .ok (.if_icmp .lt 14, 3) := by decide +kernel
theorem d_T_requireFloor_5 : decode b_T_requireFloor 5 = .ok (.iload_n 1, 1) := by decide +kernel
theorem d_T_requireFloor_6 : decode b_T_requireFloor 6 = .ok (.aload_n 0, 1) := by decide +kernel
theorem d_T_requireFloor_7 : decode b_T_requireFloor 7 = .ok (.getfield 10, 3) := by decide +kernel
theorem d_T_requireFloor_10 : decode b_T_requireFloor 10 = .ok (.getfield 51, 3) := by decide +kernel
theorem d_T_requireFloor_13 : decode b_T_requireFloor 13 = .ok (.if_icmp .le 13, 3) := by decide +kernel
theorem d_T_requireFloor_16 : decode b_T_requireFloor 16 = .ok (.new 136, 3) := by decide +kernel
theorem d_T_requireFloor_19 : decode b_T_requireFloor 19 = .ok (.dup, 1) := by decide +kernel
theorem d_T_requireFloor_20 : decode b_T_requireFloor 20 = .ok (.ldc 180, 2) := by decide +kernel
theorem d_T_requireFloor_22 : decode b_T_requireFloor 22 = .ok (.invokespecial 140, 3) := by decide +kernel
theorem d_T_requireFloor_25 : decode b_T_requireFloor 25 = .ok (.athrow, 1) := by decide +kernel
theorem d_T_requireFloor_26 : decode b_T_requireFloor 26 = .ok (.return_, 1) := by decide +kernel
theorem d_T_requireZone_0 : decode b_T_requireZone 0 = .ok (.aload_n 0, 1) := by decide +kernel
theorem d_T_requireZone_1 : decode b_T_requireZone 1 = .ok (.iload_n 1, 1) := by decide +kernel
theorem d_T_requireZone_2 : decode b_T_requireZone 2 = .ok (.invokevirtual 72, 3) := by decide +kernel
theorem d_T_requireZone_5 : decode b_T_requireZone 5 = .ok (.aload_n 0, 1) := by decide +kernel
theorem d_T_requireZone_6 : decode b_T_requireZone 6 = .ok (.iload_n 2, 1) := by decide +kernel
theorem d_T_requireZone_7 : decode b_T_requireZone 7 = .ok (.invokevirtual 72, 3) := by decide +kernel
theorem d_T_requireZone_10 : decode b_T_requireZone 10 = .ok (.iload_n 2, 1) := by decide +kernel
theorem d_T_requireZone_11 : decode b_T_requireZone 11 = .ok (.iload_n 1, 1) := by decide +kernel
theorem d_T_requireZone_12 : decode b_T_requireZone 12 = .ok (.if_icmp .ge 13, 3) := by decide +kernel
theorem d_T_requireZone_15 : decode b_T_requireZone 15 = .ok (.new 136, 3) := by decide +kernel
theorem d_T_requireZone_18 : decode b_T_requireZone 18 = .ok (.dup, 1) := by decide +kernel
theorem d_T_requireZone_19 : decode b_T_requireZone 19 = .ok (.ldc 182, 2) := by decide +kernel
theorem d_T_requireZone_21 : decode b_T_requireZone 21 = .ok (.invokespecial 140, 3) := by decide +kernel
theorem d_T_requireZone_24 : decode b_T_requireZone 24 = .ok (.athrow, 1) := by decide +kernel
theorem d_T_requireZone_25 : decode b_T_requireZone 25 = .ok (.return_, 1) := by decide +kernel
theorem d_T_requireType_0 : decode b_T_requireType 0 = .ok (.iload_n 1, 1) := by decide +kernel
theorem d_T_requireType_1 : decode b_T_requireType 1 = .ok (.ifCond .lt 18, 3) := by decide +kernel
theorem d_T_requireType_4 : decode b_T_requireType 4 = .ok (.iload_n 1, 1) := by decide +kernel
theorem d_T_requireType_5 : decode b_T_requireType 5 = .ok (.bipush 6, 2) := by decide +kernel
theorem d_T_requireType_7 : decode b_T_requireType 7 = .ok (.if_icmp .ge 12, 3) := by decide +kernel
theorem d_T_requireType_10 : decode b_T_requireType 10 = .ok (.aload_n 0, 1) := by decide +kernel
theorem d_T_requireType_11 : decode b_T_requireType 11 = .ok (.getfield 18, 3) := by decide +kernel
theorem d_T_requireType_14 : decode b_T_requireType 14 = .ok (.iload_n 1, 1) := by decide +kernel
theorem d_T_requireType_15 : decode b_T_requireType 15 = .ok (.aaload, 1) := by decide +kernel
theorem d_T_requireType_16 : decode b_T_requireType 16 = .ok (.goto 4, 3) := by decide +kernel
theorem d_T_requireType_19 : decode b_T_requireType 19 = .ok (.aconst_null, 1) := by decide +kernel
theorem d_T_requireType_20 : decode b_T_requireType 20 = .ok (.astore_n 2, 1) := by decide +kernel
theorem d_T_requireType_21 : decode b_T_requireType 21 = .ok (.aload_n 2, 1) := by decide +kernel
theorem d_T_requireType_22 : decode b_T_requireType 22 = .ok (.ifnonnull 13, 3) := by decide +kernel
theorem d_T_requireType_25 : decode b_T_requireType 25 = .ok (.new 136, 3) := by decide +kernel
theorem d_T_requireType_28 : decode b_T_requireType 28 = .ok (.dup, 1) := by decide +kernel
theorem d_T_requireType_29 : decode b_T_requireType 29 = .ok (.ldc 184, 2) := by decide +kernel
theorem d_T_requireType_31 : decode b_T_requireType 31 = .ok (.invokespecial 140, 3) := by decide +kernel
theorem d_T_requireType_34 : decode b_T_requireType 34 = .ok (.athrow, 1) := by decide +kernel
theorem d_T_requireType_35 : decode b_T_requireType 35 = .ok (.aload_n 2, 1) := by decide +kernel
theorem d_T_requireType_36 : decode b_T_requireType 36 = .ok (.areturn, 1) := by decide +kernel
theorem d_T_requireSomeFloor_0 : decode b_T_requireSomeFloor 0 = .ok (.aload_n 0, 1) := by decide +kernel
theorem d_T_requireSomeFloor_1 : decode b_T_requireSomeFloor 1 = .ok (.getfield 10, 3) := by decide +kernel
theorem d_T_requireSomeFloor_4 : decode b_T_requireSomeFloor 4 = .ok (.getfield 51, 3) := by decide +kernel
theorem d_T_requireSomeFloor_7 : decode b_T_requireSomeFloor 7 = .ok (.ifCond .ne 13, 3) := by decide +kernel
theorem d_T_requireSomeFloor_10 : decode b_T_requireSomeFloor 10 = .ok (.new 54, 3) := by decide +kernel
theorem d_T_requireSomeFloor_13 : decode b_T_requireSomeFloor 13 = .ok (.dup, 1) := by decide +kernel
theorem d_T_requireSomeFloor_14 : decode b_T_requireSomeFloor 14 = .ok (.ldc 186, 2) := by decide +kernel
theorem d_T_requireSomeFloor_16 : decode b_T_requireSomeFloor 16 = .ok (.invokespecial 58, 3) := by decide +kernel
theorem d_T_requireSomeFloor_19 : decode b_T_requireSomeFloor 19 = .ok (.athrow, 1) := by decide +kernel
theorem d_T_requireSomeFloor_20 : decode b_T_requireSomeFloor 20 = .ok (.return_, 1) := by decide +kernel
theorem d_T_requireRoomForAll_0 : decode b_T_requireRoomForAll 0 = .ok (.iload_n 0, 1) := by decide +kernel
theorem d_T_requireRoomForAll_1 : decode b_T_requireRoomForAll 1 = .ok (.sipush 200, 3) := by decide +kernel
theorem d_T_requireRoomForAll_4 : decode b_T_requireRoomForAll 4 = .ok (.if_icmp .le 13, 3) := by decide +kernel
theorem d_T_requireRoomForAll_7 : decode b_T_requireRoomForAll 7 = .ok (.new 54, 3) := by decide +kernel
theorem d_T_requireRoomForAll_10 : decode b_T_requireRoomForAll 10 = .ok (.dup, 1) := by decide +kernel
theorem d_T_requireRoomForAll_11 : decode b_T_requireRoomForAll 11 = .ok (.ldc 188, 2) := by decide +kernel
theorem d_T_requireRoomForAll_13 : decode b_T_requireRoomForAll 13 = .ok (.invokespecial 58, 3) := by decide +kernel
theorem d_T_requireRoomForAll_16 : decode b_T_requireRoomForAll 16 = .ok (.athrow, 1) := by decide +kernel
theorem d_T_requireRoomForAll_17 : decode b_T_requireRoomForAll 17 = .ok (.return_, 1) := by decide +kernel
theorem d_T_countOdds_0 : decode b_T_countOdds 0 = .ok (.aload_n 0, 1) := by decide +kernel
theorem d_T_countOdds_1 : decode b_T_countOdds 1 = .ok (.iload_n 1, 1) := by decide +kernel
theorem d_T_countOdds_2 : decode b_T_countOdds 2 = .ok (.invokevirtual 110, 3) := by decide +kernel
theorem d_T_countOdds_5 : decode b_T_countOdds 5 = .ok (.astore 5, 2) := by decide +kernel
theorem d_T_countOdds_7 : decode b_T_countOdds 7 = .ok (.aload_n 0, 1) := by decide +kernel
theorem d_T_countOdds_8 : decode b_T_countOdds 8 = .ok (.iload_n 2, 1) := by decide +kernel
theorem d_T_countOdds_9 : decode b_T_countOdds 9 = .ok (.iload_n 3, 1) := by decide +kernel
theorem d_T_countOdds_10 : decode b_T_countOdds 10 = .ok (.invokevirtual 114, 3) := by decide +kernel
theorem d_T_countOdds_13 : decode b_T_countOdds 13 = .ok (.iload 4, 2) := by decide +kernel
theorem d_T_countOdds_15 : decode b_T_countOdds 15 = .ok (.iconst 0, 1) := by decide +kernel
theorem d_T_countOdds_16 : decode b_T_countOdds 16 = .ok (.iconst 1, 1) := by decide +kernel
theorem d_T_countOdds_17 : decode b_T_countOdds 17 = .ok (.invokestatic 47, 3) := by decide +kernel
theorem d_T_countOdds_20 : decode b_T_countOdds 20 = .ok (.aload_n 0, 1) := by decide +kernel
theorem d_T_countOdds_21 : decode b_T_countOdds 21 = .ok (.getfield 29, 3) := by decide +kernel
theorem d_T_countOdds_24 : decode b_T_countOdds 24 = .ok (.aload_n 0, 1) := by decide +kernel
theorem d_T_countOdds_25 : decode b_T_countOdds 25 = .ok (.getfield 10, 3) := by decide +kernel
theorem d_T_countOdds_28 : decode b_T_countOdds 28 = .ok (.aload 5, 2) := by decide +kernel
theorem d_T_countOdds_30 : decode b_T_countOdds 30 = .ok (.getfield 118, 3) := by decide +kernel
theorem d_T_countOdds_33 : decode b_T_countOdds 33 = .ok (.iload_n 2, 1) := by decide +kernel
theorem d_T_countOdds_34 : decode b_T_countOdds 34 = .ok (.iload_n 3, 1) := by decide +kernel
theorem d_T_countOdds_35 : decode b_T_countOdds 35 = .ok (.invokevirtual 121, 3) := by decide +kernel
theorem d_T_countOdds_38 : decode b_T_countOdds 38 = .ok (.aload 5, 2) := by decide +kernel
theorem d_T_countOdds_40 : decode b_T_countOdds 40 = .ok (.areturn, 1) := by decide +kernel
theorem d_T_fewestCars_0 : decode b_T_fewestCars 0 = .ok (.aload_n 0, 1) := by decide +kernel
theorem d_T_fewestCars_1 : decode b_T_fewestCars 1 = .ok (.getfield 29, 3) := by decide +kernel
theorem d_T_fewestCars_4 : decode b_T_fewestCars 4 = .ok (.aload_n 0, 1) := by decide +kernel
theorem d_T_fewestCars_5 : decode b_T_fewestCars 5 = .ok (.getfield 10, 3) := by decide +kernel
theorem d_T_fewestCars_8 : decode b_T_fewestCars 8 = .ok (.aload_n 1, 1) := by decide +kernel
theorem d_T_fewestCars_9 : decode b_T_fewestCars 9 = .ok (.getfield 118, 3) := by decide +kernel
theorem d_T_fewestCars_12 : decode b_T_fewestCars 12 = .ok (.iconst 1, 1) := by decide +kernel
theorem d_T_fewestCars_13 : decode b_T_fewestCars 13 = .ok (.aload_n 0, 1) := by decide +kernel
theorem d_T_fewestCars_14 : decode b_T_fewestCars 14 = .ok (.getfield 10, 3) := by decide +kernel
theorem d_T_fewestCars_17 : decode b_T_fewestCars 17 = .ok (.getfield 51, 3) := by decide +kernel
theorem d_T_fewestCars_20 : decode b_T_fewestCars 20 = .ok (.invokevirtual 121, 3) := by decide +kernel
theorem d_T_fewestCars_23 : decode b_T_fewestCars 23 = .ok (.iconst 1, 1) := by decide +kernel
theorem d_T_fewestCars_24 : decode b_T_fewestCars 24 = .ok (.istore_n 3, 1) := by decide +kernel
theorem d_T_fewestCars_25 : decode b_T_fewestCars 25 = .ok (.iload_n 3, 1) := by decide +kernel
theorem d_T_fewestCars_26 : decode b_T_fewestCars 26 = .ok (.bipush 6, 2) := by decide +kernel
theorem d_T_fewestCars_28 : decode b_T_fewestCars 28 = .ok (.if_icmp .gt 26, 3) := by decide +kernel
theorem d_T_fewestCars_31 : decode b_T_fewestCars 31 = .ok (.aload_n 0, 1) := by decide +kernel
theorem d_T_fewestCars_32 : decode b_T_fewestCars 32 = .ok (.getfield 29, 3) := by decide +kernel
theorem d_T_fewestCars_35 : decode b_T_fewestCars 35 = .ok (.iload_n 3, 1) := by decide +kernel
theorem d_T_fewestCars_36 : decode b_T_fewestCars 36 = .ok (.aload_n 1, 1) := by decide +kernel
theorem d_T_fewestCars_37 : decode b_T_fewestCars 37 = .ok (.invokevirtual 132, 3) := by decide +kernel
theorem d_T_fewestCars_40 : decode b_T_fewestCars 40 = .ok (.iload_n 2, 1) := by decide +kernel
theorem d_T_fewestCars_41 : decode b_T_fewestCars 41 = .ok (.i2l, 1) := by decide +kernel
theorem d_T_fewestCars_42 : decode b_T_fewestCars 42 = .ok (.lcmp, 1) := by decide +kernel
theorem d_T_fewestCars_43 : decode b_T_fewestCars 43 = .ok (.ifCond .lt 5, 3) := by decide +kernel
theorem d_T_fewestCars_46 : decode b_T_fewestCars 46 = .ok (.iload_n 3, 1) := by decide +kernel
theorem d_T_fewestCars_47 : decode b_T_fewestCars 47 = .ok (.ireturn, 1) := by decide +kernel
theorem d_T_fewestCars_48 : decode b_T_fewestCars 48 = .ok (.iinc 3 1, 3) := by decide +kernel
theorem d_T_fewestCars_51 : decode b_T_fewestCars 51 = .ok (.goto (-26), 3) := by decide +kernel
theorem d_T_fewestCars_54 : decode b_T_fewestCars 54 = .ok (.iconst (-1), 1) := by decide +kernel
theorem d_T_fewestCars_55 : decode b_T_fewestCars 55 = .ok (.ireturn, 1) := by decide +kernel
theorem d_T_partInLowestTerms_0 : decode b_T_partInLowestTerms 0 = .ok (.lload_n 0, 1) := by decide +kernel
theorem d_T_partInLowestTerms_1 : decode b_T_partInLowestTerms 1 = .ok (.lload_n 2, 1) := by decide +kernel
theorem d_T_partInLowestTerms_2 : decode b_T_partInLowestTerms 2 = .ok (.invokestatic 190, 3) := by decide +kernel
theorem d_T_partInLowestTerms_5 : decode b_T_partInLowestTerms 5 = .ok (.lstore 5, 2) := by decide +kernel
theorem d_T_partInLowestTerms_7 : decode b_T_partInLowestTerms 7 = .ok (.iload 4, 2) := by decide +kernel
theorem d_T_partInLowestTerms_9 : decode b_T_partInLowestTerms 9 = .ok (.ifCond .ne 10, 3) := by decide +kernel
theorem d_T_partInLowestTerms_12 : decode b_T_partInLowestTerms 12 = .ok (.lload_n 0, 1) := by decide +kernel
theorem d_T_partInLowestTerms_13 : decode b_T_partInLowestTerms 13 = .ok (.lload 5, 2) := by decide +kernel
theorem d_T_partInLowestTerms_15 : decode b_T_partInLowestTerms 15 = .ok (.ldiv, 1) := by decide +kernel
theorem d_T_partInLowestTerms_16 : decode b_T_partInLowestTerms 16 = .ok (.goto 7, 3) := by decide +kernel
theorem d_T_partInLowestTerms_19 : decode b_T_partInLowestTerms 19 = .ok (.lload_n 2, 1) := by decide +kernel
theorem d_T_partInLowestTerms_20 : decode b_T_partInLowestTerms 20 = .ok (.lload 5, 2) := by decide +kernel
theorem d_T_partInLowestTerms_22 : decode b_T_partInLowestTerms 22 = .ok (.ldiv, 1) := by decide +kernel
theorem d_T_partInLowestTerms_23 : decode b_T_partInLowestTerms 23 = .ok (.lreturn, 1) := by decide +kernel
theorem d_T_commonDivisor_0 : decode b_T_commonDivisor 0 = .ok (.lload_n 0, 1) := by decide +kernel
theorem d_T_commonDivisor_1 : decode b_T_commonDivisor 1 = .ok (.lstore 4, 2) := by decide +kernel
theorem d_T_commonDivisor_3 : decode b_T_commonDivisor 3 = .ok (.lload_n 2, 1) := by decide +kernel
theorem d_T_commonDivisor_4 : decode b_T_commonDivisor 4 = .ok (.lstore 6, 2) := by decide +kernel
theorem d_T_commonDivisor_6 : decode b_T_commonDivisor 6 = .ok (.iconst 0, 1) := by decide +kernel
theorem d_T_commonDivisor_7 : decode b_T_commonDivisor 7 = .ok (.istore 8, 2) := by decide +kernel
theorem d_T_commonDivisor_9 : decode b_T_commonDivisor 9 = .ok (.iload 8, 2) := by decide +kernel
theorem d_T_commonDivisor_11 : decode b_T_commonDivisor 11 = .ok (.bipush 100, 2) := by decide +kernel
theorem d_T_commonDivisor_13 : decode b_T_commonDivisor 13 = .ok (.if_icmp .ge 31, 3) := by decide +kernel
theorem d_T_commonDivisor_16 : decode b_T_commonDivisor 16 = .ok (.lload 6, 2) := by decide +kernel
theorem d_T_commonDivisor_18 : decode b_T_commonDivisor 18 = .ok (.lconst 0, 1) := by decide +kernel
theorem d_T_commonDivisor_19 : decode b_T_commonDivisor 19 = .ok (.lcmp, 1) := by decide +kernel
theorem d_T_commonDivisor_20 : decode b_T_commonDivisor 20 = .ok (.ifCond .eq 24, 3) := by decide +kernel
theorem d_T_commonDivisor_23 : decode b_T_commonDivisor 23 = .ok (.lload 4, 2) := by decide +kernel
theorem d_T_commonDivisor_25 : decode b_T_commonDivisor 25 = .ok (.lload 6, 2) := by decide +kernel
theorem d_T_commonDivisor_27 : decode b_T_commonDivisor 27 = .ok (.lrem, 1) := by decide +kernel
theorem d_T_commonDivisor_28 : decode b_T_commonDivisor 28 = .ok (.lstore 9, 2) := by decide +kernel
theorem d_T_commonDivisor_30 : decode b_T_commonDivisor 30 = .ok (.lload 6, 2) := by decide +kernel
theorem d_T_commonDivisor_32 : decode b_T_commonDivisor 32 = .ok (.lstore 4, 2) := by decide +kernel
theorem d_T_commonDivisor_34 : decode b_T_commonDivisor 34 = .ok (.lload 9, 2) := by decide +kernel
theorem d_T_commonDivisor_36 : decode b_T_commonDivisor 36 = .ok (.lstore 6, 2) := by decide +kernel
theorem d_T_commonDivisor_38 : decode b_T_commonDivisor 38 = .ok (.iinc 8 1, 3) := by decide +kernel
theorem d_T_commonDivisor_41 : decode b_T_commonDivisor 41 = .ok (.goto (-32), 3) := by decide +kernel
theorem d_T_commonDivisor_44 : decode b_T_commonDivisor 44 = .ok (.lload 4, 2) := by decide +kernel
theorem d_T_commonDivisor_46 : decode b_T_commonDivisor 46 = .ok (.lconst 0, 1) := by decide +kernel
theorem d_T_commonDivisor_47 : decode b_T_commonDivisor 47 = .ok (.lcmp, 1) := by decide +kernel
theorem d_T_commonDivisor_48 : decode b_T_commonDivisor 48 = .ok (.ifCond .le 8, 3) := by decide +kernel
theorem d_T_commonDivisor_51 : decode b_T_commonDivisor 51 = .ok (.lload 4, 2) := by decide +kernel
theorem d_T_commonDivisor_53 : decode b_T_commonDivisor 53 = .ok (.goto 4, 3) := by decide +kernel
theorem d_T_commonDivisor_56 : decode b_T_commonDivisor 56 = .ok (.lconst 1, 1) := by decide +kernel
theorem d_T_commonDivisor_57 : decode b_T_commonDivisor 57 = .ok (.lreturn, 1) := by decide +kernel
theorem d_T_orderOfFractions_0 : decode b_T_orderOfFractions 0 = .ok (.lload_n 0, 1) := by decide +kernel
theorem d_T_orderOfFractions_1 : decode b_T_orderOfFractions 1 = .ok (.lstore 8, 2) := by decide +kernel
theorem d_T_orderOfFractions_3 : decode b_T_orderOfFractions 3 = .ok (.lload_n 2, 1) := by decide +kernel
theorem d_T_orderOfFractions_4 : decode b_T_orderOfFractions 4 = .ok (.lstore 10, 2) := by decide +kernel
theorem d_T_orderOfFractions_6 : decode b_T_orderOfFractions 6 = .ok (.lload 4, 2) := by decide +kernel
theorem d_T_orderOfFractions_8 : decode b_T_orderOfFractions 8 = .ok (.lstore 12, 2) := by decide +kernel
theorem d_T_orderOfFractions_10 : decode b_T_orderOfFractions 10 = .ok (.lload 6, 2) := by decide +kernel
theorem d_T_orderOfFractions_12 : decode b_T_orderOfFractions 12 = .ok (.lstore 14, 2) := by decide +kernel
theorem d_T_orderOfFractions_14 : decode b_T_orderOfFractions 14 = .ok (.iconst 1, 1) := by decide +kernel
theorem d_T_orderOfFractions_15 : decode b_T_orderOfFractions 15 = .ok (.istore 16, 2) := by decide +kernel
theorem d_T_orderOfFractions_17 : decode b_T_orderOfFractions 17 = .ok (.iconst 0, 1) := by decide +kernel
theorem d_T_orderOfFractions_18 : decode b_T_orderOfFractions 18 = .ok (.istore 17, 2) := by decide +kernel
theorem d_T_orderOfFractions_20 : decode b_T_orderOfFractions 20 = .ok (.iload 17, 2) := by decide +kernel
theorem d_T_orderOfFractions_22 : decode b_T_orderOfFractions 22 = .ok (.bipush 100, 2) := by decide +kernel
theorem d_T_orderOfFractions_24 : decode b_T_orderOfFractions 24 = .ok (.if_icmp .ge 103, 3) := by decide +kernel
theorem d_T_orderOfFractions_27 : decode b_T_orderOfFractions 27 = .ok (.lload 10, 2) := by decide +kernel
theorem d_T_orderOfFractions_29 : decode b_T_orderOfFractions 29 = .ok (.lconst 0, 1) := by decide +kernel
theorem d_T_orderOfFractions_30 : decode b_T_orderOfFractions 30 = .ok (.lcmp, 1) := by decide +kernel
theorem d_T_orderOfFractions_31 : decode b_T_orderOfFractions 31 = .ok (.ifCond .eq 96, 3) := by decide +kernel
theorem d_T_orderOfFractions_34 : decode b_T_orderOfFractions 34 = .ok (.lload 14, 2) := by decide +kernel
theorem d_T_orderOfFractions_36 : decode b_T_orderOfFractions 36 = .ok (.lconst 0, 1) := by decide +kernel
theorem d_T_orderOfFractions_37 : decode b_T_orderOfFractions 37 = .ok (.lcmp, 1) := by decide +kernel
theorem d_T_orderOfFractions_38 : decode b_T_orderOfFractions 38 = .ok (.ifCond .eq 89, 3) := by decide +kernel
theorem d_T_orderOfFractions_41 : decode b_T_orderOfFractions 41 = .ok (.lload 8, 2) := by decide +kernel
theorem d_T_orderOfFractions_43 : decode b_T_orderOfFractions 43 = .ok (.lload 10, 2) := by decide +kernel
theorem d_T_orderOfFractions_45 : decode b_T_orderOfFractions 45 = .ok (.ldiv, 1) := by decide +kernel
theorem d_T_orderOfFractions_46 : decode b_T_orderOfFractions 46 = .ok (.lstore 18, 2) := by decide +kernel
theorem d_T_orderOfFractions_48 : decode b_T_orderOfFractions 48 = .ok (.lload 12, 2) := by decide +kernel
theorem d_T_orderOfFractions_50 : decode b_T_orderOfFractions 50 = .ok (.lload 14, 2) := by decide +kernel
theorem d_T_orderOfFractions_52 : decode b_T_orderOfFractions 52 = .ok (.ldiv, 1) := by decide +kernel
theorem d_T_orderOfFractions_53 : decode b_T_orderOfFractions 53 = .ok (.lstore 20, 2) := by decide +kernel
theorem d_T_orderOfFractions_55 : decode b_T_orderOfFractions 55 = .ok (.lload 18, 2) := by decide +kernel
theorem d_T_orderOfFractions_57 : decode b_T_orderOfFractions 57 = .ok (.lload 20, 2) := by decide +kernel
theorem d_T_orderOfFractions_59 : decode b_T_orderOfFractions 59 = .ok (.lcmp, 1) := by decide +kernel
theorem d_T_orderOfFractions_60 : decode b_T_orderOfFractions 60 = .ok (.ifCond .eq 20, 3) := by decide +kernel
theorem d_T_orderOfFractions_63 : decode b_T_orderOfFractions 63 = .ok (.lload 18, 2) := by decide +kernel
theorem d_T_orderOfFractions_65 : decode b_T_orderOfFractions 65 = .ok (.lload 20, 2) := by decide +kernel
theorem d_T_orderOfFractions_67 : decode b_T_orderOfFractions 67 = .ok (.lcmp, 1) := by decide +kernel
theorem d_T_orderOfFractions_68 : decode b_T_orderOfFractions 68 = .ok (.ifCond .ge 9, 3) := by decide +kernel
theorem d_T_orderOfFractions_71 : decode b_T_orderOfFractions 71 = .ok (.iload 16, 2) := by decide +kernel
theorem d_T_orderOfFractions_73 : decode b_T_orderOfFractions 73 = .ok (.ineg, 1) := by decide +kernel
theorem d_T_orderOfFractions_74 : decode b_T_orderOfFractions 74 = .ok (.goto 5, 3) := by decide +kernel
theorem d_T_orderOfFractions_77 : decode b_T_orderOfFractions 77 = .ok (.iload 16, 2) := by decide +kernel
theorem d_T_orderOfFractions_79 : decode b_T_orderOfFractions 79 = .ok (.ireturn, 1) := by decide +kernel
theorem d_T_orderOfFractions_80 : decode b_T_orderOfFractions 80 = .ok (.lload 8, 2) := by decide +kernel
theorem d_T_orderOfFractions_82 : decode b_T_orderOfFractions 82 = .ok (.lload 18, 2) := by decide +kernel
theorem d_T_orderOfFractions_84 : decode b_T_orderOfFractions 84 = .ok (.lload 10, 2) := by decide +kernel
theorem d_T_orderOfFractions_86 : decode b_T_orderOfFractions 86 = .ok (.lmul, 1) := by decide +kernel
theorem d_T_orderOfFractions_87 : decode b_T_orderOfFractions 87 = .ok (.lsub, 1) := by decide +kernel
theorem d_T_orderOfFractions_88 : decode b_T_orderOfFractions 88 = .ok (.lstore 22, 2) := by decide +kernel
theorem d_T_orderOfFractions_90 : decode b_T_orderOfFractions 90 = .ok (.lload 12, 2) := by decide +kernel
theorem d_T_orderOfFractions_92 : decode b_T_orderOfFractions 92 = .ok (.lload 20, 2) := by decide +kernel
theorem d_T_orderOfFractions_94 : decode b_T_orderOfFractions 94 = .ok (.lload 14, 2) := by decide +kernel
theorem d_T_orderOfFractions_96 : decode b_T_orderOfFractions 96 = .ok (.lmul, 1) := by decide +kernel
theorem d_T_orderOfFractions_97 : decode b_T_orderOfFractions 97 = .ok (.lsub, 1) := by decide +kernel
theorem d_T_orderOfFractions_98 : decode b_T_orderOfFractions 98 = .ok (.lstore 24, 2) := by decide +kernel
theorem d_T_orderOfFractions_100 : decode b_T_orderOfFractions 100 = .ok (.lload 10, 2) := by decide +kernel
theorem d_T_orderOfFractions_102 : decode b_T_orderOfFractions 102 = .ok (.lstore 8, 2) := by decide +kernel
theorem d_T_orderOfFractions_104 : decode b_T_orderOfFractions 104 = .ok (.lload 22, 2) := by decide +kernel
theorem d_T_orderOfFractions_106 : decode b_T_orderOfFractions 106 = .ok (.lstore 10, 2) := by decide +kernel
theorem d_T_orderOfFractions_108 : decode b_T_orderOfFractions 108 = .ok (.lload 14, 2) := by decide +kernel
theorem d_T_orderOfFractions_110 : decode b_T_orderOfFractions 110 = .ok (.lstore 12, 2) := by decide +kernel
theorem d_T_orderOfFractions_112 : decode b_T_orderOfFractions 112 = .ok (.lload 24, 2) := by decide +kernel
theorem d_T_orderOfFractions_114 : decode b_T_orderOfFractions 114 = .ok (.lstore 14, 2) := by decide +kernel
theorem d_T_orderOfFractions_116 : decode b_T_orderOfFractions 116 = .ok (.iload 16, 2) := by decide +kernel
theorem d_T_orderOfFractions_118 : decode b_T_orderOfFractions 118 = .ok (.ineg, 1) := by decide +kernel
theorem d_T_orderOfFractions_119 : decode b_T_orderOfFractions 119 = .ok (.istore 16, 2) := by decide +kernel
theorem d_T_orderOfFractions_121 : decode b_T_orderOfFractions 121 = .ok (.iinc 17 1, 3) := by decide +kernel
theorem d_T_orderOfFractions_124 : decode b_T_orderOfFractions 124 = .ok (.goto (-104), 3) := by decide +kernel
theorem d_T_orderOfFractions_127 : decode b_T_orderOfFractions 127 = .ok (.lload 10, 2) := by decide +kernel
theorem d_T_orderOfFractions_129 : decode b_T_orderOfFractions 129 = .ok (.lconst 0, 1) := by decide +kernel
theorem d_T_orderOfFractions_130 : decode b_T_orderOfFractions 130 = .ok (.lcmp, 1) := by decide +kernel
theorem d_T_orderOfFractions_131 : decode b_T_orderOfFractions 131 = .ok (.ifCond .ne 17, 3) := by decide +kernel
theorem d_T_orderOfFractions_134 : decode b_T_orderOfFractions 134 = .ok (.lload 14, 2) := by decide +kernel
theorem d_T_orderOfFractions_136 : decode b_T_orderOfFractions 136 = .ok (.lconst 0, 1) := by decide +kernel
theorem d_T_orderOfFractions_137 : decode b_T_orderOfFractions 137 = .ok (.lcmp, 1) := by decide +kernel
theorem d_T_orderOfFractions_138 : decode b_T_orderOfFractions 138 = .ok (.ifCond .ne 7, 3) := by decide +kernel
theorem d_T_orderOfFractions_141 : decode b_T_orderOfFractions 141 = .ok (.iconst 0, 1) := by decide +kernel
theorem d_T_orderOfFractions_142 : decode b_T_orderOfFractions 142 = .ok (.goto 5, 3) := by decide +kernel
theorem d_T_orderOfFractions_145 : decode b_T_orderOfFractions 145 = .ok (.iload 16, 2) := by decide +kernel
theorem d_T_orderOfFractions_147 : decode b_T_orderOfFractions 147 = .ok (.ireturn, 1) := by decide +kernel
theorem d_T_orderOfFractions_148 : decode b_T_orderOfFractions 148 = .ok (.iload 16, 2) := by decide +kernel
theorem d_T_orderOfFractions_150 : decode b_T_orderOfFractions 150 = .ok (.ineg, 1) := by decide +kernel
theorem d_T_orderOfFractions_151 : decode b_T_orderOfFractions 151 = .ok (.ireturn, 1) := by decide +kernel
theorem d_B_init_0 : decode b_B_init 0 = .ok (.aload_n 0, 1) := by decide +kernel
theorem d_B_init_1 : decode b_B_init 1 = .ok (.invokespecial 3, 3) := by decide +kernel
theorem d_B_init_4 : decode b_B_init 4 = .ok (.aload_n 0, 1) := by decide +kernel
theorem d_B_init_5 : decode b_B_init 5 = .ok (.bipush 13, 2) := by decide +kernel
theorem d_B_init_7 : decode b_B_init 7 = .ok (.newarray .int, 2) := by decide +kernel
theorem d_B_init_9 : decode b_B_init 9 = .ok (.putfield 9, 3) := by decide +kernel
theorem d_B_init_12 : decode b_B_init 12 = .ok (.aload_n 0, 1) := by decide +kernel
theorem d_B_init_13 : decode b_B_init 13 = .ok (.bipush 13, 2) := by decide +kernel
theorem d_B_init_15 : decode b_B_init 15 = .ok (.newarray .int, 2) := by decide +kernel
theorem d_B_init_17 : decode b_B_init 17 = .ok (.putfield 15, 3) := by decide +kernel
theorem d_B_init_20 : decode b_B_init 20 = .ok (.return_, 1) := by decide +kernel
theorem d_B_addFloor_0 : decode b_B_addFloor 0 = .ok (.aload_n 0, 1) := by decide +kernel
theorem d_B_addFloor_1 : decode b_B_addFloor 1 = .ok (.getfield 18, 3) := by decide +kernel
theorem d_B_addFloor_4 : decode b_B_addFloor 4 = .ok (.iconst 1, 1) := by decide +kernel
theorem d_B_addFloor_5 : decode b_B_addFloor 5 = .ok (.iadd, 1) := by decide +kernel
theorem d_B_addFloor_6 : decode b_B_addFloor 6 = .ok (.istore_n 3, 1) := by decide +kernel
theorem d_B_addFloor_7 : decode b_B_addFloor 7 = .ok (.iload_n 3, 1) := by decide +kernel
theorem d_B_addFloor_8 : decode b_B_addFloor 8 = .ok (.bipush 12, 2) := by decide +kernel
theorem d_B_addFloor_10 : decode b_B_addFloor 10 = .ok (.if_icmp .gt 41, 3) := by decide +kernel
theorem d_B_addFloor_13 : decode b_B_addFloor 13 = .ok (.aload_n 0, 1) := by decide +kernel
theorem d_B_addFloor_14 : decode b_B_addFloor 14 = .ok (.getfield 9, 3) := by decide +kernel
theorem d_B_addFloor_17 : decode b_B_addFloor 17 = .ok (.iload_n 3, 1) := by decide +kernel
theorem d_B_addFloor_18 : decode b_B_addFloor 18 = .ok (.iload_n 1, 1) := by decide +kernel
theorem d_B_addFloor_19 : decode b_B_addFloor 19 = .ok (.iastore, 1) := by decide +kernel
theorem d_B_addFloor_20 : decode b_B_addFloor 20 = .ok (.aload_n 0, 1) := by decide +kernel
theorem d_B_addFloor_21 : decode b_B_addFloor 21 = .ok (.getfield 15, 3) := by decide +kernel
theorem d_B_addFloor_24 : decode b_B_addFloor 24 = .ok (.iload_n 3, 1) := by decide +kernel
theorem d_B_addFloor_25 : decode b_B_addFloor 25 = .ok (.aload_n 0, 1) := by decide +kernel
theorem d_B_addFloor_26 : decode b_B_addFloor 26 = .ok (.getfield 15, 3) := by decide +kernel
theorem d_B_addFloor_29 : decode b_B_addFloor 29 = .ok (.iload_n 3, 1) := by decide +kernel
theorem d_B_addFloor_30 : decode b_B_addFloor 30 = .ok (.iconst 1, 1) := by decide +kernel
theorem d_B_addFloor_31 : decode b_B_addFloor 31 = .ok (.isub, 1) := by decide +kernel
theorem d_B_addFloor_32 : decode b_B_addFloor 32 = .ok (.iaload, 1) := by decide +kernel
theorem d_B_addFloor_33 : decode b_B_addFloor 33 = .ok (.iload_n 2, 1) := by decide +kernel
theorem d_B_addFloor_34 : decode b_B_addFloor 34 = .ok (.iadd, 1) := by decide +kernel
theorem d_B_addFloor_35 : decode b_B_addFloor 35 = .ok (.iastore, 1) := by decide +kernel
theorem d_B_addFloor_36 : decode b_B_addFloor 36 = .ok (.aload_n 0, 1) := by decide +kernel
theorem d_B_addFloor_37 : decode b_B_addFloor 37 = .ok (.iload_n 3, 1) := by decide +kernel
theorem d_B_addFloor_38 : decode b_B_addFloor 38 = .ok (.putfield 18, 3) := by decide +kernel
theorem d_B_addFloor_41 : decode b_B_addFloor 41 = .ok (.aload_n 0, 1) := by decide +kernel
theorem d_B_addFloor_42 : decode b_B_addFloor 42 = .ok (.dup, 1) := by decide +kernel
theorem d_B_addFloor_43 : decode b_B_addFloor 43 = .ok (.getfield 22, 3) := by decide +kernel
theorem d_B_addFloor_46 : decode b_B_addFloor 46 = .ok (.iload_n 1, 1) := by decide +kernel
theorem d_B_addFloor_47 : decode b_B_addFloor 47 = .ok (.iadd, 1) := by decide +kernel
theorem d_B_addFloor_48 : decode b_B_addFloor 48 = .ok (.putfield 22, 3) := by decide +kernel
theorem d_B_addFloor_51 : decode b_B_addFloor 51 = .ok (.iload_n 3, 1) := by decide +kernel
theorem d_B_addFloor_52 : decode b_B_addFloor 52 = .ok (.ireturn, 1) := by decide +kernel
theorem d_B_personsBetween_0 : decode b_B_personsBetween 0 = .ok (.iconst 0, 1) := by decide +kernel
theorem d_B_personsBetween_1 : decode b_B_personsBetween 1 = .ok (.istore_n 3, 1) := by decide +kernel
theorem d_B_personsBetween_2 : decode b_B_personsBetween 2 = .ok (.iload_n 1, 1) := by decide +kernel
theorem d_B_personsBetween_3 : decode b_B_personsBetween 3 = .ok (.istore 4, 2) := by decide +kernel
theorem d_B_personsBetween_5 : decode b_B_personsBetween 5 = .ok (.iload 4, 2) := by decide +kernel
theorem d_B_personsBetween_7 : decode b_B_personsBetween 7 = .ok (.iload_n 2, 1) := by decide +kernel
theorem d_B_personsBetween_8 : decode b_B_personsBetween 8 = .ok (.if_icmp .gt 19, 3) := by decide +kernel
theorem d_B_personsBetween_11 : decode b_B_personsBetween 11 = .ok (.iload_n 3, 1) := by decide +kernel
theorem d_B_personsBetween_12 : decode b_B_personsBetween 12 = .ok (.aload_n 0, 1) := by decide +kernel
theorem d_B_personsBetween_13 : decode b_B_personsBetween 13 = .ok (.getfield 9, 3) := by decide +kernel
theorem d_B_personsBetween_16 : decode b_B_personsBetween 16 = .ok (.iload 4, 2) := by decide +kernel
theorem d_B_personsBetween_18 : decode b_B_personsBetween 18 = .ok (.iaload, 1) := by decide +kernel
theorem d_B_personsBetween_19 : decode b_B_personsBetween 19 = .ok (.iadd, 1) := by decide +kernel
theorem d_B_personsBetween_20 : decode b_B_personsBetween 20 = .ok (.istore_n 3, 1) := by decide +kernel
theorem d_B_personsBetween_21 : decode b_B_personsBetween 21 = .ok (.iinc 4 1, 3) := by decide +kernel
theorem d_B_personsBetween_24 : decode b_B_personsBetween 24 = .ok (.goto (-19), 3) := by decide +kernel
theorem d_B_personsBetween_27 : decode b_B_personsBetween 27 = .ok (.iload_n 3, 1) := by decide +kernel
theorem d_B_personsBetween_28 : decode b_B_personsBetween 28 = .ok (.ireturn, 1) := by decide +kernel
theorem d_C_init_0 : decode b_C_init 0 = .ok (.aload_n 0, 1) := by decide +kernel
theorem d_C_init_1 : decode b_C_init 1 = .ok (.invokespecial 1, 3) := by decide +kernel
theorem d_C_init_4 : decode b_C_init 4 = .ok (.aload_n 0, 1) := by decide +kernel
theorem d_C_init_5 : decode b_C_init 5 = .ok (.iload_n 1, 1) := by decide +kernel
theorem d_C_init_6 : decode b_C_init 6 = .ok (.putfield 7, 3) := by decide +kernel
theorem d_C_init_9 : decode b_C_init 9 = .ok (.aload_n 0, 1) := by decide +kernel
theorem d_C_init_10 : decode b_C_init 10 = .ok (.iload_n 2, 1) := by decide +kernel
theorem d_C_init_11 : decode b_C_init 11 = .ok (.putfield 13, 3) := by decide +kernel
theorem d_C_init_14 : decode b_C_init 14 = .ok (.aload_n 0, 1) := by decide +kernel
theorem d_C_init_15 : decode b_C_init 15 = .ok (.iload_n 3, 1) := by decide +kernel
theorem d_C_init_16 : decode b_C_init 16 = .ok (.putfield 16, 3) := by decide +kernel
theorem d_C_init_19 : decode b_C_init 19 = .ok (.aload_n 0, 1) := by decide +kernel
theorem d_C_init_20 : decode b_C_init 20 = .ok (.iload 4, 2) := by decide +kernel
theorem d_C_init_22 : decode b_C_init 22 = .ok (.putfield 19, 3) := by decide +kernel
theorem d_C_init_25 : decode b_C_init 25 = .ok (.aload_n 0, 1) := by decide +kernel
theorem d_C_init_26 : decode b_C_init 26 = .ok (.iload 5, 2) := by decide +kernel
theorem d_C_init_28 : decode b_C_init 28 = .ok (.putfield 22, 3) := by decide +kernel
theorem d_C_init_31 : decode b_C_init 31 = .ok (.return_, 1) := by decide +kernel
theorem d_O_init_0 : decode b_O_init 0 = .ok (.aload_n 0, 1) := by decide +kernel
theorem d_O_init_1 : decode b_O_init 1 = .ok (.invokespecial 3, 3) := by decide +kernel
theorem d_O_init_4 : decode b_O_init 4 = .ok (.aload_n 0, 1) := by decide +kernel
theorem d_O_init_5 : decode b_O_init 5 = .ok (.iconst 1, 1) := by decide +kernel
theorem d_O_init_6 : decode b_O_init 6 = .ok (.putfield 9, 3) := by decide +kernel
theorem d_O_init_9 : decode b_O_init 9 = .ok (.aload_n 0, 1) := by decide +kernel
theorem d_O_init_10 : decode b_O_init 10 = .ok (.lconst 1, 1) := by decide +kernel
theorem d_O_init_11 : decode b_O_init 11 = .ok (.putfield 15, 3) := by decide +kernel
theorem d_O_init_14 : decode b_O_init 14 = .ok (.return_, 1) := by decide +kernel
theorem d_O_count_0 : decode b_O_count 0 = .ok (.aload_n 1, 1) := by decide +kernel
theorem d_O_count_1 : decode b_O_count 1 = .ok (.iload_n 3, 1) := by decide +kernel
theorem d_O_count_2 : decode b_O_count 2 = .ok (.iload 4, 2) := by decide +kernel
theorem d_O_count_4 : decode b_O_count 4 = .ok (.invokevirtual 19, 3) := by decide +kernel
theorem d_O_count_7 : decode b_O_count 7 = .ok (.istore 5, 2) := by decide +kernel
theorem d_O_count_9 : decode b_O_count 9 = .ok (.aload_n 0, 1) := by decide +kernel
theorem d_O_count_10 : decode b_O_count 10 = .ok (.iload 5, 2) := by decide +kernel
theorem d_O_count_12 : decode b_O_count 12 = .ok (.ifCond .ne 7, 3) := by decide +kernel
theorem d_O_count_15 : decode b_O_count 15 = .ok (.iconst 1, 1) := by decide +kernel
theorem d_O_count_16 : decode b_O_count 16 = .ok (.goto 4, 3) := by decide +kernel
theorem d_O_count_19 : decode b_O_count 19 = .ok (.iconst 0, 1) := by decide +kernel
theorem d_O_count_20 : decode b_O_count 20 = .ok (.putfield 9, 3) := by decide +kernel
theorem d_O_count_23 : decode b_O_count 23 = .ok (.aload_n 0, 1) := by decide +kernel
theorem d_O_count_24 : decode b_O_count 24 = .ok (.aload_n 0, 1) := by decide +kernel
theorem d_O_count_25 : decode b_O_count 25 = .ok (.getfield 9, 3) := by decide +kernel
theorem d_O_count_28 : decode b_O_count 28 = .ok (.ifCond .eq 7, 3) := by decide +kernel
theorem d_O_count_31 : decode b_O_count 31 = .ok (.lconst 1, 1) := by decide +kernel
theorem d_O_count_32 : decode b_O_count 32 = .ok (.goto 10, 3) := by decide +kernel
theorem d_O_count_35 : decode b_O_count 35 = .ok (.iload 5, 2) := by decide +kernel
theorem d_O_count_37 : decode b_O_count 37 = .ok (.i2l, 1) := by decide +kernel
theorem d_O_count_38 : decode b_O_count 38 = .ok (.iload_n 2, 1) := by decide +kernel
theorem d_O_count_39 : decode b_O_count 39 = .ok (.invokestatic 25, 3) := by decide +kernel
theorem d_O_count_42 : decode b_O_count 42 = .ok (.putfield 15, 3) := by decide +kernel
theorem d_O_count_45 : decode b_O_count 45 = .ok (.aload_n 0, 1) := by decide +kernel
theorem d_O_count_46 : decode b_O_count 46 = .ok (.lconst 0, 1) := by decide +kernel
theorem d_O_count_47 : decode b_O_count 47 = .ok (.putfield 29, 3) := by decide +kernel
theorem d_O_count_50 : decode b_O_count 50 = .ok (.aload_n 0, 1) := by decide +kernel
theorem d_O_count_51 : decode b_O_count 51 = .ok (.lconst 0, 1) := by decide +kernel
theorem d_O_count_52 : decode b_O_count 52 = .ok (.putfield 32, 3) := by decide +kernel
theorem d_O_count_55 : decode b_O_count 55 = .ok (.iconst 0, 1) := by decide +kernel
theorem d_O_count_56 : decode b_O_count 56 = .ok (.istore 6, 2) := by decide +kernel
theorem d_O_count_58 : decode b_O_count 58 = .ok (.lconst 0, 1) := by decide +kernel
theorem d_O_count_59 : decode b_O_count 59 = .ok (.lstore 7, 2) := by decide +kernel
theorem d_O_count_61 : decode b_O_count 61 = .ok (.iload_n 3, 1) := by decide +kernel
theorem d_O_count_62 : decode b_O_count 62 = .ok (.istore 9, 2) := by decide +kernel
theorem d_O_count_64 : decode b_O_count 64 = .ok (.iload 9, 2) := by decide +kernel
theorem d_O_count_66 : decode b_O_count 66 = .ok (.iload 4, 2) := by decide +kernel
theorem d_O_count_68 : decode b_O_count 68 = .ok (.if_icmp .gt 92, 3) := by decide +kernel
theorem d_O_count_71 : decode b_O_count 71 = .ok (.aload_n 0, 1) := by decide +kernel
theorem d_O_count_72 : decode b_O_count 72 = .ok (.getfield 9, 3) := by decide +kernel
theorem d_O_count_75 : decode b_O_count 75 = .ok (.ifCond .ne 85, 3) := by decide +kernel
theorem d_O_count_78 : decode b_O_count 78 = .ok (.aload_n 1, 1) := by decide +kernel
theorem d_O_count_79 : decode b_O_count 79 = .ok (.getfield 35, 3) := by decide +kernel
theorem d_O_count_82 : decode b_O_count 82 = .ok (.iload 9, 2) := by decide +kernel
theorem d_O_count_84 : decode b_O_count 84 = .ok (.iaload, 1) := by decide +kernel
theorem d_O_count_85 : decode b_O_count 85 = .ok (.istore 10, 2) := by decide +kernel
theorem d_O_count_87 : decode b_O_count 87 = .ok (.aload_n 0, 1) := by decide +kernel
theorem d_O_count_88 : decode b_O_count 88 = .ok (.dup, 1) := by decide +kernel
theorem d_O_count_89 : decode b_O_count 89 = .ok (.getfield 29, 3) := by decide +kernel
theorem d_O_count_92 : decode b_O_count 92 = .ok (.aload_n 0, 1) := by decide +kernel
theorem d_O_count_93 : decode b_O_count 93 = .ok (.getfield 15, 3) := by decide +kernel
theorem d_O_count_96 : decode b_O_count 96 = .ok (.iload 5, 2) := by decide +kernel
theorem d_O_count_98 : decode b_O_count 98 = .ok (.iload 10, 2) := by decide +kernel
theorem d_O_count_100 : decode b_O_count 100 = .ok (.isub, 1) := by decide +kernel
theorem d_O_count_101 : decode b_O_count 101 = .ok (.i2l, 1) := by decide +kernel
theorem d_O_count_102 : decode b_O_count 102 = .ok (.iload_n 2, 1) := by decide +kernel
theorem d_O_count_103 : decode b_O_count 103 = .ok (.invokestatic 25, 3) := by decide +kernel
theorem d_O_count_106 : decode b_O_count 106 = .ok (.lsub, 1) := by decide +kernel
theorem d_O_count_107 : decode b_O_count 107 = .ok (.ladd, 1) := by decide +kernel
theorem d_O_count_108 : decode b_O_count 108 = .ok (.putfield 29, 3) := by decide +kernel
theorem d_O_count_111 : decode b_O_count 111 = .ok (.iload 6, 2) := by decide +kernel
theorem d_O_count_113 : decode b_O_count 113 = .ok (.iload 10, 2) := by decide +kernel
theorem d_O_count_115 : decode b_O_count 115 = .ok (.iadd, 1) := by decide +kernel
theorem d_O_count_116 : decode b_O_count 116 = .ok (.istore 6, 2) := by decide +kernel
theorem d_O_count_118 : decode b_O_count 118 = .ok (.iload 6, 2) := by decide +kernel
theorem d_O_count_120 : decode b_O_count 120 = .ok (.i2l, 1) := by decide +kernel
theorem d_O_count_121 : decode b_O_count 121 = .ok (.iload_n 2, 1) := by decide +kernel
theorem d_O_count_122 : decode b_O_count 122 = .ok (.invokestatic 25, 3) := by decide +kernel
theorem d_O_count_125 : decode b_O_count 125 = .ok (.lstore 11, 2) := by decide +kernel
theorem d_O_count_127 : decode b_O_count 127 = .ok (.aload_n 0, 1) := by decide +kernel
theorem d_O_count_128 : decode b_O_count 128 = .ok (.dup, 1) := by decide +kernel
theorem d_O_count_129 : decode b_O_count 129 = .ok (.getfield 32, 3) := by decide +kernel
theorem d_O_count_132 : decode b_O_count 132 = .ok (.aload_n 1, 1) := by decide +kernel
theorem d_O_count_133 : decode b_O_count 133 = .ok (.getfield 39, 3) := by decide +kernel
theorem d_O_count_136 : decode b_O_count 136 = .ok (.iload 9, 2) := by decide +kernel
theorem d_O_count_138 : decode b_O_count 138 = .ok (.iaload, 1) := by decide +kernel
theorem d_O_count_139 : decode b_O_count 139 = .ok (.i2l, 1) := by decide +kernel
theorem d_O_count_140 : decode b_O_count 140 = .ok (.lload 11, 2) := by decide +kernel
theorem d_O_count_142 : decode b_O_count 142 = .ok (.lload 7, 2) := by decide +kernel
theorem d_O_count_144 : decode b_O_count 144 = .ok (.lsub, 1) := by decide +kernel
theorem d_O_count_145 : decode b_O_count 145 = .ok (.lmul, 1) := by decide +kernel
theorem d_O_count_146 : decode b_O_count 146 = .ok (.ladd, 1) := by decide +kernel
theorem d_O_count_147 : decode b_O_count 147 = .ok (.putfield 32, 3) := by decide +kernel
theorem d_O_count_150 : decode b_O_count 150 = .ok (.lload 11, 2) := by decide +kernel
theorem d_O_count_152 : decode b_O_count 152 = .ok (.lstore 7, 2) := by decide +kernel
theorem d_O_count_154 : decode b_O_count 154 = .ok (.iinc 9 1, 3) := by decide +kernel
theorem d_O_count_157 : decode b_O_count 157 = .ok (.goto (-93), 3) := by decide +kernel
theorem d_O_count_160 : decode b_O_count 160 = .ok (.return_, 1) := by decide +kernel
theorem d_O_tripAbove_0 : decode b_O_tripAbove 0 = .ok (.aload_n 0, 1) := by decide +kernel
theorem d_O_tripAbove_1 : decode b_O_tripAbove 1 = .ok (.getfield 9, 3) := by decide +kernel
theorem d_O_tripAbove_4 : decode b_O_tripAbove 4 = .ok (.ifCond .eq 5, 3) := by decide +kernel
theorem d_O_tripAbove_7 : decode b_O_tripAbove 7 = .ok (.lconst 0, 1) := by decide +kernel
theorem d_O_tripAbove_8 : decode b_O_tripAbove 8 = .ok (.lreturn, 1) := by decide +kernel
theorem d_O_tripAbove_9 : decode b_O_tripAbove 9 = .ok (.aload_n 1, 1) := by decide +kernel
theorem d_O_tripAbove_10 : decode b_O_tripAbove 10 = .ok (.getfield 42, 3) := by decide +kernel
theorem d_O_tripAbove_13 : decode b_O_tripAbove 13 = .ok (.i2l, 1) := by decide +kernel
theorem d_O_tripAbove_14 : decode b_O_tripAbove 14 = .ok (.aload_n 0, 1) := by decide +kernel
theorem d_O_tripAbove_15 : decode b_O_tripAbove 15 = .ok (.getfield 29, 3) := by decide +kernel
theorem d_O_tripAbove_18 : decode b_O_tripAbove 18 = .ok (.aload_n 0, 1) := by decide +kernel
theorem d_O_tripAbove_19 : decode b_O_tripAbove 19 = .ok (.getfield 15, 3) := by decide +kernel
theorem d_O_tripAbove_22 : decode b_O_tripAbove 22 = .ok (.ladd, 1) := by decide +kernel
theorem d_O_tripAbove_23 : decode b_O_tripAbove 23 = .ok (.lmul, 1) := by decide +kernel
theorem d_O_tripAbove_24 : decode b_O_tripAbove 24 = .ok (.lstore_n 2, 1) := by decide +kernel
theorem d_O_tripAbove_25 : decode b_O_tripAbove 25 = .ok (.ldc2_w 48, 3) := by decide +kernel
theorem d_O_tripAbove_28 : decode b_O_tripAbove 28 = .ok (.aload_n 1, 1) := by decide +kernel
theorem d_O_tripAbove_29 : decode b_O_tripAbove 29 = .ok (.getfield 50, 3) := by decide +kernel
theorem d_O_tripAbove_32 : decode b_O_tripAbove 32 = .ok (.i2l, 1) := by decide +kernel
theorem d_O_tripAbove_33 : decode b_O_tripAbove 33 = .ok (.lmul, 1) := by decide +kernel
theorem d_O_tripAbove_34 : decode b_O_tripAbove 34 = .ok (.aload_n 1, 1) := by decide +kernel
theorem d_O_tripAbove_35 : decode b_O_tripAbove 35 = .ok (.getfield 53, 3) := by decide +kernel
theorem d_O_tripAbove_38 : decode b_O_tripAbove 38 = .ok (.i2l, 1) := by decide +kernel
theorem d_O_tripAbove_39 : decode b_O_tripAbove 39 = .ok (.lmul, 1) := by decide +kernel
theorem d_O_tripAbove_40 : decode b_O_tripAbove 40 = .ok (.aload_n 0, 1) := by decide +kernel
theorem d_O_tripAbove_41 : decode b_O_tripAbove 41 = .ok (.getfield 15, 3) := by decide +kernel
theorem d_O_tripAbove_44 : decode b_O_tripAbove 44 = .ok (.lmul, 1) := by decide +kernel
theorem d_O_tripAbove_45 : decode b_O_tripAbove 45 = .ok (.lstore 4, 2) := by decide +kernel
theorem d_O_tripAbove_47 : decode b_O_tripAbove 47 = .ok (.ldc2_w 48, 3) := by decide +kernel
theorem d_O_tripAbove_50 : decode b_O_tripAbove 50 = .ok (.aload_n 0, 1) := by decide +kernel
theorem d_O_tripAbove_51 : decode b_O_tripAbove 51 = .ok (.getfield 32, 3) := by decide +kernel
theorem d_O_tripAbove_54 : decode b_O_tripAbove 54 = .ok (.lmul, 1) := by decide +kernel
theorem d_O_tripAbove_55 : decode b_O_tripAbove 55 = .ok (.aload_n 1, 1) := by decide +kernel
theorem d_O_tripAbove_56 : decode b_O_tripAbove 56 = .ok (.getfield 56, 3) := by decide +kernel
theorem d_O_tripAbove_59 : decode b_O_tripAbove 59 = .ok (.i2l, 1) := by decide +kernel
theorem d_O_tripAbove_60 : decode b_O_tripAbove 60 = .ok (.lload_n 2, 1) := by decide +kernel
theorem d_O_tripAbove_61 : decode b_O_tripAbove 61 = .ok (.lload 4, 2) := by decide +kernel
theorem d_O_tripAbove_63 : decode b_O_tripAbove 63 = .ok (.ladd, 1) := by decide +kernel
theorem d_O_tripAbove_64 : decode b_O_tripAbove 64 = .ok (.lmul, 1) := by decide +kernel
theorem d_O_tripAbove_65 : decode b_O_tripAbove 65 = .ok (.ladd, 1) := by decide +kernel
theorem d_O_tripAbove_66 : decode b_O_tripAbove 66 = .ok (.lreturn, 1) := by decide +kernel
theorem d_O_tripBelow_0 : decode b_O_tripBelow 0 = .ok (.aload_n 1, 1) := by decide +kernel
theorem d_O_tripBelow_1 : decode b_O_tripBelow 1 = .ok (.getfield 56, 3) := by decide +kernel
theorem d_O_tripBelow_4 : decode b_O_tripBelow 4 = .ok (.i2l, 1) := by decide +kernel
theorem d_O_tripBelow_5 : decode b_O_tripBelow 5 = .ok (.aload_n 0, 1) := by decide +kernel
theorem d_O_tripBelow_6 : decode b_O_tripBelow 6 = .ok (.getfield 15, 3) := by decide +kernel
theorem d_O_tripBelow_9 : decode b_O_tripBelow 9 = .ok (.lmul, 1) := by decide +kernel
theorem d_O_tripBelow_10 : decode b_O_tripBelow 10 = .ok (.lreturn, 1) := by decide +kernel
theorem d_O_carriedBy_0 : decode b_O_carriedBy 0 = .ok (.aload_n 0, 1) := by decide +kernel
theorem d_O_carriedBy_1 : decode b_O_carriedBy 1 = .ok (.aload_n 2, 1) := by decide +kernel
theorem d_O_carriedBy_2 : decode b_O_carriedBy 2 = .ok (.invokevirtual 59, 3) := by decide +kernel
theorem d_O_carriedBy_5 : decode b_O_carriedBy 5 = .ok (.lstore_n 3, 1) := by decide +kernel
theorem d_O_carriedBy_6 : decode b_O_carriedBy 6 = .ok (.lload_n 3, 1) := by decide +kernel
theorem d_O_carriedBy_7 : decode b_O_carriedBy 7 = .ok (.lconst 0, 1) := by decide +kernel
theorem d_O_carriedBy_8 : decode b_O_carriedBy 8 = .ok (.lcmp, 1) := by decide +kernel
theorem d_O_carriedBy_9 : decode b_O_carriedBy 9 = .ok (.ifCond .ne 7, 3) := by decide +kernel
theorem d_O_carriedBy_12 : decode b_O_carriedBy 12 = .ok (.lconst 0, 1) := by decide +kernel
theorem d_O_carriedBy_13 : decode b_O_carriedBy 13 = .ok (.goto 23, 3) := by decide +kernel
theorem d_O_carriedBy_16 : decode b_O_carriedBy 16 = .ok (.ldc2_w 63, 3) := by decide +kernel
theorem d_O_carriedBy_19 : decode b_O_carriedBy 19 = .ok (.iload_n 1, 1) := by decide +kernel
theorem d_O_carriedBy_20 : decode b_O_carriedBy 20 = .ok (.i2l, 1) := by decide +kernel
theorem d_O_carriedBy_21 : decode b_O_carriedBy 21 = .ok (.lmul, 1) := by decide +kernel
theorem d_O_carriedBy_22 : decode b_O_carriedBy 22 = .ok (.aload_n 2, 1) := by decide +kernel
theorem d_O_carriedBy_23 : decode b_O_carriedBy 23 = .ok (.getfield 50, 3) := by decide +kernel
theorem d_O_carriedBy_26 : decode b_O_carriedBy 26 = .ok (.i2l, 1) := by decide +kernel
theorem d_O_carriedBy_27 : decode b_O_carriedBy 27 = .ok (.lmul, 1) := by decide +kernel
theorem d_O_carriedBy_28 : decode b_O_carriedBy 28 = .ok (.aload_n 0, 1) := by decide +kernel
theorem d_O_carriedBy_29 : decode b_O_carriedBy 29 = .ok (.aload_n 2, 1) := by decide +kernel
theorem d_O_carriedBy_30 : decode b_O_carriedBy 30 = .ok (.invokevirtual 65, 3) := by decide +kernel
theorem d_O_carriedBy_33 : decode b_O_carriedBy 33 = .ok (.lmul, 1) := by decide +kernel
theorem d_O_carriedBy_34 : decode b_O_carriedBy 34 = .ok (.lload_n 3, 1) := by decide +kernel
theorem d_O_carriedBy_35 : decode b_O_carriedBy 35 = .ok (.ldiv, 1) := by decide +kernel
theorem d_O_carriedBy_36 : decode b_O_carriedBy 36 = .ok (.lreturn, 1) := by decide +kernel
theorem d_O_power_0 : decode b_O_power 0 = .ok (.lconst 1, 1) := by decide +kernel
theorem d_O_power_1 : decode b_O_power 1 = .ok (.lstore_n 3, 1) := by decide +kernel
theorem d_O_power_2 : decode b_O_power 2 = .ok (.iconst 0, 1) := by decide +kernel
theorem d_O_power_3 : decode b_O_power 3 = .ok (.istore 5, 2) := by decide +kernel
theorem d_O_power_5 : decode b_O_power 5 = .ok (.iload 5, 2) := by decide +kernel
theorem d_O_power_7 : decode b_O_power 7 = .ok (.iload_n 2, 1) := by decide +kernel
theorem d_O_power_8 : decode b_O_power 8 = .ok (.if_icmp .ge 13, 3) := by decide +kernel
theorem d_O_power_11 : decode b_O_power 11 = .ok (.lload_n 3, 1) := by decide +kernel
theorem d_O_power_12 : decode b_O_power 12 = .ok (.lload_n 0, 1) := by decide +kernel
theorem d_O_power_13 : decode b_O_power 13 = .ok (.lmul, 1) := by decide +kernel
theorem d_O_power_14 : decode b_O_power 14 = .ok (.lstore_n 3, 1) := by decide +kernel
theorem d_O_power_15 : decode b_O_power 15 = .ok (.iinc 5 1, 3) := by decide +kernel
theorem d_O_power_18 : decode b_O_power 18 = .ok (.goto (-13), 3) := by decide +kernel
theorem d_O_power_21 : decode b_O_power 21 = .ok (.lload_n 3, 1) := by decide +kernel
theorem d_O_power_22 : decode b_O_power 22 = .ok (.lreturn, 1) := by decide +kernel
theorem d_S_init_0 : decode b_S_init 0 = .ok (.aload_n 0, 1) := by decide +kernel
theorem d_S_init_1 : decode b_S_init 1 = .ok (.invokespecial 3, 3) := by decide +kernel
theorem d_S_init_4 : decode b_S_init 4 = .ok (.aload_n 0, 1) := by decide +kernel
theorem d_S_init_5 : decode b_S_init 5 = .ok (.sipush 169, 3) := by decide +kernel
theorem d_S_init_8 : decode b_S_init 8 = .ok (.newarray .long, 2) := by decide +kernel
theorem d_S_init_10 : decode b_S_init 10 = .ok (.putfield 11, 3) := by decide +kernel
theorem d_S_init_13 : decode b_S_init 13 = .ok (.aload_n 0, 1) := by decide +kernel
theorem d_S_init_14 : decode b_S_init 14 = .ok (.sipush 169, 3) := by decide +kernel
theorem d_S_init_17 : decode b_S_init 17 = .ok (.newarray .long, 2) := by decide +kernel
theorem d_S_init_19 : decode b_S_init 19 = .ok (.putfield 15, 3) := by decide +kernel
theorem d_S_init_22 : decode b_S_init 22 = .ok (.aload_n 0, 1) := by decide +kernel
theorem d_S_init_23 : decode b_S_init 23 = .ok (.iconst 4, 1) := by decide +kernel
theorem d_S_init_24 : decode b_S_init 24 = .ok (.newarray .int, 2) := by decide +kernel
theorem d_S_init_26 : decode b_S_init 26 = .ok (.putfield 18, 3) := by decide +kernel
theorem d_S_init_29 : decode b_S_init 29 = .ok (.aload_n 0, 1) := by decide +kernel
theorem d_S_init_30 : decode b_S_init 30 = .ok (.iconst 4, 1) := by decide +kernel
theorem d_S_init_31 : decode b_S_init 31 = .ok (.newarray .int, 2) := by decide +kernel
theorem d_S_init_33 : decode b_S_init 33 = .ok (.putfield 22, 3) := by decide +kernel
theorem d_S_init_36 : decode b_S_init 36 = .ok (.aload_n 0, 1) := by decide +kernel
theorem d_S_init_37 : decode b_S_init 37 = .ok (.iconst 0, 1) := by decide +kernel
theorem d_S_init_38 : decode b_S_init 38 = .ok (.putfield 25, 3) := by decide +kernel
theorem d_S_init_41 : decode b_S_init 41 = .ok (.aload_n 0, 1) := by decide +kernel
theorem d_S_init_42 : decode b_S_init 42 = .ok (.getfield 15, 3) := by decide +kernel
theorem d_S_init_45 : decode b_S_init 45 = .ok (.iconst 0, 1) := by decide +kernel
theorem d_S_init_46 : decode b_S_init 46 = .ok (.lconst 1, 1) := by decide +kernel
theorem d_S_init_47 : decode b_S_init 47 = .ok (.lastore, 1) := by decide +kernel
theorem d_S_init_48 : decode b_S_init 48 = .ok (.return_, 1) := by decide +kernel
theorem d_S_measureZones_0 : decode b_S_measureZones 0 = .ok (.iconst 1, 1) := by decide +kernel
theorem d_S_measureZones_1 : decode b_S_measureZones 1 = .ok (.istore 4, 2) := by decide +kernel
theorem d_S_measureZones_3 : decode b_S_measureZones 3 = .ok (.iload 4, 2) := by decide +kernel
theorem d_S_measureZones_5 : decode b_S_measureZones 5 = .ok (.aload_n 1, 1) := by decide +kernel
theorem d_S_measureZones_6 : decode b_S_measureZones 6 = .ok (.getfield 29, 3) := by decide +kernel
theorem d_S_measureZones_9 : decode b_S_measureZones 9 = .ok (.if_icmp .gt 75, 3) := by decide +kernel
theorem d_S_measureZones_12 : decode b_S_measureZones 12 = .ok (.iload 4, 2) := by decide +kernel
theorem d_S_measureZones_14 : decode b_S_measureZones 14 = .ok (.istore 5, 2) := by decide +kernel
theorem d_S_measureZones_16 : decode b_S_measureZones 16 = .ok (.iload 5, 2) := by decide +kernel
theorem d_S_measureZones_18 : decode b_S_measureZones 18 = .ok (.aload_n 1, 1) := by decide +kernel
theorem d_S_measureZones_19 : decode b_S_measureZones 19 = .ok (.getfield 29, 3) := by decide +kernel
theorem d_S_measureZones_22 : decode b_S_measureZones 22 = .ok (.if_icmp .gt 56, 3) := by decide +kernel
theorem d_S_measureZones_25 : decode b_S_measureZones 25 = .ok (.aload_n 3, 1) := by decide +kernel
theorem d_S_measureZones_26 : decode b_S_measureZones 26 = .ok (.aload_n 1, 1) := by decide +kernel
theorem d_S_measureZones_27 : decode b_S_measureZones 27 = .ok (.aload_n 2, 1) := by decide +kernel
theorem d_S_measureZones_28 : decode b_S_measureZones 28 = .ok (.getfield 34, 3) := by decide +kernel
theorem d_S_measureZones_31 : decode b_S_measureZones 31 = .ok (.iload 4, 2) := by decide +kernel
theorem d_S_measureZones_33 : decode b_S_measureZones 33 = .ok (.iload 5, 2) := by decide +kernel
theorem d_S_measureZones_35 : decode b_S_measureZones 35 = .ok (.invokevirtual 39, 3) := by decide +kernel
theorem d_S_measureZones_38 : decode b_S_measureZones 38 = .ok (.aload_n 0, 1) := by decide +kernel
theorem d_S_measureZones_39 : decode b_S_measureZones 39 = .ok (.getfield 11, 3) := by decide +kernel
theorem d_S_measureZones_42 : decode b_S_measureZones 42 = .ok (.iload 4, 2) := by decide +kernel
theorem d_S_measureZones_44 : decode b_S_measureZones 44 = .ok (.iload 5, 2) := by decide +kernel
theorem d_S_measureZones_46 : decode b_S_measureZones 46 = .ok (.invokestatic 45, 3) := by decide +kernel
theorem d_S_measureZones_49 : decode b_S_measureZones 49 = .ok (.aload_n 3, 1) := by decide +kernel
theorem d_S_measureZones_50 : decode b_S_measureZones 50 = .ok (.aload_n 2, 1) := by decide +kernel
theorem d_S_measureZones_51 : decode b_S_measureZones 51 = .ok (.invokevirtual 49, 3) := by decide +kernel
theorem d_S_measureZones_54 : decode b_S_measureZones 54 = .ok (.lastore, 1) := by decide +kernel
theorem d_S_measureZones_55 : decode b_S_measureZones 55 = .ok (.aload_n 0, 1) := by decide +kernel
theorem d_S_measureZones_56 : decode b_S_measureZones 56 = .ok (.getfield 15, 3) := by decide +kernel
theorem d_S_measureZones_59 : decode b_S_measureZones 59 = .ok (.iload 4, 2) := by decide +kernel
theorem d_S_measureZones_61 : decode b_S_measureZones 61 = .ok (.iload 5, 2) := by decide +kernel
theorem d_S_measureZones_63 : decode b_S_measureZones 63 = .ok (.invokestatic 45, 3) := by decide +kernel
theorem d_S_measureZones_66 : decode b_S_measureZones 66 = .ok (.aload_n 3, 1) := by decide +kernel
theorem d_S_measureZones_67 : decode b_S_measureZones 67 = .ok (.aload_n 2, 1) := by decide +kernel
theorem d_S_measureZones_68 : decode b_S_measureZones 68 = .ok (.invokevirtual 53, 3) := by decide +kernel
theorem d_S_measureZones_71 : decode b_S_measureZones 71 = .ok (.lastore, 1) := by decide +kernel
theorem d_S_measureZones_72 : decode b_S_measureZones 72 = .ok (.iinc 5 1, 3) := by decide +kernel
theorem d_S_measureZones_75 : decode b_S_measureZones 75 = .ok (.goto (-59), 3) := by decide +kernel
theorem d_S_measureZones_78 : decode b_S_measureZones 78 = .ok (.iinc 4 1, 3) := by decide +kernel
theorem d_S_measureZones_81 : decode b_S_measureZones 81 = .ok (.goto (-78), 3) := by decide +kernel
theorem d_S_measureZones_84 : decode b_S_measureZones 84 = .ok (.return_, 1) := by decide +kernel
theorem d_S_findBest_0 : decode b_S_findBest 0 = .ok (.aload_n 0, 1) := by decide +kernel
theorem d_S_findBest_1 : decode b_S_findBest 1 = .ok (.iload_n 1, 1) := by decide +kernel
theorem d_S_findBest_2 : decode b_S_findBest 2 = .ok (.putfield 56, 3) := by decide +kernel
theorem d_S_findBest_5 : decode b_S_findBest 5 = .ok (.aload_n 0, 1) := by decide +kernel
theorem d_S_findBest_6 : decode b_S_findBest 6 = .ok (.iload_n 2, 1) := by decide +kernel
theorem d_S_findBest_7 : decode b_S_findBest 7 = .ok (.putfield 57, 3) := by decide +kernel
theorem d_S_findBest_10 : decode b_S_findBest 10 = .ok (.aload_n 0, 1) := by decide +kernel
theorem d_S_findBest_11 : decode b_S_findBest 11 = .ok (.iconst 0, 1) := by decide +kernel
theorem d_S_findBest_12 : decode b_S_findBest 12 = .ok (.putfield 25, 3) := by decide +kernel
theorem d_S_findBest_15 : decode b_S_findBest 15 = .ok (.aload_n 0, 1) := by decide +kernel
theorem d_S_findBest_16 : decode b_S_findBest 16 = .ok (.iconst 0, 1) := by decide +kernel
theorem d_S_findBest_17 : decode b_S_findBest 17 = .ok (.iconst 1, 1) := by decide +kernel
theorem d_S_findBest_18 : decode b_S_findBest 18 = .ok (.iconst 0, 1) := by decide +kernel
theorem d_S_findBest_19 : decode b_S_findBest 19 = .ok (.invokevirtual 60, 3) := by decide +kernel
theorem d_S_findBest_22 : decode b_S_findBest 22 = .ok (.return_, 1) := by decide +kernel
theorem d_S_tryZonesFrom_0 : decode b_S_tryZonesFrom 0 = .ok (.iload_n 1, 1) := by decide +kernel
theorem d_S_tryZonesFrom_1 : decode b_S_tryZonesFrom 1 = .ok (.aload_n 0, 1) := by decide +kernel
theorem d_S_tryZonesFrom_2 : decode b_S_tryZonesFrom 2 = .ok (.getfield 57, 3) := by decide +kernel
theorem d_S_tryZonesFrom_5 : decode b_S_tryZonesFrom 5 = .ok (.iconst 1, 1) := by decide +kernel
theorem d_S_tryZonesFrom_6 : decode b_S_tryZonesFrom 6 = .ok (.isub, 1) := by decide +kernel
theorem d_S_tryZonesFrom_7 : decode b_S_tryZonesFrom 7 = .ok (.if_icmp .lt 31, 3) := by decide +kernel
theorem d_S_tryZonesFrom_10 : decode b_S_tryZonesFrom 10 = .ok (.aload_n 0, 1) := by decide +kernel
theorem d_S_tryZonesFrom_11 : decode b_S_tryZonesFrom 11 = .ok (.getfield 18, 3) := by decide +kernel
theorem d_S_tryZonesFrom_14 : decode b_S_tryZonesFrom 14 = .ok (.iload_n 1, 1) := by decide +kernel
theorem d_S_tryZonesFrom_15 : decode b_S_tryZonesFrom 15 = .ok (.aload_n 0, 1) := by decide +kernel
theorem d_S_tryZonesFrom_16 : decode b_S_tryZonesFrom 16 = .ok (.getfield 56, 3) := by decide +kernel
theorem d_S_tryZonesFrom_19 : decode b_S_tryZonesFrom 19 = .ok (.iastore, 1) := by decide +kernel
theorem d_S_tryZonesFrom_20 : decode b_S_tryZonesFrom 20 = .ok (.aload_n 0, 1) := by decide +kernel
theorem d_S_tryZonesFrom_21 : decode b_S_tryZonesFrom 21 = .ok (.aload_n 0, 1) := by decide +kernel
theorem d_S_tryZonesFrom_22 : decode b_S_tryZonesFrom 22 = .ok (.iload_n 3, 1) := by decide +kernel
theorem d_S_tryZonesFrom_23 : decode b_S_tryZonesFrom 23 = .ok (.iload_n 2, 1) := by decide +kernel
theorem d_S_tryZonesFrom_24 : decode b_S_tryZonesFrom 24 = .ok (.aload_n 0, 1) := by decide +kernel
theorem d_S_tryZonesFrom_25 : decode b_S_tryZonesFrom 25 = .ok (.getfield 56, 3) := by decide +kernel
theorem d_S_tryZonesFrom_28 : decode b_S_tryZonesFrom 28 = .ok (.invokestatic 45, 3) := by decide +kernel
theorem d_S_tryZonesFrom_31 : decode b_S_tryZonesFrom 31 = .ok (.invokevirtual 64, 3) := by decide +kernel
theorem d_S_tryZonesFrom_34 : decode b_S_tryZonesFrom 34 = .ok (.invokevirtual 67, 3) := by decide +kernel
theorem d_S_tryZonesFrom_37 : decode b_S_tryZonesFrom 37 = .ok (.return_, 1) := by decide +kernel
theorem d_S_tryZonesFrom_38 : decode b_S_tryZonesFrom 38 = .ok (.aload_n 0, 1) := by decide +kernel
theorem d_S_tryZonesFrom_39 : decode b_S_tryZonesFrom 39 = .ok (.getfield 57, 3) := by decide +kernel
theorem d_S_tryZonesFrom_42 : decode b_S_tryZonesFrom 42 = .ok (.iconst 1, 1) := by decide +kernel
theorem d_S_tryZonesFrom_43 : decode b_S_tryZonesFrom 43 = .ok (.isub, 1) := by decide +kernel
theorem d_S_tryZonesFrom_44 : decode b_S_tryZonesFrom 44 = .ok (.iload_n 1, 1) := by decide +kernel
theorem d_S_tryZonesFrom_45 : decode b_S_tryZonesFrom 45 = .ok (.isub, 1) := by decide +kernel
theorem d_S_tryZonesFrom_46 : decode b_S_tryZonesFrom 46 = .ok (.istore 4, 2) := by decide +kernel
theorem d_S_tryZonesFrom_48 : decode b_S_tryZonesFrom 48 = .ok (.iload_n 2, 1) := by decide +kernel
theorem d_S_tryZonesFrom_49 : decode b_S_tryZonesFrom 49 = .ok (.istore 5, 2) := by decide +kernel
theorem d_S_tryZonesFrom_51 : decode b_S_tryZonesFrom 51 = .ok (.iload 5, 2) := by decide +kernel
theorem d_S_tryZonesFrom_53 : decode b_S_tryZonesFrom 53 = .ok (.aload_n 0, 1) := by decide +kernel
theorem d_S_tryZonesFrom_54 : decode b_S_tryZonesFrom 54 = .ok (.getfield 56, 3) := by decide +kernel
theorem d_S_tryZonesFrom_57 : decode b_S_tryZonesFrom 57 = .ok (.iload 4, 2) := by decide +kernel
theorem d_S_tryZonesFrom_59 : decode b_S_tryZonesFrom 59 = .ok (.isub, 1) := by decide +kernel
theorem d_S_tryZonesFrom_60 : decode b_S_tryZonesFrom 60 = .ok (.if_icmp .gt 39, 3) := by decide +kernel
theorem d_S_tryZonesFrom_63 : decode b_S_tryZonesFrom 63 = .ok (.aload_n 0, 1) := by decide +kernel
theorem d_S_tryZonesFrom_64 : decode b_S_tryZonesFrom 64 = .ok (.getfield 18, 3) := by decide +kernel
theorem d_S_tryZonesFrom_67 : decode b_S_tryZonesFrom 67 = .ok (.iload_n 1, 1) := by decide +kernel
theorem d_S_tryZonesFrom_68 : decode b_S_tryZonesFrom 68 = .ok (.iload 5, 2) := by decide +kernel
theorem d_S_tryZonesFrom_70 : decode b_S_tryZonesFrom 70 = .ok (.iastore, 1) := by decide +kernel
theorem d_S_tryZonesFrom_71 : decode b_S_tryZonesFrom 71 = .ok (.aload_n 0, 1) := by decide +kernel
theorem d_S_tryZonesFrom_72 : decode b_S_tryZonesFrom 72 = .ok (.iload_n 1, 1) := by decide +kernel
theorem d_S_tryZonesFrom_73 : decode b_S_tryZonesFrom 73 = .ok (.iconst 1, 1) := by decide +kernel
theorem d_S_tryZonesFrom_74 : decode b_S_tryZonesFrom 74 = .ok (.iadd, 1) := by decide +kernel
theorem d_S_tryZonesFrom_75 : decode b_S_tryZonesFrom 75 = .ok (.iload 5, 2) := by decide +kernel
theorem d_S_tryZonesFrom_77 : decode b_S_tryZonesFrom 77 = .ok (.iconst 1, 1) := by decide +kernel
theorem d_S_tryZonesFrom_78 : decode b_S_tryZonesFrom 78 = .ok (.iadd, 1) := by decide +kernel
theorem d_S_tryZonesFrom_79 : decode b_S_tryZonesFrom 79 = .ok (.aload_n 0, 1) := by decide +kernel
theorem d_S_tryZonesFrom_80 : decode b_S_tryZonesFrom 80 = .ok (.iload_n 3, 1) := by decide +kernel
theorem d_S_tryZonesFrom_81 : decode b_S_tryZonesFrom 81 = .ok (.iload_n 2, 1) := by decide +kernel
theorem d_S_tryZonesFrom_82 : decode b_S_tryZonesFrom 82 = .ok (.iload 5, 2) := by decide +kernel
theorem d_S_tryZonesFrom_84 : decode b_S_tryZonesFrom 84 = .ok (.invokestatic 45, 3) := by decide +kernel
theorem d_S_tryZonesFrom_87 : decode b_S_tryZonesFrom 87 = .ok (.invokevirtual 64, 3) := by decide +kernel
theorem d_S_tryZonesFrom_90 : decode b_S_tryZonesFrom 90 = .ok (.invokevirtual 60, 3) := by decide +kernel
theorem d_S_tryZonesFrom_93 : decode b_S_tryZonesFrom 93 = .ok (.iinc 5 1, 3) := by decide +kernel
theorem d_S_tryZonesFrom_96 : decode b_S_tryZonesFrom 96 = .ok (.goto (-45), 3) := by decide +kernel
theorem d_S_tryZonesFrom_99 : decode b_S_tryZonesFrom 99 = .ok (.return_, 1) := by decide +kernel
theorem d_S_keepIfBetter_0 : decode b_S_keepIfBetter 0 = .ok (.aload_n 0, 1) := by decide +kernel
theorem d_S_keepIfBetter_1 : decode b_S_keepIfBetter 1 = .ok (.getfield 25, 3) := by decide +kernel
theorem d_S_keepIfBetter_4 : decode b_S_keepIfBetter 4 = .ok (.ifCond .eq 15, 3) := by decide +kernel
theorem d_S_keepIfBetter_7 : decode b_S_keepIfBetter 7 = .ok (.aload_n 0, 1) := by decide +kernel
theorem d_S_keepIfBetter_8 : decode b_S_keepIfBetter 8 = .ok (.iload_n 1, 1) := by decide +kernel
theorem d_S_keepIfBetter_9 : decode b_S_keepIfBetter 9 = .ok (.aload_n 0, 1) := by decide +kernel
theorem d_S_keepIfBetter_10 : decode b_S_keepIfBetter 10 = .ok (.getfield 25, 3) := by decide +kernel
theorem d_S_keepIfBetter_13 : decode b_S_keepIfBetter 13 = .ok (.invokevirtual 71, 3) := by decide +kernel
theorem d_S_keepIfBetter_16 : decode b_S_keepIfBetter 16 = .ok (.ifCond .ge 25, 3) := by decide +kernel
theorem d_S_keepIfBetter_19 : decode b_S_keepIfBetter 19 = .ok (.aload_n 0, 1) := by decide +kernel
theorem d_S_keepIfBetter_20 : decode b_S_keepIfBetter 20 = .ok (.iload_n 1, 1) := by decide +kernel
theorem d_S_keepIfBetter_21 : decode b_S_keepIfBetter 21 = .ok (.putfield 25, 3) := by decide +kernel
theorem d_S_keepIfBetter_24 : decode b_S_keepIfBetter 24 = .ok (.aload_n 0, 1) := by decide +kernel
theorem d_S_keepIfBetter_25 : decode b_S_keepIfBetter 25 = .ok (.getfield 18, 3) := by decide +kernel
theorem d_S_keepIfBetter_28 : decode b_S_keepIfBetter 28 = .ok (.iconst 0, 1) := by decide +kernel
theorem d_S_keepIfBetter_29 : decode b_S_keepIfBetter 29 = .ok (.aload_n 0, 1) := by decide +kernel
theorem d_S_keepIfBetter_30 : decode b_S_keepIfBetter 30 = .ok (.getfield 22, 3) := by decide +kernel
theorem d_S_keepIfBetter_33 : decode b_S_keepIfBetter 33 = .ok (.iconst 0, 1) := by decide +kernel
theorem d_S_keepIfBetter_34 : decode b_S_keepIfBetter 34 = .ok (.aload_n 0, 1) := by decide +kernel
theorem d_S_keepIfBetter_35 : decode b_S_keepIfBetter 35 = .ok (.getfield 57, 3) := by decide +kernel
theorem d_S_keepIfBetter_38 : decode b_S_keepIfBetter 38 = .ok (.invokestatic 74, 3) := by decide +kernel
theorem d_S_keepIfBetter_41 : decode b_S_keepIfBetter 41 = .ok (.return_, 1) := by decide +kernel
theorem d_S_longer_0 : decode b_S_longer 0 = .ok (.aload_n 0, 1) := by decide +kernel
theorem d_S_longer_1 : decode b_S_longer 1 = .ok (.iload_n 1, 1) := by decide +kernel
theorem d_S_longer_2 : decode b_S_longer 2 = .ok (.iload_n 2, 1) := by decide +kernel
theorem d_S_longer_3 : decode b_S_longer 3 = .ok (.invokevirtual 71, 3) := by decide +kernel
theorem d_S_longer_6 : decode b_S_longer 6 = .ok (.ifCond .le 7, 3) := by decide +kernel
theorem d_S_longer_9 : decode b_S_longer 9 = .ok (.iload_n 1, 1) := by decide +kernel
theorem d_S_longer_10 : decode b_S_longer 10 = .ok (.goto 4, 3) := by decide +kernel
theorem d_S_longer_13 : decode b_S_longer 13 = .ok (.iload_n 2, 1) := by decide +kernel
theorem d_S_longer_14 : decode b_S_longer 14 = .ok (.ireturn, 1) := by decide +kernel
theorem d_S_order_0 : decode b_S_order 0 = .ok (.aload_n 0, 1) := by decide +kernel
theorem d_S_order_1 : decode b_S_order 1 = .ok (.getfield 11, 3) := by decide +kernel
theorem d_S_order_4 : decode b_S_order 4 = .ok (.iload_n 1, 1) := by decide +kernel
theorem d_S_order_5 : decode b_S_order 5 = .ok (.laload, 1) := by decide +kernel
theorem d_S_order_6 : decode b_S_order 6 = .ok (.aload_n 0, 1) := by decide +kernel
theorem d_S_order_7 : decode b_S_order 7 = .ok (.getfield 15, 3) := by decide +kernel
theorem d_S_order_10 : decode b_S_order 10 = .ok (.iload_n 1, 1) := by decide +kernel
theorem d_S_order_11 : decode b_S_order 11 = .ok (.laload, 1) := by decide +kernel
theorem d_S_order_12 : decode b_S_order 12 = .ok (.aload_n 0, 1) := by decide +kernel
theorem d_S_order_13 : decode b_S_order 13 = .ok (.getfield 11, 3) := by decide +kernel
theorem d_S_order_16 : decode b_S_order 16 = .ok (.iload_n 2, 1) := by decide +kernel
theorem d_S_order_17 : decode b_S_order 17 = .ok (.laload, 1) := by decide +kernel
theorem d_S_order_18 : decode b_S_order 18 = .ok (.aload_n 0, 1) := by decide +kernel
theorem d_S_order_19 : decode b_S_order 19 = .ok (.getfield 15, 3) := by decide +kernel
theorem d_S_order_22 : decode b_S_order 22 = .ok (.iload_n 2, 1) := by decide +kernel
theorem d_S_order_23 : decode b_S_order 23 = .ok (.laload, 1) := by decide +kernel
theorem d_S_order_24 : decode b_S_order 24 = .ok (.invokestatic 80, 3) := by decide +kernel
theorem d_S_order_27 : decode b_S_order 27 = .ok (.ireturn, 1) := by decide +kernel
theorem d_S_zone_0 : decode b_S_zone 0 = .ok (.iload_n 0, 1) := by decide +kernel
theorem d_S_zone_1 : decode b_S_zone 1 = .ok (.bipush 13, 2) := by decide +kernel
theorem d_S_zone_3 : decode b_S_zone 3 = .ok (.imul, 1) := by decide +kernel
theorem d_S_zone_4 : decode b_S_zone 4 = .ok (.iload_n 1, 1) := by decide +kernel
theorem d_S_zone_5 : decode b_S_zone 5 = .ok (.iadd, 1) := by decide +kernel
theorem d_S_zone_6 : decode b_S_zone 6 = .ok (.ireturn, 1) := by decide +kernel
theorem d_A_init_0 : decode b_A_init 0 = .ok (.aload_n 0, 1) := by decide +kernel
theorem d_A_init_1 : decode b_A_init 1 = .ok (.invokespecial 3, 3) := by decide +kernel
theorem d_A_init_4 : decode b_A_init 4 = .ok (.aload_n 0, 1) := by decide +kernel
theorem d_A_init_5 : decode b_A_init 5 = .ok (.bipush 13, 2) := by decide +kernel
theorem d_A_init_7 : decode b_A_init 7 = .ok (.newarray .int, 2) := by decide +kernel
theorem d_A_init_9 : decode b_A_init 9 = .ok (.putfield 9, 3) := by decide +kernel
theorem d_A_init_12 : decode b_A_init 12 = .ok (.return_, 1) := by decide +kernel
theorem d_A_begin_0 : decode b_A_begin 0 = .ok (.aload_n 1, 1) := by decide +kernel
theorem d_A_begin_1 : decode b_A_begin 1 = .ok (.getfield 15, 3) := by decide +kernel
theorem d_A_begin_4 : decode b_A_begin 4 = .ok (.iconst 0, 1) := by decide +kernel
theorem d_A_begin_5 : decode b_A_begin 5 = .ok (.aload_n 0, 1) := by decide +kernel
theorem d_A_begin_6 : decode b_A_begin 6 = .ok (.getfield 9, 3) := by decide +kernel
theorem d_A_begin_9 : decode b_A_begin 9 = .ok (.iconst 0, 1) := by decide +kernel
theorem d_A_begin_10 : decode b_A_begin 10 = .ok (.bipush 13, 2) := by decide +kernel
theorem d_A_begin_12 : decode b_A_begin 12 = .ok (.invokestatic 20, 3) := by decide +kernel
theorem d_A_begin_15 : decode b_A_begin 15 = .ok (.aload_n 0, 1) := by decide +kernel
theorem d_A_begin_16 : decode b_A_begin 16 = .ok (.aload_n 1, 1) := by decide +kernel
theorem d_A_begin_17 : decode b_A_begin 17 = .ok (.getfield 26, 3) := by decide +kernel
theorem d_A_begin_20 : decode b_A_begin 20 = .ok (.putfield 30, 3) := by decide +kernel
theorem d_A_begin_23 : decode b_A_begin 23 = .ok (.return_, 1) := by decide +kernel
theorem d_A_oneSecond_0 : decode b_A_oneSecond 0 = .ok (.aload_n 0, 1) := by decide +kernel
theorem d_A_oneSecond_1 : decode b_A_oneSecond 1 = .ok (.getfield 9, 3) := by decide +kernel
theorem d_A_oneSecond_4 : decode b_A_oneSecond 4 = .ok (.iconst 0, 1) := by decide +kernel
theorem d_A_oneSecond_5 : decode b_A_oneSecond 5 = .ok (.iaload, 1) := by decide +kernel
theorem d_A_oneSecond_6 : decode b_A_oneSecond 6 = .ok (.istore_n 3, 1) := by decide +kernel
theorem d_A_oneSecond_7 : decode b_A_oneSecond 7 = .ok (.iconst 1, 1) := by decide +kernel
theorem d_A_oneSecond_8 : decode b_A_oneSecond 8 = .ok (.istore 4, 2) := by decide +kernel
theorem d_A_oneSecond_10 : decode b_A_oneSecond 10 = .ok (.iload 4, 2) := by decide +kernel
theorem d_A_oneSecond_12 : decode b_A_oneSecond 12 = .ok (.iload_n 1, 1) := by decide +kernel
theorem d_A_oneSecond_13 : decode b_A_oneSecond 13 = .ok (.if_icmp .gt 48, 3) := by decide +kernel
theorem d_A_oneSecond_16 : decode b_A_oneSecond 16 = .ok (.aload_n 0, 1) := by decide +kernel
theorem d_A_oneSecond_17 : decode b_A_oneSecond 17 = .ok (.getfield 9, 3) := by decide +kernel
theorem d_A_oneSecond_20 : decode b_A_oneSecond 20 = .ok (.iload 4, 2) := by decide +kernel
theorem d_A_oneSecond_22 : decode b_A_oneSecond 22 = .ok (.iaload, 1) := by decide +kernel
theorem d_A_oneSecond_23 : decode b_A_oneSecond 23 = .ok (.iload_n 2, 1) := by decide +kernel
theorem d_A_oneSecond_24 : decode b_A_oneSecond 24 = .ok (.invokestatic 33, 3) := by decide +kernel
theorem d_A_oneSecond_27 : decode b_A_oneSecond 27 = .ok (.istore 5, 2) := by decide +kernel
theorem d_A_oneSecond_29 : decode b_A_oneSecond 29 = .ok (.aload_n 0, 1) := by decide +kernel
theorem d_A_oneSecond_30 : decode b_A_oneSecond 30 = .ok (.getfield 9, 3) := by decide +kernel
theorem d_A_oneSecond_33 : decode b_A_oneSecond 33 = .ok (.iload 4, 2) := by decide +kernel
theorem d_A_oneSecond_35 : decode b_A_oneSecond 35 = .ok (.dup2, 1) := by decide +kernel
theorem d_A_oneSecond_36 : decode b_A_oneSecond 36 = .ok (.iaload, 1) := by decide +kernel
theorem d_A_oneSecond_37 : decode b_A_oneSecond 37 = .ok (.iload 5, 2) := by decide +kernel
theorem d_A_oneSecond_39 : decode b_A_oneSecond 39 = .ok (.isub, 1) := by decide +kernel
theorem d_A_oneSecond_40 : decode b_A_oneSecond 40 = .ok (.iastore, 1) := by decide +kernel
theorem d_A_oneSecond_41 : decode b_A_oneSecond 41 = .ok (.aload_n 0, 1) := by decide +kernel
theorem d_A_oneSecond_42 : decode b_A_oneSecond 42 = .ok (.getfield 9, 3) := by decide +kernel
theorem d_A_oneSecond_45 : decode b_A_oneSecond 45 = .ok (.iload 4, 2) := by decide +kernel
theorem d_A_oneSecond_47 : decode b_A_oneSecond 47 = .ok (.iconst 1, 1) := by decide +kernel
theorem d_A_oneSecond_48 : decode b_A_oneSecond 48 = .ok (.isub, 1) := by decide +kernel
theorem d_A_oneSecond_49 : decode b_A_oneSecond 49 = .ok (.dup2, 1) := by decide +kernel
theorem d_A_oneSecond_50 : decode b_A_oneSecond 50 = .ok (.iaload, 1) := by decide +kernel
theorem d_A_oneSecond_51 : decode b_A_oneSecond 51 = .ok (.iload 5, 2) := by decide +kernel
theorem d_A_oneSecond_53 : decode b_A_oneSecond 53 = .ok (.iadd, 1) := by decide +kernel
theorem d_A_oneSecond_54 : decode b_A_oneSecond 54 = .ok (.iastore, 1) := by decide +kernel
theorem d_A_oneSecond_55 : decode b_A_oneSecond 55 = .ok (.iinc 4 1, 3) := by decide +kernel
theorem d_A_oneSecond_58 : decode b_A_oneSecond 58 = .ok (.goto (-48), 3) := by decide +kernel
theorem d_A_oneSecond_61 : decode b_A_oneSecond 61 = .ok (.aload_n 0, 1) := by decide +kernel
theorem d_A_oneSecond_62 : decode b_A_oneSecond 62 = .ok (.dup, 1) := by decide +kernel
theorem d_A_oneSecond_63 : decode b_A_oneSecond 63 = .ok (.getfield 30, 3) := by decide +kernel
theorem d_A_oneSecond_66 : decode b_A_oneSecond 66 = .ok (.aload_n 0, 1) := by decide +kernel
theorem d_A_oneSecond_67 : decode b_A_oneSecond 67 = .ok (.getfield 9, 3) := by decide +kernel
theorem d_A_oneSecond_70 : decode b_A_oneSecond 70 = .ok (.iconst 0, 1) := by decide +kernel
theorem d_A_oneSecond_71 : decode b_A_oneSecond 71 = .ok (.iaload, 1) := by decide +kernel
theorem d_A_oneSecond_72 : decode b_A_oneSecond 72 = .ok (.iload_n 3, 1) := by decide +kernel
theorem d_A_oneSecond_73 : decode b_A_oneSecond 73 = .ok (.isub, 1) := by decide +kernel
theorem d_A_oneSecond_74 : decode b_A_oneSecond 74 = .ok (.isub, 1) := by decide +kernel
theorem d_A_oneSecond_75 : decode b_A_oneSecond 75 = .ok (.putfield 30, 3) := by decide +kernel
theorem d_A_oneSecond_78 : decode b_A_oneSecond 78 = .ok (.return_, 1) := by decide +kernel
end
section
theorem d_M_init_0 : decode b_M_init 0 = .ok (.aload_n 0, 1) := by decide +kernel
theorem d_M_init_1 : decode b_M_init 1 = .ok (.invokespecial 1, 3) := by decide +kernel
theorem d_M_init_4 : decode b_M_init 4 = .ok (.aload_n 0, 1) := by decide +kernel
theorem d_M_init_5 : decode b_M_init 5 = .ok (.bipush 13, 2) := by decide +kernel
theorem d_M_init_7 : decode b_M_init 7 = .ok (.newarray .int, 2) := by decide +kernel
theorem d_M_init_9 : decode b_M_init 9 = .ok (.putfield 7, 3) := by decide +kernel
theorem d_M_init_12 : decode b_M_init 12 = .ok (.aload_n 0, 1) := by decide +kernel
theorem d_M_init_13 : decode b_M_init 13 = .ok (.bipush 13, 2) := by decide +kernel
theorem d_M_init_15 : decode b_M_init 15 = .ok (.newarray .int, 2) := by decide +kernel
theorem d_M_init_17 : decode b_M_init 17 = .ok (.putfield 13, 3) := by decide +kernel
theorem d_M_init_20 : decode b_M_init 20 = .ok (.aload_n 0, 1) := by decide +kernel
theorem d_M_init_21 : decode b_M_init 21 = .ok (.bipush 6, 2) := by decide +kernel
theorem d_M_init_23 : decode b_M_init 23 = .ok (.newarray .int, 2) := by decide +kernel
theorem d_M_init_25 : decode b_M_init 25 = .ok (.putfield 16, 3) := by decide +kernel
theorem d_M_init_28 : decode b_M_init 28 = .ok (.aload_n 0, 1) := by decide +kernel
theorem d_M_init_29 : decode b_M_init 29 = .ok (.bipush 6, 2) := by decide +kernel
theorem d_M_init_31 : decode b_M_init 31 = .ok (.newarray .int, 2) := by decide +kernel
theorem d_M_init_33 : decode b_M_init 33 = .ok (.putfield 19, 3) := by decide +kernel
theorem d_M_init_36 : decode b_M_init 36 = .ok (.aload_n 0, 1) := by decide +kernel
theorem d_M_init_37 : decode b_M_init 37 = .ok (.bipush 6, 2) := by decide +kernel
theorem d_M_init_39 : decode b_M_init 39 = .ok (.newarray .int, 2) := by decide +kernel
theorem d_M_init_41 : decode b_M_init 41 = .ok (.putfield 22, 3) := by decide +kernel
theorem d_M_init_44 : decode b_M_init 44 = .ok (.aload_n 0, 1) := by decide +kernel
theorem d_M_init_45 : decode b_M_init 45 = .ok (.bipush 6, 2) := by decide +kernel
theorem d_M_init_47 : decode b_M_init 47 = .ok (.newarray .int, 2) := by decide +kernel
theorem d_M_init_49 : decode b_M_init 49 = .ok (.putfield 25, 3) := by decide +kernel
theorem d_M_init_52 : decode b_M_init 52 = .ok (.aload_n 0, 1) := by decide +kernel
theorem d_M_init_53 : decode b_M_init 53 = .ok (.bipush 6, 2) := by decide +kernel
theorem d_M_init_55 : decode b_M_init 55 = .ok (.newarray .int, 2) := by decide +kernel
theorem d_M_init_57 : decode b_M_init 57 = .ok (.putfield 28, 3) := by decide +kernel
theorem d_M_init_60 : decode b_M_init 60 = .ok (.aload_n 0, 1) := by decide +kernel
theorem d_M_init_61 : decode b_M_init 61 = .ok (.sipush 169, 3) := by decide +kernel
theorem d_M_init_64 : decode b_M_init 64 = .ok (.newarray .long, 2) := by decide +kernel
theorem d_M_init_66 : decode b_M_init 66 = .ok (.putfield 31, 3) := by decide +kernel
theorem d_M_init_69 : decode b_M_init 69 = .ok (.aload_n 0, 1) := by decide +kernel
theorem d_M_init_70 : decode b_M_init 70 = .ok (.sipush 169, 3) := by decide +kernel
theorem d_M_init_73 : decode b_M_init 73 = .ok (.newarray .long, 2) := by decide +kernel
theorem d_M_init_75 : decode b_M_init 75 = .ok (.putfield 35, 3) := by decide +kernel
theorem d_M_init_78 : decode b_M_init 78 = .ok (.aload_n 0, 1) := by decide +kernel
theorem d_M_init_79 : decode b_M_init 79 = .ok (.iconst 4, 1) := by decide +kernel
theorem d_M_init_80 : decode b_M_init 80 = .ok (.newarray .int, 2) := by decide +kernel
theorem d_M_init_82 : decode b_M_init 82 = .ok (.putfield 38, 3) := by decide +kernel
theorem d_M_init_85 : decode b_M_init 85 = .ok (.aload_n 0, 1) := by decide +kernel
theorem d_M_init_86 : decode b_M_init 86 = .ok (.iconst 4, 1) := by decide +kernel
theorem d_M_init_87 : decode b_M_init 87 = .ok (.newarray .int, 2) := by decide +kernel
theorem d_M_init_89 : decode b_M_init 89 = .ok (.putfield 41, 3) := by decide +kernel
theorem d_M_init_92 : decode b_M_init 92 = .ok (.aload_n 0, 1) := by decide +kernel
theorem d_M_init_93 : decode b_M_init 93 = .ok (.bipush 13, 2) := by decide +kernel
theorem d_M_init_95 : decode b_M_init 95 = .ok (.newarray .int, 2) := by decide +kernel
theorem d_M_init_97 : decode b_M_init 97 = .ok (.putfield 44, 3) := by decide +kernel
theorem d_M_init_100 : decode b_M_init 100 = .ok (.return_, 1) := by decide +kernel
theorem d_M_thrown_0 : decode b_M_thrown 0 = .ok (.aload_n 0, 1) := by decide +kernel
theorem d_M_thrown_1 : decode b_M_thrown 1 = .ok (.getfield 47, 3) := by decide +kernel
theorem d_M_thrown_4 : decode b_M_thrown 4 = .ok (.ireturn, 1) := by decide +kernel
theorem d_M_isIn_0 : decode b_M_isIn 0 = .ok (.iload_n 0, 1) := by decide +kernel
theorem d_M_isIn_1 : decode b_M_isIn 1 = .ok (.iload_n 1, 1) := by decide +kernel
theorem d_M_isIn_2 : decode b_M_isIn 2 = .ok (.if_icmp .lt 12, 3) := by decide +kernel
theorem d_M_isIn_5 : decode b_M_isIn 5 = .ok (.iload_n 0, 1) := by decide +kernel
theorem d_M_isIn_6 : decode b_M_isIn 6 = .ok (.iload_n 2, 1) := by decide +kernel
theorem d_M_isIn_7 : decode b_M_isIn 7 = .ok (.if_icmp .gt 7, 3) := by decide +kernel
theorem d_M_isIn_10 : decode b_M_isIn 10 = .ok (.iconst 1, 1) := by decide +kernel
theorem d_M_isIn_11 : decode b_M_isIn 11 = .ok (.goto 4, 3) := by decide +kernel
theorem d_M_isIn_14 : decode b_M_isIn 14 = .ok (.iconst 0, 1) := by decide +kernel
theorem d_M_isIn_15 : decode b_M_isIn 15 = .ok (.ireturn, 1) := by decide +kernel
theorem d_M_allPersons_0 : decode b_M_allPersons 0 = .ok (.iconst 0, 1) := by decide +kernel
theorem d_M_allPersons_1 : decode b_M_allPersons 1 = .ok (.istore_n 1, 1) := by decide +kernel
theorem d_M_allPersons_2 : decode b_M_allPersons 2 = .ok (.iconst 1, 1) := by decide +kernel
theorem d_M_allPersons_3 : decode b_M_allPersons 3 = .ok (.istore_n 2, 1) := by decide +kernel
theorem d_M_allPersons_4 : decode b_M_allPersons 4 = .ok (.iload_n 2, 1) := by decide +kernel
theorem d_M_allPersons_5 : decode b_M_allPersons 5 = .ok (.aload_n 0, 1) := by decide +kernel
theorem d_M_allPersons_6 : decode b_M_allPersons 6 = .ok (.getfield 51, 3) := by decide +kernel
theorem d_M_allPersons_9 : decode b_M_allPersons 9 = .ok (.if_icmp .gt 18, 3) := by decide +kernel
theorem d_M_allPersons_12 : decode b_M_allPersons 12 = .ok (.iload_n 1, 1) := by decide +kernel
theorem d_M_allPersons_13 : decode b_M_allPersons 13 = .ok (.aload_n 0, 1) := by decide +kernel
theorem d_M_allPersons_14 : decode b_M_allPersons 14 = .ok (.getfield 7, 3) := by decide +kernel
theorem d_M_allPersons_17 : decode b_M_allPersons 17 = .ok (.iload_n 2, 1) := by decide +kernel
theorem d_M_allPersons_18 : decode b_M_allPersons 18 = .ok (.iaload, 1) := by decide +kernel
theorem d_M_allPersons_19 : decode b_M_allPersons 19 = .ok (.iadd, 1) := by decide +kernel
theorem d_M_allPersons_20 : decode b_M_allPersons 20 = .ok (.istore_n 1, 1) := by decide +kernel
theorem d_M_allPersons_21 : decode b_M_allPersons 21 = .ok (.iinc 2 1, 3) := by decide +kernel
theorem d_M_allPersons_24 : decode b_M_allPersons 24 = .ok (.goto (-20), 3) := by decide +kernel
theorem d_M_allPersons_27 : decode b_M_allPersons 27 = .ok (.iload_n 1, 1) := by decide +kernel
theorem d_M_allPersons_28 : decode b_M_allPersons 28 = .ok (.ireturn, 1) := by decide +kernel
theorem d_M_floor_0 : decode b_M_floor 0 = .ok (.aload_n 0, 1) := by decide +kernel
theorem d_M_floor_1 : decode b_M_floor 1 = .ok (.iload_n 1, 1) := by decide +kernel
theorem d_M_floor_2 : decode b_M_floor 2 = .ok (.iconst 0, 1) := by decide +kernel
theorem d_M_floor_3 : decode b_M_floor 3 = .ok (.sipush 200, 3) := by decide +kernel
theorem d_M_floor_6 : decode b_M_floor 6 = .ok (.invokestatic 54, 3) := by decide +kernel
theorem d_M_floor_9 : decode b_M_floor 9 = .ok (.ifCond .eq 14, 3) := by decide +kernel
theorem d_M_floor_12 : decode b_M_floor 12 = .ok (.iload_n 2, 1) := by decide +kernel
theorem d_M_floor_13 : decode b_M_floor 13 = .ok (.bipush 10, 2) := by decide +kernel
theorem d_M_floor_15 : decode b_M_floor 15 = .ok (.bipush 100, 2) := by decide +kernel
theorem d_M_floor_17 : decode b_M_floor 17 = .ok (.invokestatic 54, 3) := by decide +kernel
theorem d_M_floor_20 : decode b_M_floor 20 = .ok (.ifCond .ne 7, 3) := by decide +kernel
theorem d_M_floor_23 : decode b_M_floor 23 = .ok (.iconst 1, 1) := by decide +kernel
theorem d_M_floor_24 : decode b_M_floor 24 = .ok (.goto 29, 3) := by decide +kernel
theorem d_M_floor_27 : decode b_M_floor 27 = .ok (.aload_n 0, 1) := by decide +kernel
theorem d_M_floor_28 : decode b_M_floor 28 = .ok (.getfield 51, 3) := by decide +kernel
theorem d_M_floor_31 : decode b_M_floor 31 = .ok (.bipush 12, 2) := by decide +kernel
theorem d_M_floor_33 : decode b_M_floor 33 = .ok (.if_icmp .eq 15, 3) := by decide +kernel
theorem d_M_floor_36 : decode b_M_floor 36 = .ok (.aload_n 0, 1) := by decide +kernel
theorem d_M_floor_37 : decode b_M_floor 37 = .ok (.invokevirtual 58, 3) := by decide +kernel
theorem d_M_floor_40 : decode b_M_floor 40 = .ok (.iload_n 1, 1) := by decide +kernel
theorem d_M_floor_41 : decode b_M_floor 41 = .ok (.iadd, 1) := by decide +kernel
theorem d_M_floor_42 : decode b_M_floor 42 = .ok (.sipush 200, 3) := by decide +kernel
theorem d_M_floor_45 : decode b_M_floor 45 = .ok (.if_icmp .le 7, 3) := by decide +kernel
theorem d_M_floor_48 : decode b_M_floor 48 = .ok (.iconst 2, 1) := by decide +kernel
theorem d_M_floor_49 : decode b_M_floor 49 = .ok (.goto 4, 3) := by decide +kernel
theorem d_M_floor_52 : decode b_M_floor 52 = .ok (.iconst 0, 1) := by decide +kernel
theorem d_M_floor_53 : decode b_M_floor 53 = .ok (.putfield 47, 3) := by decide +kernel
theorem d_M_floor_56 : decode b_M_floor 56 = .ok (.aload_n 0, 1) := by decide +kernel
theorem d_M_floor_57 : decode b_M_floor 57 = .ok (.getfield 47, 3) := by decide +kernel
theorem d_M_floor_60 : decode b_M_floor 60 = .ok (.ifCond .le 5, 3) := by decide +kernel
theorem d_M_floor_63 : decode b_M_floor 63 = .ok (.iconst 0, 1) := by decide +kernel
theorem d_M_floor_64 : decode b_M_floor 64 = .ok (.ireturn, 1) := by decide +kernel
theorem d_M_floor_65 : decode b_M_floor 65 = .ok (.aload_n 0, 1) := by decide +kernel
theorem d_M_floor_66 : decode b_M_floor 66 = .ok (.dup, 1) := by decide +kernel
theorem d_M_floor_67 : decode b_M_floor 67 = .ok (.getfield 51, 3) := by decide +kernel
theorem d_M_floor_70 : decode b_M_floor 70 = .ok (.iconst 1, 1) := by decide +kernel
theorem d_M_floor_71 : decode b_M_floor 71 = .ok (.iadd, 1) := by decide +kernel
theorem d_M_floor_72 : decode b_M_floor 72 = .ok (.putfield 51, 3) := by decide +kernel
theorem d_M_floor_75 : decode b_M_floor 75 = .ok (.aload_n 0, 1) := by decide +kernel
theorem d_M_floor_76 : decode b_M_floor 76 = .ok (.getfield 7, 3) := by decide +kernel
theorem d_M_floor_79 : decode b_M_floor 79 = .ok (.aload_n 0, 1) := by decide +kernel
theorem d_M_floor_80 : decode b_M_floor 80 = .ok (.getfield 51, 3) := by decide +kernel
theorem d_M_floor_83 : decode b_M_floor 83 = .ok (.iload_n 1, 1) := by decide +kernel
theorem d_M_floor_84 : decode b_M_floor 84 = .ok (.iastore, 1) := by decide +kernel
theorem d_M_floor_85 : decode b_M_floor 85 = .ok (.aload_n 0, 1) := by decide +kernel
theorem d_M_floor_86 : decode b_M_floor 86 = .ok (.getfield 13, 3) := by decide +kernel
theorem d_M_floor_89 : decode b_M_floor 89 = .ok (.aload_n 0, 1) := by decide +kernel
theorem d_M_floor_90 : decode b_M_floor 90 = .ok (.getfield 51, 3) := by decide +kernel
theorem d_M_floor_93 : decode b_M_floor 93 = .ok (.aload_n 0, 1) := by decide +kernel
theorem d_M_floor_94 : decode b_M_floor 94 = .ok (.getfield 13, 3) := by decide +kernel
theorem d_M_floor_97 : decode b_M_floor 97 = .ok (.aload_n 0, 1) := by decide +kernel
theorem d_M_floor_98 : decode b_M_floor 98 = .ok (.getfield 51, 3) := by decide +kernel
theorem d_M_floor_101 : decode b_M_floor 101 = .ok (.iconst 1, 1) := by decide +kernel
theorem d_M_floor_102 : decode b_M_floor 102 = .ok (.isub, 1) := by decide +kernel
theorem d_M_floor_103 : decode b_M_floor 103 = .ok (.iaload, 1) := by decide +kernel
theorem d_M_floor_104 : decode b_M_floor 104 = .ok (.iload_n 2, 1) := by decide +kernel
theorem d_M_floor_105 : decode b_M_floor 105 = .ok (.iadd, 1) := by decide +kernel
theorem d_M_floor_106 : decode b_M_floor 106 = .ok (.iastore, 1) := by decide +kernel
theorem d_M_floor_107 : decode b_M_floor 107 = .ok (.aload_n 0, 1) := by decide +kernel
theorem d_M_floor_108 : decode b_M_floor 108 = .ok (.getfield 51, 3) := by decide +kernel
theorem d_M_floor_111 : decode b_M_floor 111 = .ok (.ireturn, 1) := by decide +kernel
theorem d_M_noFloor_0 : decode b_M_noFloor 0 = .ok (.iload_n 1, 1) := by decide +kernel
theorem d_M_noFloor_1 : decode b_M_noFloor 1 = .ok (.iconst 1, 1) := by decide +kernel
theorem d_M_noFloor_2 : decode b_M_noFloor 2 = .ok (.aload_n 0, 1) := by decide +kernel
theorem d_M_noFloor_3 : decode b_M_noFloor 3 = .ok (.getfield 51, 3) := by decide +kernel
theorem d_M_noFloor_6 : decode b_M_noFloor 6 = .ok (.invokestatic 54, 3) := by decide +kernel
theorem d_M_noFloor_9 : decode b_M_noFloor 9 = .ok (.ifCond .ne 7, 3) := by decide +kernel
theorem d_M_noFloor_12 : decode b_M_noFloor 12 = .ok (.iconst 1, 1) := by decide +kernel
theorem d_M_noFloor_13 : decode b_M_noFloor 13 = .ok (.goto 4, 3) := by decide +kernel
theorem d_M_noFloor_16 : decode b_M_noFloor 16 = .ok (.iconst 0, 1) := by decide +kernel
theorem d_M_noFloor_17 : decode b_M_noFloor 17 = .ok (.ireturn, 1) := by decide +kernel
theorem d_M_persons_0 : decode b_M_persons 0 = .ok (.aload_n 0, 1) := by decide +kernel
theorem d_M_persons_1 : decode b_M_persons 1 = .ok (.aload_n 0, 1) := by decide +kernel
theorem d_M_persons_2 : decode b_M_persons 2 = .ok (.iload_n 1, 1) := by decide +kernel
theorem d_M_persons_3 : decode b_M_persons 3 = .ok (.invokevirtual 62, 3) := by decide +kernel
theorem d_M_persons_6 : decode b_M_persons 6 = .ok (.ifCond .ne 14, 3) := by decide +kernel
theorem d_M_persons_9 : decode b_M_persons 9 = .ok (.iload_n 2, 1) := by decide +kernel
theorem d_M_persons_10 : decode b_M_persons 10 = .ok (.iconst 0, 1) := by decide +kernel
theorem d_M_persons_11 : decode b_M_persons 11 = .ok (.sipush 200, 3) := by decide +kernel
theorem d_M_persons_14 : decode b_M_persons 14 = .ok (.invokestatic 54, 3) := by decide +kernel
theorem d_M_persons_17 : decode b_M_persons 17 = .ok (.ifCond .ne 7, 3) := by decide +kernel
theorem d_M_persons_20 : decode b_M_persons 20 = .ok (.iconst 1, 1) := by decide +kernel
theorem d_M_persons_21 : decode b_M_persons 21 = .ok (.goto 27, 3) := by decide +kernel
theorem d_M_persons_24 : decode b_M_persons 24 = .ok (.aload_n 0, 1) := by decide +kernel
theorem d_M_persons_25 : decode b_M_persons 25 = .ok (.invokevirtual 58, 3) := by decide +kernel
theorem d_M_persons_28 : decode b_M_persons 28 = .ok (.aload_n 0, 1) := by decide +kernel
theorem d_M_persons_29 : decode b_M_persons 29 = .ok (.getfield 7, 3) := by decide +kernel
theorem d_M_persons_32 : decode b_M_persons 32 = .ok (.iload_n 1, 1) := by decide +kernel
theorem d_M_persons_33 : decode b_M_persons 33 = .ok (.iaload, 1) := by decide +kernel
theorem d_M_persons_34 : decode b_M_persons 34 = .ok (.isub, 1) := by decide +kernel
theorem d_M_persons_35 : decode b_M_persons 35 = .ok (.iload_n 2, 1) := by decide +kernel
theorem d_M_persons_36 : decode b_M_persons 36 = .ok (.iadd, 1) := by decide +kernel
theorem d_M_persons_37 : decode b_M_persons 37 = .ok (.sipush 200, 3) := by decide +kernel
theorem d_M_persons_40 : decode b_M_persons 40 = .ok (.if_icmp .le 7, 3) := by decide +kernel
theorem d_M_persons_43 : decode b_M_persons 43 = .ok (.iconst 2, 1) := by decide +kernel
theorem d_M_persons_44 : decode b_M_persons 44 = .ok (.goto 4, 3) := by decide +kernel
theorem d_M_persons_47 : decode b_M_persons 47 = .ok (.iconst 0, 1) := by decide +kernel
theorem d_M_persons_48 : decode b_M_persons 48 = .ok (.putfield 47, 3) := by decide +kernel
theorem d_M_persons_51 : decode b_M_persons 51 = .ok (.aload_n 0, 1) := by decide +kernel
theorem d_M_persons_52 : decode b_M_persons 52 = .ok (.getfield 47, 3) := by decide +kernel
theorem d_M_persons_55 : decode b_M_persons 55 = .ok (.ifCond .le 5, 3) := by decide +kernel
theorem d_M_persons_58 : decode b_M_persons 58 = .ok (.iconst 0, 1) := by decide +kernel
theorem d_M_persons_59 : decode b_M_persons 59 = .ok (.ireturn, 1) := by decide +kernel
theorem d_M_persons_60 : decode b_M_persons 60 = .ok (.aload_n 0, 1) := by decide +kernel
theorem d_M_persons_61 : decode b_M_persons 61 = .ok (.getfield 7, 3) := by decide +kernel
theorem d_M_persons_64 : decode b_M_persons 64 = .ok (.iload_n 1, 1) := by decide +kernel
theorem d_M_persons_65 : decode b_M_persons 65 = .ok (.iaload, 1) := by decide +kernel
theorem d_M_persons_66 : decode b_M_persons 66 = .ok (.istore_n 3, 1) := by decide +kernel
theorem d_M_persons_67 : decode b_M_persons 67 = .ok (.aload_n 0, 1) := by decide +kernel
theorem d_M_persons_68 : decode b_M_persons 68 = .ok (.getfield 7, 3) := by decide +kernel
theorem d_M_persons_71 : decode b_M_persons 71 = .ok (.iload_n 1, 1) := by decide +kernel
theorem d_M_persons_72 : decode b_M_persons 72 = .ok (.iload_n 2, 1) := by decide +kernel
theorem d_M_persons_73 : decode b_M_persons 73 = .ok (.iastore, 1) := by decide +kernel
theorem d_M_persons_74 : decode b_M_persons 74 = .ok (.iload_n 3, 1) := by decide +kernel
theorem d_M_persons_75 : decode b_M_persons 75 = .ok (.ireturn, 1) := by decide +kernel
theorem d_M_type_0 : decode b_M_type 0 = .ok (.iload_n 1, 1) := by decide +kernel
theorem d_M_type_1 : decode b_M_type 1 = .ok (.iconst 1, 1) := by decide +kernel
theorem d_M_type_2 : decode b_M_type 2 = .ok (.iconst 5, 1) := by decide +kernel
theorem d_M_type_3 : decode b_M_type 3 = .ok (.invokestatic 54, 3) := by decide +kernel
theorem d_M_type_6 : decode b_M_type 6 = .ok (.ifCond .eq 49, 3) := by decide +kernel
theorem d_M_type_9 : decode b_M_type 9 = .ok (.iload_n 2, 1) := by decide +kernel
theorem d_M_type_10 : decode b_M_type 10 = .ok (.iconst 1, 1) := by decide +kernel
theorem d_M_type_11 : decode b_M_type 11 = .ok (.bipush 100, 2) := by decide +kernel
theorem d_M_type_13 : decode b_M_type 13 = .ok (.invokestatic 54, 3) := by decide +kernel
theorem d_M_type_16 : decode b_M_type 16 = .ok (.ifCond .eq 39, 3) := by decide +kernel
theorem d_M_type_19 : decode b_M_type 19 = .ok (.iload_n 3, 1) := by decide +kernel
theorem d_M_type_20 : decode b_M_type 20 = .ok (.iconst 0, 1) := by decide +kernel
theorem d_M_type_21 : decode b_M_type 21 = .ok (.bipush 30, 2) := by decide +kernel
theorem d_M_type_23 : decode b_M_type 23 = .ok (.invokestatic 54, 3) := by decide +kernel
theorem d_M_type_26 : decode b_M_type 26 = .ok (.ifCond .eq 29, 3) := by decide +kernel
theorem d_M_type_29 : decode b_M_type 29 = .ok (.iload 4, 2) := by decide +kernel
theorem d_M_type_31 : decode b_M_type 31 = .ok (.iconst 0, 1) := by decide +kernel
theorem d_M_type_32 : decode b_M_type 32 = .ok (.bipush 10, 2) := by decide +kernel
theorem d_M_type_34 : decode b_M_type 34 = .ok (.invokestatic 54, 3) := by decide +kernel
theorem d_M_type_37 : decode b_M_type 37 = .ok (.ifCond .eq 18, 3) := by decide +kernel
theorem d_M_type_40 : decode b_M_type 40 = .ok (.iload 5, 2) := by decide +kernel
theorem d_M_type_42 : decode b_M_type 42 = .ok (.iconst 1, 1) := by decide +kernel
theorem d_M_type_43 : decode b_M_type 43 = .ok (.ldc 66, 2) := by decide +kernel
theorem d_M_type_45 : decode b_M_type 45 = .ok (.invokestatic 54, 3) := by decide +kernel
theorem d_M_type_48 : decode b_M_type 48 = .ok (.ifCond .eq 7, 3) := by decide +kernel
theorem d_M_type_51 : decode b_M_type 51 = .ok (.iconst 1, 1) := by decide +kernel
theorem d_M_type_52 : decode b_M_type 52 = .ok (.goto 4, 3) := by decide +kernel
theorem d_M_type_55 : decode b_M_type 55 = .ok (.iconst 0, 1) := by decide +kernel
theorem d_M_type_56 : decode b_M_type 56 = .ok (.istore 6, 2) := by decide +kernel
theorem d_M_type_58 : decode b_M_type 58 = .ok (.aload_n 0, 1) := by decide +kernel
theorem d_M_type_59 : decode b_M_type 59 = .ok (.iload 6, 2) := by decide +kernel
theorem d_M_type_61 : decode b_M_type 61 = .ok (.ifCond .ne 7, 3) := by decide +kernel
theorem d_M_type_64 : decode b_M_type 64 = .ok (.iconst 1, 1) := by decide +kernel
theorem d_M_type_65 : decode b_M_type 65 = .ok (.goto 17, 3) := by decide +kernel
theorem d_M_type_68 : decode b_M_type 68 = .ok (.aload_n 0, 1) := by decide +kernel
theorem d_M_type_69 : decode b_M_type 69 = .ok (.getfield 67, 3) := by decide +kernel
theorem d_M_type_72 : decode b_M_type 72 = .ok (.bipush 6, 2) := by decide +kernel
theorem d_M_type_74 : decode b_M_type 74 = .ok (.if_icmp .ne 7, 3) := by decide +kernel
theorem d_M_type_77 : decode b_M_type 77 = .ok (.iconst 2, 1) := by decide +kernel
theorem d_M_type_78 : decode b_M_type 78 = .ok (.goto 4, 3) := by decide +kernel
theorem d_M_type_81 : decode b_M_type 81 = .ok (.iconst 0, 1) := by decide +kernel
theorem d_M_type_82 : decode b_M_type 82 = .ok (.putfield 47, 3) := by decide +kernel
theorem d_M_type_85 : decode b_M_type 85 = .ok (.aload_n 0, 1) := by decide +kernel
theorem d_M_type_86 : decode b_M_type 86 = .ok (.getfield 47, 3) := by decide +kernel
theorem d_M_type_89 : decode b_M_type 89 = .ok (.ifCond .le 5, 3) := by decide +kernel
theorem d_M_type_92 : decode b_M_type 92 = .ok (.iconst 0, 1) := by decide +kernel
theorem d_M_type_93 : decode b_M_type 93 = .ok (.ireturn, 1) := by decide +kernel
theorem d_M_type_94 : decode b_M_type 94 = .ok (.aload_n 0, 1) := by decide +kernel
theorem d_M_type_95 : decode b_M_type 95 = .ok (.getfield 16, 3) := by decide +kernel
theorem d_M_type_98 : decode b_M_type 98 = .ok (.aload_n 0, 1) := by decide +kernel
theorem d_M_type_99 : decode b_M_type 99 = .ok (.getfield 67, 3) := by decide +kernel
theorem d_M_type_102 : decode b_M_type 102 = .ok (.iload_n 1, 1) := by decide +kernel
theorem d_M_type_103 : decode b_M_type 103 = .ok (.iastore, 1) := by decide +kernel
theorem d_M_type_104 : decode b_M_type 104 = .ok (.aload_n 0, 1) := by decide +kernel
theorem d_M_type_105 : decode b_M_type 105 = .ok (.getfield 19, 3) := by decide +kernel
theorem d_M_type_108 : decode b_M_type 108 = .ok (.aload_n 0, 1) := by decide +kernel
theorem d_M_type_109 : decode b_M_type 109 = .ok (.getfield 67, 3) := by decide +kernel
theorem d_M_type_112 : decode b_M_type 112 = .ok (.iload_n 2, 1) := by decide +kernel
theorem d_M_type_113 : decode b_M_type 113 = .ok (.iastore, 1) := by decide +kernel
theorem d_M_type_114 : decode b_M_type 114 = .ok (.aload_n 0, 1) := by decide +kernel
theorem d_M_type_115 : decode b_M_type 115 = .ok (.getfield 22, 3) := by decide +kernel
theorem d_M_type_118 : decode b_M_type 118 = .ok (.aload_n 0, 1) := by decide +kernel
theorem d_M_type_119 : decode b_M_type 119 = .ok (.getfield 67, 3) := by decide +kernel
theorem d_M_type_122 : decode b_M_type 122 = .ok (.iload_n 3, 1) := by decide +kernel
theorem d_M_type_123 : decode b_M_type 123 = .ok (.iastore, 1) := by decide +kernel
theorem d_M_type_124 : decode b_M_type 124 = .ok (.aload_n 0, 1) := by decide +kernel
theorem d_M_type_125 : decode b_M_type 125 = .ok (.getfield 25, 3) := by decide +kernel
theorem d_M_type_128 : decode b_M_type 128 = .ok (.aload_n 0, 1) := by decide +kernel
theorem d_M_type_129 : decode b_M_type 129 = .ok (.getfield 67, 3) := by decide +kernel
theorem d_M_type_132 : decode b_M_type 132 = .ok (.iload 4, 2) := by decide +kernel
theorem d_M_type_134 : decode b_M_type 134 = .ok (.iastore, 1) := by decide +kernel
theorem d_M_type_135 : decode b_M_type 135 = .ok (.aload_n 0, 1) := by decide +kernel
theorem d_M_type_136 : decode b_M_type 136 = .ok (.getfield 28, 3) := by decide +kernel
theorem d_M_type_139 : decode b_M_type 139 = .ok (.aload_n 0, 1) := by decide +kernel
theorem d_M_type_140 : decode b_M_type 140 = .ok (.getfield 67, 3) := by decide +kernel
theorem d_M_type_143 : decode b_M_type 143 = .ok (.iload 5, 2) := by decide +kernel
theorem d_M_type_145 : decode b_M_type 145 = .ok (.iastore, 1) := by decide +kernel
theorem d_M_type_146 : decode b_M_type 146 = .ok (.aload_n 0, 1) := by decide +kernel
theorem d_M_type_147 : decode b_M_type 147 = .ok (.dup, 1) := by decide +kernel
theorem d_M_type_148 : decode b_M_type 148 = .ok (.getfield 67, 3) := by decide +kernel
theorem d_M_type_151 : decode b_M_type 151 = .ok (.iconst 1, 1) := by decide +kernel
theorem d_M_type_152 : decode b_M_type 152 = .ok (.iadd, 1) := by decide +kernel
theorem d_M_type_153 : decode b_M_type 153 = .ok (.putfield 67, 3) := by decide +kernel
theorem d_M_type_156 : decode b_M_type 156 = .ok (.aload_n 0, 1) := by decide +kernel
theorem d_M_type_157 : decode b_M_type 157 = .ok (.getfield 67, 3) := by decide +kernel
theorem d_M_type_160 : decode b_M_type 160 = .ok (.iconst 1, 1) := by decide +kernel
theorem d_M_type_161 : decode b_M_type 161 = .ok (.isub, 1) := by decide +kernel
theorem d_M_type_162 : decode b_M_type 162 = .ok (.ireturn, 1) := by decide +kernel
theorem d_M_power_0 : decode b_M_power 0 = .ok (.lconst 1, 1) := by decide +kernel
theorem d_M_power_1 : decode b_M_power 1 = .ok (.lstore_n 3, 1) := by decide +kernel
theorem d_M_power_2 : decode b_M_power 2 = .ok (.iconst 0, 1) := by decide +kernel
theorem d_M_power_3 : decode b_M_power 3 = .ok (.istore 5, 2) := by decide +kernel
theorem d_M_power_5 : decode b_M_power 5 = .ok (.iload 5, 2) := by decide +kernel
theorem d_M_power_7 : decode b_M_power 7 = .ok (.iload_n 2, 1) := by decide +kernel
theorem d_M_power_8 : decode b_M_power 8 = .ok (.if_icmp .ge 13, 3) := by decide +kernel
theorem d_M_power_11 : decode b_M_power 11 = .ok (.lload_n 3, 1) := by decide +kernel
theorem d_M_power_12 : decode b_M_power 12 = .ok (.lload_n 0, 1) := by decide +kernel
theorem d_M_power_13 : decode b_M_power 13 = .ok (.lmul, 1) := by decide +kernel
theorem d_M_power_14 : decode b_M_power 14 = .ok (.lstore_n 3, 1) := by decide +kernel
theorem d_M_power_15 : decode b_M_power 15 = .ok (.iinc 5 1, 3) := by decide +kernel
theorem d_M_power_18 : decode b_M_power 18 = .ok (.goto (-13), 3) := by decide +kernel
theorem d_M_power_21 : decode b_M_power 21 = .ok (.lload_n 3, 1) := by decide +kernel
theorem d_M_power_22 : decode b_M_power 22 = .ok (.lreturn, 1) := by decide +kernel
theorem d_M_zonePersons_0 : decode b_M_zonePersons 0 = .ok (.iconst 0, 1) := by decide +kernel
theorem d_M_zonePersons_1 : decode b_M_zonePersons 1 = .ok (.istore_n 3, 1) := by decide +kernel
theorem d_M_zonePersons_2 : decode b_M_zonePersons 2 = .ok (.iload_n 1, 1) := by decide +kernel
theorem d_M_zonePersons_3 : decode b_M_zonePersons 3 = .ok (.istore 4, 2) := by decide +kernel
theorem d_M_zonePersons_5 : decode b_M_zonePersons 5 = .ok (.iload 4, 2) := by decide +kernel
theorem d_M_zonePersons_7 : decode b_M_zonePersons 7 = .ok (.iload_n 2, 1) := by decide +kernel
theorem d_M_zonePersons_8 : decode b_M_zonePersons 8 = .ok (.if_icmp .gt 19, 3) := by decide +kernel
theorem d_M_zonePersons_11 : decode b_M_zonePersons 11 = .ok (.iload_n 3, 1) := by decide +kernel
theorem d_M_zonePersons_12 : decode b_M_zonePersons 12 = .ok (.aload_n 0, 1) := by decide +kernel
theorem d_M_zonePersons_13 : decode b_M_zonePersons 13 = .ok (.getfield 7, 3) := by decide +kernel
theorem d_M_zonePersons_16 : decode b_M_zonePersons 16 = .ok (.iload 4, 2) := by decide +kernel
theorem d_M_zonePersons_18 : decode b_M_zonePersons 18 = .ok (.iaload, 1) := by decide +kernel
theorem d_M_zonePersons_19 : decode b_M_zonePersons 19 = .ok (.iadd, 1) := by decide +kernel
theorem d_M_zonePersons_20 : decode b_M_zonePersons 20 = .ok (.istore_n 3, 1) := by decide +kernel
theorem d_M_zonePersons_21 : decode b_M_zonePersons 21 = .ok (.iinc 4 1, 3) := by decide +kernel
theorem d_M_zonePersons_24 : decode b_M_zonePersons 24 = .ok (.goto (-19), 3) := by decide +kernel
theorem d_M_zonePersons_27 : decode b_M_zonePersons 27 = .ok (.iload_n 3, 1) := by decide +kernel
theorem d_M_zonePersons_28 : decode b_M_zonePersons 28 = .ok (.ireturn, 1) := by decide +kernel
theorem d_M_stopsOf_0 : decode b_M_stopsOf 0 = .ok (.aload_n 0, 1) := by decide +kernel
theorem d_M_stopsOf_1 : decode b_M_stopsOf 1 = .ok (.iload_n 2, 1) := by decide +kernel
theorem d_M_stopsOf_2 : decode b_M_stopsOf 2 = .ok (.iload_n 3, 1) := by decide +kernel
theorem d_M_stopsOf_3 : decode b_M_stopsOf 3 = .ok (.invokevirtual 70, 3) := by decide +kernel
theorem d_M_stopsOf_6 : decode b_M_stopsOf 6 = .ok (.i2l, 1) := by decide +kernel
theorem d_M_stopsOf_7 : decode b_M_stopsOf 7 = .ok (.lstore 4, 2) := by decide +kernel
theorem d_M_stopsOf_9 : decode b_M_stopsOf 9 = .ok (.lconst 0, 1) := by decide +kernel
theorem d_M_stopsOf_10 : decode b_M_stopsOf 10 = .ok (.lstore 6, 2) := by decide +kernel
theorem d_M_stopsOf_12 : decode b_M_stopsOf 12 = .ok (.iload_n 2, 1) := by decide +kernel
theorem d_M_stopsOf_13 : decode b_M_stopsOf 13 = .ok (.istore 8, 2) := by decide +kernel
theorem d_M_stopsOf_15 : decode b_M_stopsOf 15 = .ok (.iload 8, 2) := by decide +kernel
theorem d_M_stopsOf_17 : decode b_M_stopsOf 17 = .ok (.iload_n 3, 1) := by decide +kernel
theorem d_M_stopsOf_18 : decode b_M_stopsOf 18 = .ok (.if_icmp .gt 36, 3) := by decide +kernel
theorem d_M_stopsOf_21 : decode b_M_stopsOf 21 = .ok (.lload 6, 2) := by decide +kernel
theorem d_M_stopsOf_23 : decode b_M_stopsOf 23 = .ok (.lload 4, 2) := by decide +kernel
theorem d_M_stopsOf_25 : decode b_M_stopsOf 25 = .ok (.iload_n 1, 1) := by decide +kernel
theorem d_M_stopsOf_26 : decode b_M_stopsOf 26 = .ok (.invokestatic 74, 3) := by decide +kernel
theorem d_M_stopsOf_29 : decode b_M_stopsOf 29 = .ok (.ladd, 1) := by decide +kernel
theorem d_M_stopsOf_30 : decode b_M_stopsOf 30 = .ok (.lload 4, 2) := by decide +kernel
theorem d_M_stopsOf_32 : decode b_M_stopsOf 32 = .ok (.aload_n 0, 1) := by decide +kernel
theorem d_M_stopsOf_33 : decode b_M_stopsOf 33 = .ok (.getfield 7, 3) := by decide +kernel
theorem d_M_stopsOf_36 : decode b_M_stopsOf 36 = .ok (.iload 8, 2) := by decide +kernel
theorem d_M_stopsOf_38 : decode b_M_stopsOf 38 = .ok (.iaload, 1) := by decide +kernel
theorem d_M_stopsOf_39 : decode b_M_stopsOf 39 = .ok (.i2l, 1) := by decide +kernel
theorem d_M_stopsOf_40 : decode b_M_stopsOf 40 = .ok (.lsub, 1) := by decide +kernel
theorem d_M_stopsOf_41 : decode b_M_stopsOf 41 = .ok (.iload_n 1, 1) := by decide +kernel
theorem d_M_stopsOf_42 : decode b_M_stopsOf 42 = .ok (.invokestatic 74, 3) := by decide +kernel
theorem d_M_stopsOf_45 : decode b_M_stopsOf 45 = .ok (.lsub, 1) := by decide +kernel
theorem d_M_stopsOf_46 : decode b_M_stopsOf 46 = .ok (.lstore 6, 2) := by decide +kernel
theorem d_M_stopsOf_48 : decode b_M_stopsOf 48 = .ok (.iinc 8 1, 3) := by decide +kernel
theorem d_M_stopsOf_51 : decode b_M_stopsOf 51 = .ok (.goto (-36), 3) := by decide +kernel
theorem d_M_stopsOf_54 : decode b_M_stopsOf 54 = .ok (.lload 6, 2) := by decide +kernel
theorem d_M_stopsOf_56 : decode b_M_stopsOf 56 = .ok (.lreturn, 1) := by decide +kernel
theorem d_M_highestOf_0 : decode b_M_highestOf 0 = .ok (.lconst 0, 1) := by decide +kernel
theorem d_M_highestOf_1 : decode b_M_highestOf 1 = .ok (.lstore 4, 2) := by decide +kernel
theorem d_M_highestOf_3 : decode b_M_highestOf 3 = .ok (.lconst 0, 1) := by decide +kernel
theorem d_M_highestOf_4 : decode b_M_highestOf 4 = .ok (.lstore 6, 2) := by decide +kernel
theorem d_M_highestOf_6 : decode b_M_highestOf 6 = .ok (.iload_n 2, 1) := by decide +kernel
theorem d_M_highestOf_7 : decode b_M_highestOf 7 = .ok (.istore 8, 2) := by decide +kernel
theorem d_M_highestOf_9 : decode b_M_highestOf 9 = .ok (.iload 8, 2) := by decide +kernel
theorem d_M_highestOf_11 : decode b_M_highestOf 11 = .ok (.iload_n 3, 1) := by decide +kernel
theorem d_M_highestOf_12 : decode b_M_highestOf 12 = .ok (.if_icmp .gt 53, 3) := by decide +kernel
theorem d_M_highestOf_15 : decode b_M_highestOf 15 = .ok (.lload 6, 2) := by decide +kernel
theorem d_M_highestOf_17 : decode b_M_highestOf 17 = .ok (.aload_n 0, 1) := by decide +kernel
theorem d_M_highestOf_18 : decode b_M_highestOf 18 = .ok (.getfield 7, 3) := by decide +kernel
theorem d_M_highestOf_21 : decode b_M_highestOf 21 = .ok (.iload 8, 2) := by decide +kernel
theorem d_M_highestOf_23 : decode b_M_highestOf 23 = .ok (.iaload, 1) := by decide +kernel
theorem d_M_highestOf_24 : decode b_M_highestOf 24 = .ok (.i2l, 1) := by decide +kernel
theorem d_M_highestOf_25 : decode b_M_highestOf 25 = .ok (.ladd, 1) := by decide +kernel
theorem d_M_highestOf_26 : decode b_M_highestOf 26 = .ok (.lstore 9, 2) := by decide +kernel
theorem d_M_highestOf_28 : decode b_M_highestOf 28 = .ok (.lload 4, 2) := by decide +kernel
theorem d_M_highestOf_30 : decode b_M_highestOf 30 = .ok (.aload_n 0, 1) := by decide +kernel
theorem d_M_highestOf_31 : decode b_M_highestOf 31 = .ok (.getfield 13, 3) := by decide +kernel
theorem d_M_highestOf_34 : decode b_M_highestOf 34 = .ok (.iload 8, 2) := by decide +kernel
theorem d_M_highestOf_36 : decode b_M_highestOf 36 = .ok (.iaload, 1) := by decide +kernel
theorem d_M_highestOf_37 : decode b_M_highestOf 37 = .ok (.i2l, 1) := by decide +kernel
theorem d_M_highestOf_38 : decode b_M_highestOf 38 = .ok (.lload 9, 2) := by decide +kernel
theorem d_M_highestOf_40 : decode b_M_highestOf 40 = .ok (.iload_n 1, 1) := by decide +kernel
theorem d_M_highestOf_41 : decode b_M_highestOf 41 = .ok (.invokestatic 74, 3) := by decide +kernel
theorem d_M_highestOf_44 : decode b_M_highestOf 44 = .ok (.lload 6, 2) := by decide +kernel
theorem d_M_highestOf_46 : decode b_M_highestOf 46 = .ok (.iload_n 1, 1) := by decide +kernel
theorem d_M_highestOf_47 : decode b_M_highestOf 47 = .ok (.invokestatic 74, 3) := by decide +kernel
theorem d_M_highestOf_50 : decode b_M_highestOf 50 = .ok (.lsub, 1) := by decide +kernel
theorem d_M_highestOf_51 : decode b_M_highestOf 51 = .ok (.lmul, 1) := by decide +kernel
theorem d_M_highestOf_52 : decode b_M_highestOf 52 = .ok (.ladd, 1) := by decide +kernel
theorem d_M_highestOf_53 : decode b_M_highestOf 53 = .ok (.lstore 4, 2) := by decide +kernel
theorem d_M_highestOf_55 : decode b_M_highestOf 55 = .ok (.lload 9, 2) := by decide +kernel
theorem d_M_highestOf_57 : decode b_M_highestOf 57 = .ok (.lstore 6, 2) := by decide +kernel
theorem d_M_highestOf_59 : decode b_M_highestOf 59 = .ok (.iinc 8 1, 3) := by decide +kernel
theorem d_M_highestOf_62 : decode b_M_highestOf 62 = .ok (.goto (-53), 3) := by decide +kernel
theorem d_M_highestOf_65 : decode b_M_highestOf 65 = .ok (.lload 4, 2) := by decide +kernel
theorem d_M_highestOf_67 : decode b_M_highestOf 67 = .ok (.lreturn, 1) := by decide +kernel
theorem d_M_lowest_0 : decode b_M_lowest 0 = .ok (.lload_n 1, 1) := by decide +kernel
theorem d_M_lowest_1 : decode b_M_lowest 1 = .ok (.lstore 5, 2) := by decide +kernel
theorem d_M_lowest_3 : decode b_M_lowest 3 = .ok (.lload_n 3, 1) := by decide +kernel
theorem d_M_lowest_4 : decode b_M_lowest 4 = .ok (.lstore 7, 2) := by decide +kernel
theorem d_M_lowest_6 : decode b_M_lowest 6 = .ok (.lload 7, 2) := by decide +kernel
theorem d_M_lowest_8 : decode b_M_lowest 8 = .ok (.lconst 0, 1) := by decide +kernel
theorem d_M_lowest_9 : decode b_M_lowest 9 = .ok (.lcmp, 1) := by decide +kernel
theorem d_M_lowest_10 : decode b_M_lowest 10 = .ok (.ifCond .eq 21, 3) := by decide +kernel
theorem d_M_lowest_13 : decode b_M_lowest 13 = .ok (.lload 5, 2) := by decide +kernel
theorem d_M_lowest_15 : decode b_M_lowest 15 = .ok (.lload 7, 2) := by decide +kernel
theorem d_M_lowest_17 : decode b_M_lowest 17 = .ok (.lrem, 1) := by decide +kernel
theorem d_M_lowest_18 : decode b_M_lowest 18 = .ok (.lstore 9, 2) := by decide +kernel
theorem d_M_lowest_20 : decode b_M_lowest 20 = .ok (.lload 7, 2) := by decide +kernel
theorem d_M_lowest_22 : decode b_M_lowest 22 = .ok (.lstore 5, 2) := by decide +kernel
theorem d_M_lowest_24 : decode b_M_lowest 24 = .ok (.lload 9, 2) := by decide +kernel
theorem d_M_lowest_26 : decode b_M_lowest 26 = .ok (.lstore 7, 2) := by decide +kernel
theorem d_M_lowest_28 : decode b_M_lowest 28 = .ok (.goto (-22), 3) := by decide +kernel
theorem d_M_lowest_31 : decode b_M_lowest 31 = .ok (.aload_n 0, 1) := by decide +kernel
theorem d_M_lowest_32 : decode b_M_lowest 32 = .ok (.lload_n 1, 1) := by decide +kernel
theorem d_M_lowest_33 : decode b_M_lowest 33 = .ok (.lload 5, 2) := by decide +kernel
theorem d_M_lowest_35 : decode b_M_lowest 35 = .ok (.ldiv, 1) := by decide +kernel
theorem d_M_lowest_36 : decode b_M_lowest 36 = .ok (.putfield 78, 3) := by decide +kernel
theorem d_M_lowest_39 : decode b_M_lowest 39 = .ok (.aload_n 0, 1) := by decide +kernel
theorem d_M_lowest_40 : decode b_M_lowest 40 = .ok (.lload_n 3, 1) := by decide +kernel
theorem d_M_lowest_41 : decode b_M_lowest 41 = .ok (.lload 5, 2) := by decide +kernel
theorem d_M_lowest_43 : decode b_M_lowest 43 = .ok (.ldiv, 1) := by decide +kernel
theorem d_M_lowest_44 : decode b_M_lowest 44 = .ok (.putfield 82, 3) := by decide +kernel
theorem d_M_lowest_47 : decode b_M_lowest 47 = .ok (.return_, 1) := by decide +kernel
theorem d_M_reckonTrip_0 : decode b_M_reckonTrip 0 = .ok (.aload_n 0, 1) := by decide +kernel
theorem d_M_reckonTrip_1 : decode b_M_reckonTrip 1 = .ok (.getfield 16, 3) := by decide +kernel
theorem d_M_reckonTrip_4 : decode b_M_reckonTrip 4 = .ok (.iload_n 1, 1) := by decide +kernel
theorem d_M_reckonTrip_5 : decode b_M_reckonTrip 5 = .ok (.iaload, 1) := by decide +kernel
theorem d_M_reckonTrip_6 : decode b_M_reckonTrip 6 = .ok (.istore 4, 2) := by decide +kernel
theorem d_M_reckonTrip_8 : decode b_M_reckonTrip 8 = .ok (.aload_n 0, 1) := by decide +kernel
theorem d_M_reckonTrip_9 : decode b_M_reckonTrip 9 = .ok (.iload_n 2, 1) := by decide +kernel
theorem d_M_reckonTrip_10 : decode b_M_reckonTrip 10 = .ok (.iload_n 3, 1) := by decide +kernel
theorem d_M_reckonTrip_11 : decode b_M_reckonTrip 11 = .ok (.invokevirtual 70, 3) := by decide +kernel
theorem d_M_reckonTrip_14 : decode b_M_reckonTrip 14 = .ok (.i2l, 1) := by decide +kernel
theorem d_M_reckonTrip_15 : decode b_M_reckonTrip 15 = .ok (.iload 4, 2) := by decide +kernel
theorem d_M_reckonTrip_17 : decode b_M_reckonTrip 17 = .ok (.invokestatic 74, 3) := by decide +kernel
theorem d_M_reckonTrip_20 : decode b_M_reckonTrip 20 = .ok (.lstore 5, 2) := by decide +kernel
theorem d_M_reckonTrip_22 : decode b_M_reckonTrip 22 = .ok (.lload 5, 2) := by decide +kernel
theorem d_M_reckonTrip_24 : decode b_M_reckonTrip 24 = .ok (.lconst 0, 1) := by decide +kernel
theorem d_M_reckonTrip_25 : decode b_M_reckonTrip 25 = .ok (.lcmp, 1) := by decide +kernel
theorem d_M_reckonTrip_26 : decode b_M_reckonTrip 26 = .ok (.ifCond .ne 10, 3) := by decide +kernel
theorem d_M_reckonTrip_29 : decode b_M_reckonTrip 29 = .ok (.aload_n 0, 1) := by decide +kernel
theorem d_M_reckonTrip_30 : decode b_M_reckonTrip 30 = .ok (.lconst 0, 1) := by decide +kernel
theorem d_M_reckonTrip_31 : decode b_M_reckonTrip 31 = .ok (.lconst 1, 1) := by decide +kernel
theorem d_M_reckonTrip_32 : decode b_M_reckonTrip 32 = .ok (.invokevirtual 85, 3) := by decide +kernel
theorem d_M_reckonTrip_35 : decode b_M_reckonTrip 35 = .ok (.return_, 1) := by decide +kernel
theorem d_M_reckonTrip_36 : decode b_M_reckonTrip 36 = .ok (.aload_n 0, 1) := by decide +kernel
theorem d_M_reckonTrip_37 : decode b_M_reckonTrip 37 = .ok (.getfield 19, 3) := by decide +kernel
theorem d_M_reckonTrip_40 : decode b_M_reckonTrip 40 = .ok (.iload_n 1, 1) := by decide +kernel
theorem d_M_reckonTrip_41 : decode b_M_reckonTrip 41 = .ok (.iaload, 1) := by decide +kernel
theorem d_M_reckonTrip_42 : decode b_M_reckonTrip 42 = .ok (.i2l, 1) := by decide +kernel
theorem d_M_reckonTrip_43 : decode b_M_reckonTrip 43 = .ok (.lstore 7, 2) := by decide +kernel
theorem d_M_reckonTrip_45 : decode b_M_reckonTrip 45 = .ok (.aload_n 0, 1) := by decide +kernel
theorem d_M_reckonTrip_46 : decode b_M_reckonTrip 46 = .ok (.iload 4, 2) := by decide +kernel
theorem d_M_reckonTrip_48 : decode b_M_reckonTrip 48 = .ok (.iload_n 2, 1) := by decide +kernel
theorem d_M_reckonTrip_49 : decode b_M_reckonTrip 49 = .ok (.iload_n 3, 1) := by decide +kernel
theorem d_M_reckonTrip_50 : decode b_M_reckonTrip 50 = .ok (.invokevirtual 89, 3) := by decide +kernel
theorem d_M_reckonTrip_53 : decode b_M_reckonTrip 53 = .ok (.lload 5, 2) := by decide +kernel
theorem d_M_reckonTrip_55 : decode b_M_reckonTrip 55 = .ok (.ladd, 1) := by decide +kernel
theorem d_M_reckonTrip_56 : decode b_M_reckonTrip 56 = .ok (.aload_n 0, 1) := by decide +kernel
theorem d_M_reckonTrip_57 : decode b_M_reckonTrip 57 = .ok (.getfield 22, 3) := by decide +kernel
theorem d_M_reckonTrip_60 : decode b_M_reckonTrip 60 = .ok (.iload_n 1, 1) := by decide +kernel
theorem d_M_reckonTrip_61 : decode b_M_reckonTrip 61 = .ok (.iaload, 1) := by decide +kernel
theorem d_M_reckonTrip_62 : decode b_M_reckonTrip 62 = .ok (.i2l, 1) := by decide +kernel
theorem d_M_reckonTrip_63 : decode b_M_reckonTrip 63 = .ok (.lmul, 1) := by decide +kernel
theorem d_M_reckonTrip_64 : decode b_M_reckonTrip 64 = .ok (.lload 7, 2) := by decide +kernel
theorem d_M_reckonTrip_66 : decode b_M_reckonTrip 66 = .ok (.lmul, 1) := by decide +kernel
theorem d_M_reckonTrip_67 : decode b_M_reckonTrip 67 = .ok (.lstore 9, 2) := by decide +kernel
theorem d_M_reckonTrip_69 : decode b_M_reckonTrip 69 = .ok (.ldc2_w 93, 3) := by decide +kernel
theorem d_M_reckonTrip_72 : decode b_M_reckonTrip 72 = .ok (.iload 4, 2) := by decide +kernel
theorem d_M_reckonTrip_74 : decode b_M_reckonTrip 74 = .ok (.i2l, 1) := by decide +kernel
theorem d_M_reckonTrip_75 : decode b_M_reckonTrip 75 = .ok (.lmul, 1) := by decide +kernel
theorem d_M_reckonTrip_76 : decode b_M_reckonTrip 76 = .ok (.aload_n 0, 1) := by decide +kernel
theorem d_M_reckonTrip_77 : decode b_M_reckonTrip 77 = .ok (.getfield 25, 3) := by decide +kernel
theorem d_M_reckonTrip_80 : decode b_M_reckonTrip 80 = .ok (.iload_n 1, 1) := by decide +kernel
theorem d_M_reckonTrip_81 : decode b_M_reckonTrip 81 = .ok (.iaload, 1) := by decide +kernel
theorem d_M_reckonTrip_82 : decode b_M_reckonTrip 82 = .ok (.i2l, 1) := by decide +kernel
theorem d_M_reckonTrip_83 : decode b_M_reckonTrip 83 = .ok (.lmul, 1) := by decide +kernel
theorem d_M_reckonTrip_84 : decode b_M_reckonTrip 84 = .ok (.lload 7, 2) := by decide +kernel
theorem d_M_reckonTrip_86 : decode b_M_reckonTrip 86 = .ok (.lmul, 1) := by decide +kernel
theorem d_M_reckonTrip_87 : decode b_M_reckonTrip 87 = .ok (.lload 5, 2) := by decide +kernel
theorem d_M_reckonTrip_89 : decode b_M_reckonTrip 89 = .ok (.lmul, 1) := by decide +kernel
theorem d_M_reckonTrip_90 : decode b_M_reckonTrip 90 = .ok (.lstore 11, 2) := by decide +kernel
theorem d_M_reckonTrip_92 : decode b_M_reckonTrip 92 = .ok (.aload_n 0, 1) := by decide +kernel
theorem d_M_reckonTrip_93 : decode b_M_reckonTrip 93 = .ok (.ldc2_w 93, 3) := by decide +kernel
theorem d_M_reckonTrip_96 : decode b_M_reckonTrip 96 = .ok (.aload_n 0, 1) := by decide +kernel
theorem d_M_reckonTrip_97 : decode b_M_reckonTrip 97 = .ok (.iload 4, 2) := by decide +kernel
theorem d_M_reckonTrip_99 : decode b_M_reckonTrip 99 = .ok (.iload_n 2, 1) := by decide +kernel
theorem d_M_reckonTrip_100 : decode b_M_reckonTrip 100 = .ok (.iload_n 3, 1) := by decide +kernel
theorem d_M_reckonTrip_101 : decode b_M_reckonTrip 101 = .ok (.invokevirtual 95, 3) := by decide +kernel
theorem d_M_reckonTrip_104 : decode b_M_reckonTrip 104 = .ok (.lmul, 1) := by decide +kernel
theorem d_M_reckonTrip_105 : decode b_M_reckonTrip 105 = .ok (.lload 9, 2) := by decide +kernel
theorem d_M_reckonTrip_107 : decode b_M_reckonTrip 107 = .ok (.ladd, 1) := by decide +kernel
theorem d_M_reckonTrip_108 : decode b_M_reckonTrip 108 = .ok (.lload 11, 2) := by decide +kernel
theorem d_M_reckonTrip_110 : decode b_M_reckonTrip 110 = .ok (.ladd, 1) := by decide +kernel
theorem d_M_reckonTrip_111 : decode b_M_reckonTrip 111 = .ok (.lload 7, 2) := by decide +kernel
theorem d_M_reckonTrip_113 : decode b_M_reckonTrip 113 = .ok (.lload 5, 2) := by decide +kernel
theorem d_M_reckonTrip_115 : decode b_M_reckonTrip 115 = .ok (.lmul, 1) := by decide +kernel
theorem d_M_reckonTrip_116 : decode b_M_reckonTrip 116 = .ok (.invokevirtual 85, 3) := by decide +kernel
theorem d_M_reckonTrip_119 : decode b_M_reckonTrip 119 = .ok (.return_, 1) := by decide +kernel
theorem d_M_noZone_0 : decode b_M_noZone 0 = .ok (.iload_n 1, 1) := by decide +kernel
theorem d_M_noZone_1 : decode b_M_noZone 1 = .ok (.iconst 0, 1) := by decide +kernel
theorem d_M_noZone_2 : decode b_M_noZone 2 = .ok (.aload_n 0, 1) := by decide +kernel
theorem d_M_noZone_3 : decode b_M_noZone 3 = .ok (.getfield 67, 3) := by decide +kernel
theorem d_M_noZone_6 : decode b_M_noZone 6 = .ok (.iconst 1, 1) := by decide +kernel
theorem d_M_noZone_7 : decode b_M_noZone 7 = .ok (.isub, 1) := by decide +kernel
theorem d_M_noZone_8 : decode b_M_noZone 8 = .ok (.invokestatic 54, 3) := by decide +kernel
theorem d_M_noZone_11 : decode b_M_noZone 11 = .ok (.ifCond .eq 24, 3) := by decide +kernel
theorem d_M_noZone_14 : decode b_M_noZone 14 = .ok (.aload_n 0, 1) := by decide +kernel
theorem d_M_noZone_15 : decode b_M_noZone 15 = .ok (.iload_n 2, 1) := by decide +kernel
theorem d_M_noZone_16 : decode b_M_noZone 16 = .ok (.invokevirtual 62, 3) := by decide +kernel
theorem d_M_noZone_19 : decode b_M_noZone 19 = .ok (.ifCond .ne 16, 3) := by decide +kernel
theorem d_M_noZone_22 : decode b_M_noZone 22 = .ok (.aload_n 0, 1) := by decide +kernel
theorem d_M_noZone_23 : decode b_M_noZone 23 = .ok (.iload_n 3, 1) := by decide +kernel
theorem d_M_noZone_24 : decode b_M_noZone 24 = .ok (.invokevirtual 62, 3) := by decide +kernel
theorem d_M_noZone_27 : decode b_M_noZone 27 = .ok (.ifCond .ne 8, 3) := by decide +kernel
theorem d_M_noZone_30 : decode b_M_noZone 30 = .ok (.iload_n 3, 1) := by decide +kernel
theorem d_M_noZone_31 : decode b_M_noZone 31 = .ok (.iload_n 2, 1) := by decide +kernel
theorem d_M_noZone_32 : decode b_M_noZone 32 = .ok (.if_icmp .ge 7, 3) := by decide +kernel
theorem d_M_noZone_35 : decode b_M_noZone 35 = .ok (.iconst 1, 1) := by decide +kernel
theorem d_M_noZone_36 : decode b_M_noZone 36 = .ok (.goto 4, 3) := by decide +kernel
theorem d_M_noZone_39 : decode b_M_noZone 39 = .ok (.iconst 0, 1) := by decide +kernel
theorem d_M_noZone_40 : decode b_M_noZone 40 = .ok (.ireturn, 1) := by decide +kernel
theorem d_M_part_0 : decode b_M_part 0 = .ok (.iload_n 1, 1) := by decide +kernel
theorem d_M_part_1 : decode b_M_part 1 = .ok (.ifCond .ne 10, 3) := by decide +kernel
theorem d_M_part_4 : decode b_M_part 4 = .ok (.aload_n 0, 1) := by decide +kernel
theorem d_M_part_5 : decode b_M_part 5 = .ok (.getfield 78, 3) := by decide +kernel
theorem d_M_part_8 : decode b_M_part 8 = .ok (.goto 7, 3) := by decide +kernel
theorem d_M_part_11 : decode b_M_part 11 = .ok (.aload_n 0, 1) := by decide +kernel
theorem d_M_part_12 : decode b_M_part 12 = .ok (.getfield 82, 3) := by decide +kernel
theorem d_M_part_15 : decode b_M_part 15 = .ok (.lreturn, 1) := by decide +kernel
theorem d_M_stops_0 : decode b_M_stops 0 = .ok (.aload_n 0, 1) := by decide +kernel
theorem d_M_stops_1 : decode b_M_stops 1 = .ok (.aload_n 0, 1) := by decide +kernel
theorem d_M_stops_2 : decode b_M_stops 2 = .ok (.iload_n 1, 1) := by decide +kernel
theorem d_M_stops_3 : decode b_M_stops 3 = .ok (.iload_n 2, 1) := by decide +kernel
theorem d_M_stops_4 : decode b_M_stops 4 = .ok (.iload_n 3, 1) := by decide +kernel
theorem d_M_stops_5 : decode b_M_stops 5 = .ok (.invokevirtual 98, 3) := by decide +kernel
theorem d_M_stops_8 : decode b_M_stops 8 = .ok (.ifCond .ne 13, 3) := by decide +kernel
theorem d_M_stops_11 : decode b_M_stops 11 = .ok (.iload 4, 2) := by decide +kernel
theorem d_M_stops_13 : decode b_M_stops 13 = .ok (.iconst 0, 1) := by decide +kernel
theorem d_M_stops_14 : decode b_M_stops 14 = .ok (.iconst 1, 1) := by decide +kernel
theorem d_M_stops_15 : decode b_M_stops 15 = .ok (.invokestatic 54, 3) := by decide +kernel
theorem d_M_stops_18 : decode b_M_stops 18 = .ok (.ifCond .ne 7, 3) := by decide +kernel
theorem d_M_stops_21 : decode b_M_stops 21 = .ok (.iconst 1, 1) := by decide +kernel
theorem d_M_stops_22 : decode b_M_stops 22 = .ok (.goto 4, 3) := by decide +kernel
theorem d_M_stops_25 : decode b_M_stops 25 = .ok (.iconst 0, 1) := by decide +kernel
theorem d_M_stops_26 : decode b_M_stops 26 = .ok (.putfield 47, 3) := by decide +kernel
theorem d_M_stops_29 : decode b_M_stops 29 = .ok (.aload_n 0, 1) := by decide +kernel
theorem d_M_stops_30 : decode b_M_stops 30 = .ok (.getfield 47, 3) := by decide +kernel
theorem d_M_stops_33 : decode b_M_stops 33 = .ok (.ifCond .le 5, 3) := by decide +kernel
theorem d_M_stops_36 : decode b_M_stops 36 = .ok (.lconst 0, 1) := by decide +kernel
theorem d_M_stops_37 : decode b_M_stops 37 = .ok (.lreturn, 1) := by decide +kernel
theorem d_M_stops_38 : decode b_M_stops 38 = .ok (.aload_n 0, 1) := by decide +kernel
theorem d_M_stops_39 : decode b_M_stops 39 = .ok (.iload_n 2, 1) := by decide +kernel
theorem d_M_stops_40 : decode b_M_stops 40 = .ok (.iload_n 3, 1) := by decide +kernel
theorem d_M_stops_41 : decode b_M_stops 41 = .ok (.invokevirtual 70, 3) := by decide +kernel
theorem d_M_stops_44 : decode b_M_stops 44 = .ok (.i2l, 1) := by decide +kernel
theorem d_M_stops_45 : decode b_M_stops 45 = .ok (.aload_n 0, 1) := by decide +kernel
theorem d_M_stops_46 : decode b_M_stops 46 = .ok (.getfield 16, 3) := by decide +kernel
theorem d_M_stops_49 : decode b_M_stops 49 = .ok (.iload_n 1, 1) := by decide +kernel
theorem d_M_stops_50 : decode b_M_stops 50 = .ok (.iaload, 1) := by decide +kernel
theorem d_M_stops_51 : decode b_M_stops 51 = .ok (.invokestatic 74, 3) := by decide +kernel
theorem d_M_stops_54 : decode b_M_stops 54 = .ok (.lstore 5, 2) := by decide +kernel
theorem d_M_stops_56 : decode b_M_stops 56 = .ok (.aload_n 0, 1) := by decide +kernel
theorem d_M_stops_57 : decode b_M_stops 57 = .ok (.aload_n 0, 1) := by decide +kernel
theorem d_M_stops_58 : decode b_M_stops 58 = .ok (.aload_n 0, 1) := by decide +kernel
theorem d_M_stops_59 : decode b_M_stops 59 = .ok (.getfield 16, 3) := by decide +kernel
theorem d_M_stops_62 : decode b_M_stops 62 = .ok (.iload_n 1, 1) := by decide +kernel
theorem d_M_stops_63 : decode b_M_stops 63 = .ok (.iaload, 1) := by decide +kernel
theorem d_M_stops_64 : decode b_M_stops 64 = .ok (.iload_n 2, 1) := by decide +kernel
theorem d_M_stops_65 : decode b_M_stops 65 = .ok (.iload_n 3, 1) := by decide +kernel
theorem d_M_stops_66 : decode b_M_stops 66 = .ok (.invokevirtual 89, 3) := by decide +kernel
theorem d_M_stops_69 : decode b_M_stops 69 = .ok (.lload 5, 2) := by decide +kernel
theorem d_M_stops_71 : decode b_M_stops 71 = .ok (.lconst 0, 1) := by decide +kernel
theorem d_M_stops_72 : decode b_M_stops 72 = .ok (.lcmp, 1) := by decide +kernel
theorem d_M_stops_73 : decode b_M_stops 73 = .ok (.ifCond .ne 7, 3) := by decide +kernel
theorem d_M_stops_76 : decode b_M_stops 76 = .ok (.lconst 1, 1) := by decide +kernel
theorem d_M_stops_77 : decode b_M_stops 77 = .ok (.goto 5, 3) := by decide +kernel
theorem d_M_stops_80 : decode b_M_stops 80 = .ok (.lload 5, 2) := by decide +kernel
theorem d_M_stops_82 : decode b_M_stops 82 = .ok (.invokevirtual 85, 3) := by decide +kernel
theorem d_M_stops_85 : decode b_M_stops 85 = .ok (.aload_n 0, 1) := by decide +kernel
theorem d_M_stops_86 : decode b_M_stops 86 = .ok (.iload 4, 2) := by decide +kernel
theorem d_M_stops_88 : decode b_M_stops 88 = .ok (.invokevirtual 101, 3) := by decide +kernel
theorem d_M_stops_91 : decode b_M_stops 91 = .ok (.lreturn, 1) := by decide +kernel
theorem d_M_highest_0 : decode b_M_highest 0 = .ok (.aload_n 0, 1) := by decide +kernel
theorem d_M_highest_1 : decode b_M_highest 1 = .ok (.aload_n 0, 1) := by decide +kernel
theorem d_M_highest_2 : decode b_M_highest 2 = .ok (.iload_n 1, 1) := by decide +kernel
theorem d_M_highest_3 : decode b_M_highest 3 = .ok (.iload_n 2, 1) := by decide +kernel
theorem d_M_highest_4 : decode b_M_highest 4 = .ok (.iload_n 3, 1) := by decide +kernel
theorem d_M_highest_5 : decode b_M_highest 5 = .ok (.invokevirtual 98, 3) := by decide +kernel
theorem d_M_highest_8 : decode b_M_highest 8 = .ok (.ifCond .ne 13, 3) := by decide +kernel
theorem d_M_highest_11 : decode b_M_highest 11 = .ok (.iload 4, 2) := by decide +kernel
theorem d_M_highest_13 : decode b_M_highest 13 = .ok (.iconst 0, 1) := by decide +kernel
theorem d_M_highest_14 : decode b_M_highest 14 = .ok (.iconst 1, 1) := by decide +kernel
theorem d_M_highest_15 : decode b_M_highest 15 = .ok (.invokestatic 54, 3) := by decide +kernel
theorem d_M_highest_18 : decode b_M_highest 18 = .ok (.ifCond .ne 7, 3) := by decide +kernel
theorem d_M_highest_21 : decode b_M_highest 21 = .ok (.iconst 1, 1) := by decide +kernel
theorem d_M_highest_22 : decode b_M_highest 22 = .ok (.goto 4, 3) := by decide +kernel
theorem d_M_highest_25 : decode b_M_highest 25 = .ok (.iconst 0, 1) := by decide +kernel
theorem d_M_highest_26 : decode b_M_highest 26 = .ok (.putfield 47, 3) := by decide +kernel
theorem d_M_highest_29 : decode b_M_highest 29 = .ok (.aload_n 0, 1) := by decide +kernel
theorem d_M_highest_30 : decode b_M_highest 30 = .ok (.getfield 47, 3) := by decide +kernel
theorem d_M_highest_33 : decode b_M_highest 33 = .ok (.ifCond .le 5, 3) := by decide +kernel
theorem d_M_highest_36 : decode b_M_highest 36 = .ok (.lconst 0, 1) := by decide +kernel
theorem d_M_highest_37 : decode b_M_highest 37 = .ok (.lreturn, 1) := by decide +kernel
theorem d_M_highest_38 : decode b_M_highest 38 = .ok (.aload_n 0, 1) := by decide +kernel
theorem d_M_highest_39 : decode b_M_highest 39 = .ok (.iload_n 2, 1) := by decide +kernel
theorem d_M_highest_40 : decode b_M_highest 40 = .ok (.iload_n 3, 1) := by decide +kernel
theorem d_M_highest_41 : decode b_M_highest 41 = .ok (.invokevirtual 70, 3) := by decide +kernel
theorem d_M_highest_44 : decode b_M_highest 44 = .ok (.i2l, 1) := by decide +kernel
theorem d_M_highest_45 : decode b_M_highest 45 = .ok (.aload_n 0, 1) := by decide +kernel
theorem d_M_highest_46 : decode b_M_highest 46 = .ok (.getfield 16, 3) := by decide +kernel
theorem d_M_highest_49 : decode b_M_highest 49 = .ok (.iload_n 1, 1) := by decide +kernel
theorem d_M_highest_50 : decode b_M_highest 50 = .ok (.iaload, 1) := by decide +kernel
theorem d_M_highest_51 : decode b_M_highest 51 = .ok (.invokestatic 74, 3) := by decide +kernel
theorem d_M_highest_54 : decode b_M_highest 54 = .ok (.lstore 5, 2) := by decide +kernel
theorem d_M_highest_56 : decode b_M_highest 56 = .ok (.aload_n 0, 1) := by decide +kernel
theorem d_M_highest_57 : decode b_M_highest 57 = .ok (.aload_n 0, 1) := by decide +kernel
theorem d_M_highest_58 : decode b_M_highest 58 = .ok (.aload_n 0, 1) := by decide +kernel
theorem d_M_highest_59 : decode b_M_highest 59 = .ok (.getfield 16, 3) := by decide +kernel
theorem d_M_highest_62 : decode b_M_highest 62 = .ok (.iload_n 1, 1) := by decide +kernel
theorem d_M_highest_63 : decode b_M_highest 63 = .ok (.iaload, 1) := by decide +kernel
theorem d_M_highest_64 : decode b_M_highest 64 = .ok (.iload_n 2, 1) := by decide +kernel
theorem d_M_highest_65 : decode b_M_highest 65 = .ok (.iload_n 3, 1) := by decide +kernel
theorem d_M_highest_66 : decode b_M_highest 66 = .ok (.invokevirtual 95, 3) := by decide +kernel
theorem d_M_highest_69 : decode b_M_highest 69 = .ok (.lload 5, 2) := by decide +kernel
theorem d_M_highest_71 : decode b_M_highest 71 = .ok (.lconst 0, 1) := by decide +kernel
theorem d_M_highest_72 : decode b_M_highest 72 = .ok (.lcmp, 1) := by decide +kernel
theorem d_M_highest_73 : decode b_M_highest 73 = .ok (.ifCond .ne 7, 3) := by decide +kernel
theorem d_M_highest_76 : decode b_M_highest 76 = .ok (.lconst 1, 1) := by decide +kernel
theorem d_M_highest_77 : decode b_M_highest 77 = .ok (.goto 5, 3) := by decide +kernel
theorem d_M_highest_80 : decode b_M_highest 80 = .ok (.lload 5, 2) := by decide +kernel
theorem d_M_highest_82 : decode b_M_highest 82 = .ok (.invokevirtual 85, 3) := by decide +kernel
theorem d_M_highest_85 : decode b_M_highest 85 = .ok (.aload_n 0, 1) := by decide +kernel
theorem d_M_highest_86 : decode b_M_highest 86 = .ok (.iload 4, 2) := by decide +kernel
theorem d_M_highest_88 : decode b_M_highest 88 = .ok (.invokevirtual 101, 3) := by decide +kernel
theorem d_M_highest_91 : decode b_M_highest 91 = .ok (.lreturn, 1) := by decide +kernel
theorem d_M_trip_0 : decode b_M_trip 0 = .ok (.aload_n 0, 1) := by decide +kernel
theorem d_M_trip_1 : decode b_M_trip 1 = .ok (.aload_n 0, 1) := by decide +kernel
theorem d_M_trip_2 : decode b_M_trip 2 = .ok (.iload_n 1, 1) := by decide +kernel
theorem d_M_trip_3 : decode b_M_trip 3 = .ok (.iload_n 2, 1) := by decide +kernel
theorem d_M_trip_4 : decode b_M_trip 4 = .ok (.iload_n 3, 1) := by decide +kernel
theorem d_M_trip_5 : decode b_M_trip 5 = .ok (.invokevirtual 98, 3) := by decide +kernel
theorem d_M_trip_8 : decode b_M_trip 8 = .ok (.ifCond .ne 13, 3) := by decide +kernel
theorem d_M_trip_11 : decode b_M_trip 11 = .ok (.iload 4, 2) := by decide +kernel
theorem d_M_trip_13 : decode b_M_trip 13 = .ok (.iconst 0, 1) := by decide +kernel
theorem d_M_trip_14 : decode b_M_trip 14 = .ok (.iconst 1, 1) := by decide +kernel
theorem d_M_trip_15 : decode b_M_trip 15 = .ok (.invokestatic 54, 3) := by decide +kernel
theorem d_M_trip_18 : decode b_M_trip 18 = .ok (.ifCond .ne 7, 3) := by decide +kernel
theorem d_M_trip_21 : decode b_M_trip 21 = .ok (.iconst 1, 1) := by decide +kernel
theorem d_M_trip_22 : decode b_M_trip 22 = .ok (.goto 4, 3) := by decide +kernel
theorem d_M_trip_25 : decode b_M_trip 25 = .ok (.iconst 0, 1) := by decide +kernel
theorem d_M_trip_26 : decode b_M_trip 26 = .ok (.putfield 47, 3) := by decide +kernel
theorem d_M_trip_29 : decode b_M_trip 29 = .ok (.aload_n 0, 1) := by decide +kernel
theorem d_M_trip_30 : decode b_M_trip 30 = .ok (.getfield 47, 3) := by decide +kernel
theorem d_M_trip_33 : decode b_M_trip 33 = .ok (.ifCond .le 5, 3) := by decide +kernel
theorem d_M_trip_36 : decode b_M_trip 36 = .ok (.lconst 0, 1) := by decide +kernel
theorem d_M_trip_37 : decode b_M_trip 37 = .ok (.lreturn, 1) := by decide +kernel
theorem d_M_trip_38 : decode b_M_trip 38 = .ok (.aload_n 0, 1) := by decide +kernel
theorem d_M_trip_39 : decode b_M_trip 39 = .ok (.iload_n 1, 1) := by decide +kernel
theorem d_M_trip_40 : decode b_M_trip 40 = .ok (.iload_n 2, 1) := by decide +kernel
theorem d_M_trip_41 : decode b_M_trip 41 = .ok (.iload_n 3, 1) := by decide +kernel
theorem d_M_trip_42 : decode b_M_trip 42 = .ok (.invokevirtual 105, 3) := by decide +kernel
theorem d_M_trip_45 : decode b_M_trip 45 = .ok (.aload_n 0, 1) := by decide +kernel
theorem d_M_trip_46 : decode b_M_trip 46 = .ok (.iload 4, 2) := by decide +kernel
theorem d_M_trip_48 : decode b_M_trip 48 = .ok (.invokevirtual 101, 3) := by decide +kernel
theorem d_M_trip_51 : decode b_M_trip 51 = .ok (.lreturn, 1) := by decide +kernel
theorem d_M_order_0 : decode b_M_order 0 = .ok (.lload_n 0, 1) := by decide +kernel
theorem d_M_order_1 : decode b_M_order 1 = .ok (.lstore 8, 2) := by decide +kernel
theorem d_M_order_3 : decode b_M_order 3 = .ok (.lload_n 2, 1) := by decide +kernel
theorem d_M_order_4 : decode b_M_order 4 = .ok (.lstore 10, 2) := by decide +kernel
theorem d_M_order_6 : decode b_M_order 6 = .ok (.lload 4, 2) := by decide +kernel
theorem d_M_order_8 : decode b_M_order 8 = .ok (.lstore 12, 2) := by decide +kernel
theorem d_M_order_10 : decode b_M_order 10 = .ok (.lload 6, 2) := by decide +kernel
theorem d_M_order_12 : decode b_M_order 12 = .ok (.lstore 14, 2) := by decide +kernel
theorem d_M_order_14 : decode b_M_order 14 = .ok (.iconst 1, 1) := by decide +kernel
theorem d_M_order_15 : decode b_M_order 15 = .ok (.istore 16, 2) := by decide +kernel
theorem d_M_order_17 : decode b_M_order 17 = .ok (.lload 8, 2) := by decide +kernel
theorem d_M_order_19 : decode b_M_order 19 = .ok (.lload 10, 2) := by decide +kernel
theorem d_M_order_21 : decode b_M_order 21 = .ok (.ldiv, 1) := by decide +kernel
theorem d_M_order_22 : decode b_M_order 22 = .ok (.lload 12, 2) := by decide +kernel
theorem d_M_order_24 : decode b_M_order 24 = .ok (.lload 14, 2) := by decide +kernel
theorem d_M_order_26 : decode b_M_order 26 = .ok (.ldiv, 1) := by decide +kernel
theorem d_M_order_27 : decode b_M_order 27 = .ok (.lcmp, 1) := by decide +kernel
theorem d_M_order_28 : decode b_M_order 28 = .ok (.ifCond .ne 83, 3) := by decide +kernel
theorem d_M_order_31 : decode b_M_order 31 = .ok (.lload 8, 2) := by decide +kernel
theorem d_M_order_33 : decode b_M_order 33 = .ok (.lload 10, 2) := by decide +kernel
theorem d_M_order_35 : decode b_M_order 35 = .ok (.lrem, 1) := by decide +kernel
theorem d_M_order_36 : decode b_M_order 36 = .ok (.lstore 17, 2) := by decide +kernel
theorem d_M_order_38 : decode b_M_order 38 = .ok (.lload 12, 2) := by decide +kernel
theorem d_M_order_40 : decode b_M_order 40 = .ok (.lload 14, 2) := by decide +kernel
theorem d_M_order_42 : decode b_M_order 42 = .ok (.lrem, 1) := by decide +kernel
theorem d_M_order_43 : decode b_M_order 43 = .ok (.lstore 19, 2) := by decide +kernel
theorem d_M_order_45 : decode b_M_order 45 = .ok (.lload 17, 2) := by decide +kernel
theorem d_M_order_47 : decode b_M_order 47 = .ok (.lconst 0, 1) := by decide +kernel
theorem d_M_order_48 : decode b_M_order 48 = .ok (.lcmp, 1) := by decide +kernel
theorem d_M_order_49 : decode b_M_order 49 = .ok (.ifCond .eq 10, 3) := by decide +kernel
theorem d_M_order_52 : decode b_M_order 52 = .ok (.lload 19, 2) := by decide +kernel
theorem d_M_order_54 : decode b_M_order 54 = .ok (.lconst 0, 1) := by decide +kernel
theorem d_M_order_55 : decode b_M_order 55 = .ok (.lcmp, 1) := by decide +kernel
theorem d_M_order_56 : decode b_M_order 56 = .ok (.ifCond .ne 31, 3) := by decide +kernel
theorem d_M_order_59 : decode b_M_order 59 = .ok (.lload 17, 2) := by decide +kernel
theorem d_M_order_61 : decode b_M_order 61 = .ok (.lload 19, 2) := by decide +kernel
theorem d_M_order_63 : decode b_M_order 63 = .ok (.lcmp, 1) := by decide +kernel
theorem d_M_order_64 : decode b_M_order 64 = .ok (.ifCond .ne 7, 3) := by decide +kernel
theorem d_M_order_67 : decode b_M_order 67 = .ok (.iconst 0, 1) := by decide +kernel
theorem d_M_order_68 : decode b_M_order 68 = .ok (.goto 18, 3) := by decide +kernel
theorem d_M_order_71 : decode b_M_order 71 = .ok (.lload 17, 2) := by decide +kernel
theorem d_M_order_73 : decode b_M_order 73 = .ok (.lconst 0, 1) := by decide +kernel
theorem d_M_order_74 : decode b_M_order 74 = .ok (.lcmp, 1) := by decide +kernel
theorem d_M_order_75 : decode b_M_order 75 = .ok (.ifCond .ne 9, 3) := by decide +kernel
theorem d_M_order_78 : decode b_M_order 78 = .ok (.iload 16, 2) := by decide +kernel
theorem d_M_order_80 : decode b_M_order 80 = .ok (.ineg, 1) := by decide +kernel
theorem d_M_order_81 : decode b_M_order 81 = .ok (.goto 5, 3) := by decide +kernel
theorem d_M_order_84 : decode b_M_order 84 = .ok (.iload 16, 2) := by decide +kernel
theorem d_M_order_86 : decode b_M_order 86 = .ok (.ireturn, 1) := by decide +kernel
theorem d_M_order_87 : decode b_M_order 87 = .ok (.lload 10, 2) := by decide +kernel
theorem d_M_order_89 : decode b_M_order 89 = .ok (.lstore 8, 2) := by decide +kernel
theorem d_M_order_91 : decode b_M_order 91 = .ok (.lload 17, 2) := by decide +kernel
theorem d_M_order_93 : decode b_M_order 93 = .ok (.lstore 10, 2) := by decide +kernel
theorem d_M_order_95 : decode b_M_order 95 = .ok (.lload 14, 2) := by decide +kernel
theorem d_M_order_97 : decode b_M_order 97 = .ok (.lstore 12, 2) := by decide +kernel
theorem d_M_order_99 : decode b_M_order 99 = .ok (.lload 19, 2) := by decide +kernel
theorem d_M_order_101 : decode b_M_order 101 = .ok (.lstore 14, 2) := by decide +kernel
theorem d_M_order_103 : decode b_M_order 103 = .ok (.iload 16, 2) := by decide +kernel
theorem d_M_order_105 : decode b_M_order 105 = .ok (.ineg, 1) := by decide +kernel
theorem d_M_order_106 : decode b_M_order 106 = .ok (.istore 16, 2) := by decide +kernel
theorem d_M_order_108 : decode b_M_order 108 = .ok (.goto (-91), 3) := by decide +kernel
theorem d_M_order_111 : decode b_M_order 111 = .ok (.lload 8, 2) := by decide +kernel
theorem d_M_order_113 : decode b_M_order 113 = .ok (.lload 10, 2) := by decide +kernel
theorem d_M_order_115 : decode b_M_order 115 = .ok (.ldiv, 1) := by decide +kernel
theorem d_M_order_116 : decode b_M_order 116 = .ok (.lload 12, 2) := by decide +kernel
theorem d_M_order_118 : decode b_M_order 118 = .ok (.lload 14, 2) := by decide +kernel
theorem d_M_order_120 : decode b_M_order 120 = .ok (.ldiv, 1) := by decide +kernel
theorem d_M_order_121 : decode b_M_order 121 = .ok (.lcmp, 1) := by decide +kernel
theorem d_M_order_122 : decode b_M_order 122 = .ok (.ifCond .ge 9, 3) := by decide +kernel
theorem d_M_order_125 : decode b_M_order 125 = .ok (.iload 16, 2) := by decide +kernel
theorem d_M_order_127 : decode b_M_order 127 = .ok (.ineg, 1) := by decide +kernel
theorem d_M_order_128 : decode b_M_order 128 = .ok (.goto 5, 3) := by decide +kernel
theorem d_M_order_131 : decode b_M_order 131 = .ok (.iload 16, 2) := by decide +kernel
theorem d_M_order_133 : decode b_M_order 133 = .ok (.ireturn, 1) := by decide +kernel
theorem d_M_compare_0 : decode b_M_compare 0 = .ok (.aload_n 0, 1) := by decide +kernel
theorem d_M_compare_1 : decode b_M_compare 1 = .ok (.aload_n 0, 1) := by decide +kernel
theorem d_M_compare_2 : decode b_M_compare 2 = .ok (.iload_n 1, 1) := by decide +kernel
theorem d_M_compare_3 : decode b_M_compare 3 = .ok (.iload_n 3, 1) := by decide +kernel
theorem d_M_compare_4 : decode b_M_compare 4 = .ok (.iload 4, 2) := by decide +kernel
theorem d_M_compare_6 : decode b_M_compare 6 = .ok (.invokevirtual 98, 3) := by decide +kernel
theorem d_M_compare_9 : decode b_M_compare 9 = .ok (.ifCond .ne 17, 3) := by decide +kernel
theorem d_M_compare_12 : decode b_M_compare 12 = .ok (.iload_n 2, 1) := by decide +kernel
theorem d_M_compare_13 : decode b_M_compare 13 = .ok (.iconst 0, 1) := by decide +kernel
theorem d_M_compare_14 : decode b_M_compare 14 = .ok (.aload_n 0, 1) := by decide +kernel
theorem d_M_compare_15 : decode b_M_compare 15 = .ok (.getfield 67, 3) := by decide +kernel
theorem d_M_compare_18 : decode b_M_compare 18 = .ok (.iconst 1, 1) := by decide +kernel
theorem d_M_compare_19 : decode b_M_compare 19 = .ok (.isub, 1) := by decide +kernel
theorem d_M_compare_20 : decode b_M_compare 20 = .ok (.invokestatic 54, 3) := by decide +kernel
theorem d_M_compare_23 : decode b_M_compare 23 = .ok (.ifCond .ne 7, 3) := by decide +kernel
theorem d_M_compare_26 : decode b_M_compare 26 = .ok (.iconst 1, 1) := by decide +kernel
theorem d_M_compare_27 : decode b_M_compare 27 = .ok (.goto 4, 3) := by decide +kernel
theorem d_M_compare_30 : decode b_M_compare 30 = .ok (.iconst 0, 1) := by decide +kernel
theorem d_M_compare_31 : decode b_M_compare 31 = .ok (.putfield 47, 3) := by decide +kernel
theorem d_M_compare_34 : decode b_M_compare 34 = .ok (.aload_n 0, 1) := by decide +kernel
theorem d_M_compare_35 : decode b_M_compare 35 = .ok (.getfield 47, 3) := by decide +kernel
theorem d_M_compare_38 : decode b_M_compare 38 = .ok (.ifCond .le 5, 3) := by decide +kernel
theorem d_M_compare_41 : decode b_M_compare 41 = .ok (.iconst 0, 1) := by decide +kernel
theorem d_M_compare_42 : decode b_M_compare 42 = .ok (.ireturn, 1) := by decide +kernel
theorem d_M_compare_43 : decode b_M_compare 43 = .ok (.aload_n 0, 1) := by decide +kernel
theorem d_M_compare_44 : decode b_M_compare 44 = .ok (.iload_n 1, 1) := by decide +kernel
theorem d_M_compare_45 : decode b_M_compare 45 = .ok (.iload_n 3, 1) := by decide +kernel
theorem d_M_compare_46 : decode b_M_compare 46 = .ok (.iload 4, 2) := by decide +kernel
theorem d_M_compare_48 : decode b_M_compare 48 = .ok (.invokevirtual 105, 3) := by decide +kernel
theorem d_M_compare_51 : decode b_M_compare 51 = .ok (.aload_n 0, 1) := by decide +kernel
theorem d_M_compare_52 : decode b_M_compare 52 = .ok (.getfield 78, 3) := by decide +kernel
theorem d_M_compare_55 : decode b_M_compare 55 = .ok (.lstore 5, 2) := by decide +kernel
theorem d_M_compare_57 : decode b_M_compare 57 = .ok (.aload_n 0, 1) := by decide +kernel
theorem d_M_compare_58 : decode b_M_compare 58 = .ok (.getfield 82, 3) := by decide +kernel
theorem d_M_compare_61 : decode b_M_compare 61 = .ok (.lstore 7, 2) := by decide +kernel
theorem d_M_compare_63 : decode b_M_compare 63 = .ok (.aload_n 0, 1) := by decide +kernel
theorem d_M_compare_64 : decode b_M_compare 64 = .ok (.iload_n 2, 1) := by decide +kernel
theorem d_M_compare_65 : decode b_M_compare 65 = .ok (.iload_n 3, 1) := by decide +kernel
theorem d_M_compare_66 : decode b_M_compare 66 = .ok (.iload 4, 2) := by decide +kernel
theorem d_M_compare_68 : decode b_M_compare 68 = .ok (.invokevirtual 105, 3) := by decide +kernel
theorem d_M_compare_71 : decode b_M_compare 71 = .ok (.lload 5, 2) := by decide +kernel
theorem d_M_compare_73 : decode b_M_compare 73 = .ok (.lload 7, 2) := by decide +kernel
theorem d_M_compare_75 : decode b_M_compare 75 = .ok (.aload_n 0, 1) := by decide +kernel
theorem d_M_compare_76 : decode b_M_compare 76 = .ok (.getfield 78, 3) := by decide +kernel
theorem d_M_compare_79 : decode b_M_compare 79 = .ok (.aload_n 0, 1) := by decide +kernel
theorem d_M_compare_80 : decode b_M_compare 80 = .ok (.getfield 82, 3) := by decide +kernel
theorem d_M_compare_83 : decode b_M_compare 83 = .ok (.invokestatic 109, 3) := by decide +kernel
theorem d_M_compare_86 : decode b_M_compare 86 = .ok (.ireturn, 1) := by decide +kernel
theorem d_M_carriedBy_0 : decode b_M_carriedBy 0 = .ok (.aload_n 0, 1) := by decide +kernel
theorem d_M_carriedBy_1 : decode b_M_carriedBy 1 = .ok (.iload_n 2, 1) := by decide +kernel
theorem d_M_carriedBy_2 : decode b_M_carriedBy 2 = .ok (.iconst 1, 1) := by decide +kernel
theorem d_M_carriedBy_3 : decode b_M_carriedBy 3 = .ok (.aload_n 0, 1) := by decide +kernel
theorem d_M_carriedBy_4 : decode b_M_carriedBy 4 = .ok (.getfield 51, 3) := by decide +kernel
theorem d_M_carriedBy_7 : decode b_M_carriedBy 7 = .ok (.invokevirtual 105, 3) := by decide +kernel
theorem d_M_carriedBy_10 : decode b_M_carriedBy 10 = .ok (.aload_n 0, 1) := by decide +kernel
theorem d_M_carriedBy_11 : decode b_M_carriedBy 11 = .ok (.getfield 78, 3) := by decide +kernel
theorem d_M_carriedBy_14 : decode b_M_carriedBy 14 = .ok (.lconst 0, 1) := by decide +kernel
theorem d_M_carriedBy_15 : decode b_M_carriedBy 15 = .ok (.lcmp, 1) := by decide +kernel
theorem d_M_carriedBy_16 : decode b_M_carriedBy 16 = .ok (.ifCond .ne 7, 3) := by decide +kernel
theorem d_M_carriedBy_19 : decode b_M_carriedBy 19 = .ok (.lconst 0, 1) := by decide +kernel
theorem d_M_carriedBy_20 : decode b_M_carriedBy 20 = .ok (.goto 27, 3) := by decide +kernel
theorem d_M_carriedBy_23 : decode b_M_carriedBy 23 = .ok (.ldc2_w 113, 3) := by decide +kernel
theorem d_M_carriedBy_26 : decode b_M_carriedBy 26 = .ok (.iload_n 1, 1) := by decide +kernel
theorem d_M_carriedBy_27 : decode b_M_carriedBy 27 = .ok (.i2l, 1) := by decide +kernel
theorem d_M_carriedBy_28 : decode b_M_carriedBy 28 = .ok (.lmul, 1) := by decide +kernel
theorem d_M_carriedBy_29 : decode b_M_carriedBy 29 = .ok (.aload_n 0, 1) := by decide +kernel
theorem d_M_carriedBy_30 : decode b_M_carriedBy 30 = .ok (.getfield 16, 3) := by decide +kernel
theorem d_M_carriedBy_33 : decode b_M_carriedBy 33 = .ok (.iload_n 2, 1) := by decide +kernel
theorem d_M_carriedBy_34 : decode b_M_carriedBy 34 = .ok (.iaload, 1) := by decide +kernel
theorem d_M_carriedBy_35 : decode b_M_carriedBy 35 = .ok (.i2l, 1) := by decide +kernel
theorem d_M_carriedBy_36 : decode b_M_carriedBy 36 = .ok (.lmul, 1) := by decide +kernel
theorem d_M_carriedBy_37 : decode b_M_carriedBy 37 = .ok (.aload_n 0, 1) := by decide +kernel
theorem d_M_carriedBy_38 : decode b_M_carriedBy 38 = .ok (.getfield 82, 3) := by decide +kernel
theorem d_M_carriedBy_41 : decode b_M_carriedBy 41 = .ok (.lmul, 1) := by decide +kernel
theorem d_M_carriedBy_42 : decode b_M_carriedBy 42 = .ok (.aload_n 0, 1) := by decide +kernel
theorem d_M_carriedBy_43 : decode b_M_carriedBy 43 = .ok (.getfield 78, 3) := by decide +kernel
theorem d_M_carriedBy_46 : decode b_M_carriedBy 46 = .ok (.ldiv, 1) := by decide +kernel
theorem d_M_carriedBy_47 : decode b_M_carriedBy 47 = .ok (.lreturn, 1) := by decide +kernel
theorem d_M_carried_0 : decode b_M_carried 0 = .ok (.aload_n 0, 1) := by decide +kernel
theorem d_M_carried_1 : decode b_M_carried 1 = .ok (.iload_n 1, 1) := by decide +kernel
theorem d_M_carried_2 : decode b_M_carried 2 = .ok (.iconst 1, 1) := by decide +kernel
theorem d_M_carried_3 : decode b_M_carried 3 = .ok (.bipush 6, 2) := by decide +kernel
theorem d_M_carried_5 : decode b_M_carried 5 = .ok (.invokestatic 54, 3) := by decide +kernel
theorem d_M_carried_8 : decode b_M_carried 8 = .ok (.ifCond .eq 17, 3) := by decide +kernel
theorem d_M_carried_11 : decode b_M_carried 11 = .ok (.iload_n 2, 1) := by decide +kernel
theorem d_M_carried_12 : decode b_M_carried 12 = .ok (.iconst 0, 1) := by decide +kernel
theorem d_M_carried_13 : decode b_M_carried 13 = .ok (.aload_n 0, 1) := by decide +kernel
theorem d_M_carried_14 : decode b_M_carried 14 = .ok (.getfield 67, 3) := by decide +kernel
theorem d_M_carried_17 : decode b_M_carried 17 = .ok (.iconst 1, 1) := by decide +kernel
theorem d_M_carried_18 : decode b_M_carried 18 = .ok (.isub, 1) := by decide +kernel
theorem d_M_carried_19 : decode b_M_carried 19 = .ok (.invokestatic 54, 3) := by decide +kernel
theorem d_M_carried_22 : decode b_M_carried 22 = .ok (.ifCond .ne 7, 3) := by decide +kernel
theorem d_M_carried_25 : decode b_M_carried 25 = .ok (.iconst 1, 1) := by decide +kernel
theorem d_M_carried_26 : decode b_M_carried 26 = .ok (.goto 15, 3) := by decide +kernel
theorem d_M_carried_29 : decode b_M_carried 29 = .ok (.aload_n 0, 1) := by decide +kernel
theorem d_M_carried_30 : decode b_M_carried 30 = .ok (.getfield 51, 3) := by decide +kernel
theorem d_M_carried_33 : decode b_M_carried 33 = .ok (.ifCond .ne 7, 3) := by decide +kernel
theorem d_M_carried_36 : decode b_M_carried 36 = .ok (.iconst 2, 1) := by decide +kernel
theorem d_M_carried_37 : decode b_M_carried 37 = .ok (.goto 4, 3) := by decide +kernel
theorem d_M_carried_40 : decode b_M_carried 40 = .ok (.iconst 0, 1) := by decide +kernel
theorem d_M_carried_41 : decode b_M_carried 41 = .ok (.putfield 47, 3) := by decide +kernel
theorem d_M_carried_44 : decode b_M_carried 44 = .ok (.aload_n 0, 1) := by decide +kernel
theorem d_M_carried_45 : decode b_M_carried 45 = .ok (.getfield 47, 3) := by decide +kernel
theorem d_M_carried_48 : decode b_M_carried 48 = .ok (.ifCond .le 7, 3) := by decide +kernel
theorem d_M_carried_51 : decode b_M_carried 51 = .ok (.lconst 0, 1) := by decide +kernel
theorem d_M_carried_52 : decode b_M_carried 52 = .ok (.goto 9, 3) := by decide +kernel
theorem d_M_carried_55 : decode b_M_carried 55 = .ok (.aload_n 0, 1) := by decide +kernel
theorem d_M_carried_56 : decode b_M_carried 56 = .ok (.iload_n 1, 1) := by decide +kernel
theorem d_M_carried_57 : decode b_M_carried 57 = .ok (.iload_n 2, 1) := by decide +kernel
theorem d_M_carried_58 : decode b_M_carried 58 = .ok (.invokevirtual 115, 3) := by decide +kernel
theorem d_M_carried_61 : decode b_M_carried 61 = .ok (.lreturn, 1) := by decide +kernel
theorem d_M_cheapest_0 : decode b_M_cheapest 0 = .ok (.aload_n 0, 1) := by decide +kernel
theorem d_M_cheapest_1 : decode b_M_cheapest 1 = .ok (.iload_n 1, 1) := by decide +kernel
theorem d_M_cheapest_2 : decode b_M_cheapest 2 = .ok (.ifCond .ge 7, 3) := by decide +kernel
theorem d_M_cheapest_5 : decode b_M_cheapest 5 = .ok (.iconst 1, 1) := by decide +kernel
theorem d_M_cheapest_6 : decode b_M_cheapest 6 = .ok (.goto 15, 3) := by decide +kernel
theorem d_M_cheapest_9 : decode b_M_cheapest 9 = .ok (.aload_n 0, 1) := by decide +kernel
theorem d_M_cheapest_10 : decode b_M_cheapest 10 = .ok (.getfield 51, 3) := by decide +kernel
theorem d_M_cheapest_13 : decode b_M_cheapest 13 = .ok (.ifCond .ne 7, 3) := by decide +kernel
theorem d_M_cheapest_16 : decode b_M_cheapest 16 = .ok (.iconst 2, 1) := by decide +kernel
theorem d_M_cheapest_17 : decode b_M_cheapest 17 = .ok (.goto 4, 3) := by decide +kernel
theorem d_M_cheapest_20 : decode b_M_cheapest 20 = .ok (.iconst 0, 1) := by decide +kernel
theorem d_M_cheapest_21 : decode b_M_cheapest 21 = .ok (.putfield 47, 3) := by decide +kernel
theorem d_M_cheapest_24 : decode b_M_cheapest 24 = .ok (.iconst (-1), 1) := by decide +kernel
theorem d_M_cheapest_25 : decode b_M_cheapest 25 = .ok (.istore_n 2, 1) := by decide +kernel
theorem d_M_cheapest_26 : decode b_M_cheapest 26 = .ok (.iconst 0, 1) := by decide +kernel
theorem d_M_cheapest_27 : decode b_M_cheapest 27 = .ok (.istore_n 3, 1) := by decide +kernel
theorem d_M_cheapest_28 : decode b_M_cheapest 28 = .ok (.iconst 1, 1) := by decide +kernel
theorem d_M_cheapest_29 : decode b_M_cheapest 29 = .ok (.istore 4, 2) := by decide +kernel
theorem d_M_cheapest_31 : decode b_M_cheapest 31 = .ok (.iload 4, 2) := by decide +kernel
theorem d_M_cheapest_33 : decode b_M_cheapest 33 = .ok (.bipush 6, 2) := by decide +kernel
theorem d_M_cheapest_35 : decode b_M_cheapest 35 = .ok (.if_icmp .gt 99, 3) := by decide +kernel
theorem d_M_cheapest_38 : decode b_M_cheapest 38 = .ok (.aload_n 0, 1) := by decide +kernel
theorem d_M_cheapest_39 : decode b_M_cheapest 39 = .ok (.getfield 47, 3) := by decide +kernel
theorem d_M_cheapest_42 : decode b_M_cheapest 42 = .ok (.ifCond .ne 92, 3) := by decide +kernel
theorem d_M_cheapest_45 : decode b_M_cheapest 45 = .ok (.iconst 0, 1) := by decide +kernel
theorem d_M_cheapest_46 : decode b_M_cheapest 46 = .ok (.istore 5, 2) := by decide +kernel
theorem d_M_cheapest_48 : decode b_M_cheapest 48 = .ok (.iload 5, 2) := by decide +kernel
theorem d_M_cheapest_50 : decode b_M_cheapest 50 = .ok (.aload_n 0, 1) := by decide +kernel
theorem d_M_cheapest_51 : decode b_M_cheapest 51 = .ok (.getfield 67, 3) := by decide +kernel
theorem d_M_cheapest_54 : decode b_M_cheapest 54 = .ok (.if_icmp .ge 74, 3) := by decide +kernel
theorem d_M_cheapest_57 : decode b_M_cheapest 57 = .ok (.iload_n 2, 1) := by decide +kernel
theorem d_M_cheapest_58 : decode b_M_cheapest 58 = .ok (.iconst (-1), 1) := by decide +kernel
theorem d_M_cheapest_59 : decode b_M_cheapest 59 = .ok (.if_icmp .eq 17, 3) := by decide +kernel
theorem d_M_cheapest_62 : decode b_M_cheapest 62 = .ok (.iload 4, 2) := by decide +kernel
theorem d_M_cheapest_64 : decode b_M_cheapest 64 = .ok (.aload_n 0, 1) := by decide +kernel
theorem d_M_cheapest_65 : decode b_M_cheapest 65 = .ok (.getfield 28, 3) := by decide +kernel
theorem d_M_cheapest_68 : decode b_M_cheapest 68 = .ok (.iload 5, 2) := by decide +kernel
theorem d_M_cheapest_70 : decode b_M_cheapest 70 = .ok (.iaload, 1) := by decide +kernel
theorem d_M_cheapest_71 : decode b_M_cheapest 71 = .ok (.imul, 1) := by decide +kernel
theorem d_M_cheapest_72 : decode b_M_cheapest 72 = .ok (.iload_n 3, 1) := by decide +kernel
theorem d_M_cheapest_73 : decode b_M_cheapest 73 = .ok (.if_icmp .ge 7, 3) := by decide +kernel
theorem d_M_cheapest_76 : decode b_M_cheapest 76 = .ok (.iconst 1, 1) := by decide +kernel
theorem d_M_cheapest_77 : decode b_M_cheapest 77 = .ok (.goto 4, 3) := by decide +kernel
theorem d_M_cheapest_80 : decode b_M_cheapest 80 = .ok (.iconst 0, 1) := by decide +kernel
theorem d_M_cheapest_81 : decode b_M_cheapest 81 = .ok (.istore 6, 2) := by decide +kernel
theorem d_M_cheapest_83 : decode b_M_cheapest 83 = .ok (.iload 6, 2) := by decide +kernel
theorem d_M_cheapest_85 : decode b_M_cheapest 85 = .ok (.ifCond .eq 37, 3) := by decide +kernel
theorem d_M_cheapest_88 : decode b_M_cheapest 88 = .ok (.aload_n 0, 1) := by decide +kernel
theorem d_M_cheapest_89 : decode b_M_cheapest 89 = .ok (.iload 4, 2) := by decide +kernel
theorem d_M_cheapest_91 : decode b_M_cheapest 91 = .ok (.iload 5, 2) := by decide +kernel
theorem d_M_cheapest_93 : decode b_M_cheapest 93 = .ok (.invokevirtual 115, 3) := by decide +kernel
theorem d_M_cheapest_96 : decode b_M_cheapest 96 = .ok (.iload_n 1, 1) := by decide +kernel
theorem d_M_cheapest_97 : decode b_M_cheapest 97 = .ok (.i2l, 1) := by decide +kernel
theorem d_M_cheapest_98 : decode b_M_cheapest 98 = .ok (.lcmp, 1) := by decide +kernel
theorem d_M_cheapest_99 : decode b_M_cheapest 99 = .ok (.ifCond .lt 23, 3) := by decide +kernel
theorem d_M_cheapest_102 : decode b_M_cheapest 102 = .ok (.bipush 10, 2) := by decide +kernel
theorem d_M_cheapest_104 : decode b_M_cheapest 104 = .ok (.iload 5, 2) := by decide +kernel
theorem d_M_cheapest_106 : decode b_M_cheapest 106 = .ok (.imul, 1) := by decide +kernel
theorem d_M_cheapest_107 : decode b_M_cheapest 107 = .ok (.iload 4, 2) := by decide +kernel
theorem d_M_cheapest_109 : decode b_M_cheapest 109 = .ok (.iadd, 1) := by decide +kernel
theorem d_M_cheapest_110 : decode b_M_cheapest 110 = .ok (.istore_n 2, 1) := by decide +kernel
theorem d_M_cheapest_111 : decode b_M_cheapest 111 = .ok (.iload 4, 2) := by decide +kernel
theorem d_M_cheapest_113 : decode b_M_cheapest 113 = .ok (.aload_n 0, 1) := by decide +kernel
theorem d_M_cheapest_114 : decode b_M_cheapest 114 = .ok (.getfield 28, 3) := by decide +kernel
theorem d_M_cheapest_117 : decode b_M_cheapest 117 = .ok (.iload 5, 2) := by decide +kernel
theorem d_M_cheapest_119 : decode b_M_cheapest 119 = .ok (.iaload, 1) := by decide +kernel
theorem d_M_cheapest_120 : decode b_M_cheapest 120 = .ok (.imul, 1) := by decide +kernel
theorem d_M_cheapest_121 : decode b_M_cheapest 121 = .ok (.istore_n 3, 1) := by decide +kernel
theorem d_M_cheapest_122 : decode b_M_cheapest 122 = .ok (.iinc 5 1, 3) := by decide +kernel
theorem d_M_cheapest_125 : decode b_M_cheapest 125 = .ok (.goto (-77), 3) := by decide +kernel
theorem d_M_cheapest_128 : decode b_M_cheapest 128 = .ok (.iinc 4 1, 3) := by decide +kernel
theorem d_M_cheapest_131 : decode b_M_cheapest 131 = .ok (.goto (-100), 3) := by decide +kernel
theorem d_M_cheapest_134 : decode b_M_cheapest 134 = .ok (.aload_n 0, 1) := by decide +kernel
theorem d_M_cheapest_135 : decode b_M_cheapest 135 = .ok (.getfield 47, 3) := by decide +kernel
theorem d_M_cheapest_138 : decode b_M_cheapest 138 = .ok (.ifCond .le 7, 3) := by decide +kernel
theorem d_M_cheapest_141 : decode b_M_cheapest 141 = .ok (.iconst 0, 1) := by decide +kernel
theorem d_M_cheapest_142 : decode b_M_cheapest 142 = .ok (.goto 4, 3) := by decide +kernel
theorem d_M_cheapest_145 : decode b_M_cheapest 145 = .ok (.iload_n 2, 1) := by decide +kernel
theorem d_M_cheapest_146 : decode b_M_cheapest 146 = .ok (.ireturn, 1) := by decide +kernel
theorem d_M_longest_0 : decode b_M_longest 0 = .ok (.iconst (-1), 1) := by decide +kernel
theorem d_M_longest_1 : decode b_M_longest 1 = .ok (.istore_n 2, 1) := by decide +kernel
theorem d_M_longest_2 : decode b_M_longest 2 = .ok (.iconst 1, 1) := by decide +kernel
theorem d_M_longest_3 : decode b_M_longest 3 = .ok (.istore_n 3, 1) := by decide +kernel
theorem d_M_longest_4 : decode b_M_longest 4 = .ok (.iconst 0, 1) := by decide +kernel
theorem d_M_longest_5 : decode b_M_longest 5 = .ok (.istore 4, 2) := by decide +kernel
theorem d_M_longest_7 : decode b_M_longest 7 = .ok (.iload 4, 2) := by decide +kernel
theorem d_M_longest_9 : decode b_M_longest 9 = .ok (.iload_n 1, 1) := by decide +kernel
theorem d_M_longest_10 : decode b_M_longest 10 = .ok (.if_icmp .ge 73, 3) := by decide +kernel
theorem d_M_longest_13 : decode b_M_longest 13 = .ok (.bipush 13, 2) := by decide +kernel
theorem d_M_longest_15 : decode b_M_longest 15 = .ok (.iload_n 3, 1) := by decide +kernel
theorem d_M_longest_16 : decode b_M_longest 16 = .ok (.imul, 1) := by decide +kernel
theorem d_M_longest_17 : decode b_M_longest 17 = .ok (.aload_n 0, 1) := by decide +kernel
theorem d_M_longest_18 : decode b_M_longest 18 = .ok (.getfield 38, 3) := by decide +kernel
theorem d_M_longest_21 : decode b_M_longest 21 = .ok (.iload 4, 2) := by decide +kernel
theorem d_M_longest_23 : decode b_M_longest 23 = .ok (.iaload, 1) := by decide +kernel
theorem d_M_longest_24 : decode b_M_longest 24 = .ok (.iadd, 1) := by decide +kernel
theorem d_M_longest_25 : decode b_M_longest 25 = .ok (.istore 5, 2) := by decide +kernel
theorem d_M_longest_27 : decode b_M_longest 27 = .ok (.iload_n 2, 1) := by decide +kernel
theorem d_M_longest_28 : decode b_M_longest 28 = .ok (.iconst (-1), 1) := by decide +kernel
theorem d_M_longest_29 : decode b_M_longest 29 = .ok (.if_icmp .eq 35, 3) := by decide +kernel
theorem d_M_longest_32 : decode b_M_longest 32 = .ok (.aload_n 0, 1) := by decide +kernel
theorem d_M_longest_33 : decode b_M_longest 33 = .ok (.getfield 31, 3) := by decide +kernel
theorem d_M_longest_36 : decode b_M_longest 36 = .ok (.iload 5, 2) := by decide +kernel
theorem d_M_longest_38 : decode b_M_longest 38 = .ok (.laload, 1) := by decide +kernel
theorem d_M_longest_39 : decode b_M_longest 39 = .ok (.aload_n 0, 1) := by decide +kernel
theorem d_M_longest_40 : decode b_M_longest 40 = .ok (.getfield 35, 3) := by decide +kernel
theorem d_M_longest_43 : decode b_M_longest 43 = .ok (.iload 5, 2) := by decide +kernel
theorem d_M_longest_45 : decode b_M_longest 45 = .ok (.laload, 1) := by decide +kernel
theorem d_M_longest_46 : decode b_M_longest 46 = .ok (.aload_n 0, 1) := by decide +kernel
theorem d_M_longest_47 : decode b_M_longest 47 = .ok (.getfield 31, 3) := by decide +kernel
theorem d_M_longest_50 : decode b_M_longest 50 = .ok (.iload_n 2, 1) := by decide +kernel
theorem d_M_longest_51 : decode b_M_longest 51 = .ok (.laload, 1) := by decide +kernel
theorem d_M_longest_52 : decode b_M_longest 52 = .ok (.aload_n 0, 1) := by decide +kernel
theorem d_M_longest_53 : decode b_M_longest 53 = .ok (.getfield 35, 3) := by decide +kernel
theorem d_M_longest_56 : decode b_M_longest 56 = .ok (.iload_n 2, 1) := by decide +kernel
theorem d_M_longest_57 : decode b_M_longest 57 = .ok (.laload, 1) := by decide +kernel
theorem d_M_longest_58 : decode b_M_longest 58 = .ok (.invokestatic 109, 3) := by decide +kernel
theorem d_M_longest_61 : decode b_M_longest 61 = .ok (.ifCond .le 6, 3) := by decide +kernel
theorem d_M_longest_64 : decode b_M_longest 64 = .ok (.iload 5, 2) := by decide +kernel
theorem d_M_longest_66 : decode b_M_longest 66 = .ok (.istore_n 2, 1) := by decide +kernel
theorem d_M_longest_67 : decode b_M_longest 67 = .ok (.aload_n 0, 1) := by decide +kernel
theorem d_M_longest_68 : decode b_M_longest 68 = .ok (.getfield 38, 3) := by decide +kernel
theorem d_M_longest_71 : decode b_M_longest 71 = .ok (.iload 4, 2) := by decide +kernel
theorem d_M_longest_73 : decode b_M_longest 73 = .ok (.iaload, 1) := by decide +kernel
theorem d_M_longest_74 : decode b_M_longest 74 = .ok (.iconst 1, 1) := by decide +kernel
theorem d_M_longest_75 : decode b_M_longest 75 = .ok (.iadd, 1) := by decide +kernel
theorem d_M_longest_76 : decode b_M_longest 76 = .ok (.istore_n 3, 1) := by decide +kernel
theorem d_M_longest_77 : decode b_M_longest 77 = .ok (.iinc 4 1, 3) := by decide +kernel
theorem d_M_longest_80 : decode b_M_longest 80 = .ok (.goto (-73), 3) := by decide +kernel
theorem d_M_longest_83 : decode b_M_longest 83 = .ok (.iload_n 2, 1) := by decide +kernel
theorem d_M_longest_84 : decode b_M_longest 84 = .ok (.ireturn, 1) := by decide +kernel
theorem d_M_nextEnds_0 : decode b_M_nextEnds 0 = .ok (.iload_n 1, 1) := by decide +kernel
theorem d_M_nextEnds_1 : decode b_M_nextEnds 1 = .ok (.iconst 2, 1) := by decide +kernel
theorem d_M_nextEnds_2 : decode b_M_nextEnds 2 = .ok (.isub, 1) := by decide +kernel
theorem d_M_nextEnds_3 : decode b_M_nextEnds 3 = .ok (.istore_n 2, 1) := by decide +kernel
theorem d_M_nextEnds_4 : decode b_M_nextEnds 4 = .ok (.iload_n 2, 1) := by decide +kernel
theorem d_M_nextEnds_5 : decode b_M_nextEnds 5 = .ok (.ifCond .lt 28, 3) := by decide +kernel
theorem d_M_nextEnds_8 : decode b_M_nextEnds 8 = .ok (.aload_n 0, 1) := by decide +kernel
theorem d_M_nextEnds_9 : decode b_M_nextEnds 9 = .ok (.getfield 38, 3) := by decide +kernel
theorem d_M_nextEnds_12 : decode b_M_nextEnds 12 = .ok (.iload_n 2, 1) := by decide +kernel
theorem d_M_nextEnds_13 : decode b_M_nextEnds 13 = .ok (.iaload, 1) := by decide +kernel
theorem d_M_nextEnds_14 : decode b_M_nextEnds 14 = .ok (.aload_n 0, 1) := by decide +kernel
theorem d_M_nextEnds_15 : decode b_M_nextEnds 15 = .ok (.getfield 51, 3) := by decide +kernel
theorem d_M_nextEnds_18 : decode b_M_nextEnds 18 = .ok (.iload_n 1, 1) := by decide +kernel
theorem d_M_nextEnds_19 : decode b_M_nextEnds 19 = .ok (.iconst 1, 1) := by decide +kernel
theorem d_M_nextEnds_20 : decode b_M_nextEnds 20 = .ok (.isub, 1) := by decide +kernel
theorem d_M_nextEnds_21 : decode b_M_nextEnds 21 = .ok (.iload_n 2, 1) := by decide +kernel
theorem d_M_nextEnds_22 : decode b_M_nextEnds 22 = .ok (.isub, 1) := by decide +kernel
theorem d_M_nextEnds_23 : decode b_M_nextEnds 23 = .ok (.isub, 1) := by decide +kernel
theorem d_M_nextEnds_24 : decode b_M_nextEnds 24 = .ok (.if_icmp .ne 9, 3) := by decide +kernel
theorem d_M_nextEnds_27 : decode b_M_nextEnds 27 = .ok (.iinc 2 (-1), 3) := by decide +kernel
theorem d_M_nextEnds_30 : decode b_M_nextEnds 30 = .ok (.goto (-26), 3) := by decide +kernel
theorem d_M_nextEnds_33 : decode b_M_nextEnds 33 = .ok (.iload_n 2, 1) := by decide +kernel
theorem d_M_nextEnds_34 : decode b_M_nextEnds 34 = .ok (.ifCond .ge 5, 3) := by decide +kernel
theorem d_M_nextEnds_37 : decode b_M_nextEnds 37 = .ok (.iconst 0, 1) := by decide +kernel
theorem d_M_nextEnds_38 : decode b_M_nextEnds 38 = .ok (.ireturn, 1) := by decide +kernel
theorem d_M_nextEnds_39 : decode b_M_nextEnds 39 = .ok (.aload_n 0, 1) := by decide +kernel
theorem d_M_nextEnds_40 : decode b_M_nextEnds 40 = .ok (.getfield 38, 3) := by decide +kernel
theorem d_M_nextEnds_43 : decode b_M_nextEnds 43 = .ok (.iload_n 2, 1) := by decide +kernel
theorem d_M_nextEnds_44 : decode b_M_nextEnds 44 = .ok (.dup2, 1) := by decide +kernel
theorem d_M_nextEnds_45 : decode b_M_nextEnds 45 = .ok (.iaload, 1) := by decide +kernel
theorem d_M_nextEnds_46 : decode b_M_nextEnds 46 = .ok (.iconst 1, 1) := by decide +kernel
theorem d_M_nextEnds_47 : decode b_M_nextEnds 47 = .ok (.iadd, 1) := by decide +kernel
theorem d_M_nextEnds_48 : decode b_M_nextEnds 48 = .ok (.iastore, 1) := by decide +kernel
theorem d_M_nextEnds_49 : decode b_M_nextEnds 49 = .ok (.iload_n 2, 1) := by decide +kernel
theorem d_M_nextEnds_50 : decode b_M_nextEnds 50 = .ok (.iconst 1, 1) := by decide +kernel
theorem d_M_nextEnds_51 : decode b_M_nextEnds 51 = .ok (.iadd, 1) := by decide +kernel
theorem d_M_nextEnds_52 : decode b_M_nextEnds 52 = .ok (.istore_n 3, 1) := by decide +kernel
theorem d_M_nextEnds_53 : decode b_M_nextEnds 53 = .ok (.iload_n 3, 1) := by decide +kernel
theorem d_M_nextEnds_54 : decode b_M_nextEnds 54 = .ok (.iload_n 1, 1) := by decide +kernel
theorem d_M_nextEnds_55 : decode b_M_nextEnds 55 = .ok (.iconst 1, 1) := by decide +kernel
theorem d_M_nextEnds_56 : decode b_M_nextEnds 56 = .ok (.isub, 1) := by decide +kernel
theorem d_M_nextEnds_57 : decode b_M_nextEnds 57 = .ok (.if_icmp .ge 25, 3) := by decide +kernel
theorem d_M_nextEnds_60 : decode b_M_nextEnds 60 = .ok (.aload_n 0, 1) := by decide +kernel
theorem d_M_nextEnds_61 : decode b_M_nextEnds 61 = .ok (.getfield 38, 3) := by decide +kernel
theorem d_M_nextEnds_64 : decode b_M_nextEnds 64 = .ok (.iload_n 3, 1) := by decide +kernel
theorem d_M_nextEnds_65 : decode b_M_nextEnds 65 = .ok (.aload_n 0, 1) := by decide +kernel
theorem d_M_nextEnds_66 : decode b_M_nextEnds 66 = .ok (.getfield 38, 3) := by decide +kernel
theorem d_M_nextEnds_69 : decode b_M_nextEnds 69 = .ok (.iload_n 3, 1) := by decide +kernel
theorem d_M_nextEnds_70 : decode b_M_nextEnds 70 = .ok (.iconst 1, 1) := by decide +kernel
theorem d_M_nextEnds_71 : decode b_M_nextEnds 71 = .ok (.isub, 1) := by decide +kernel
theorem d_M_nextEnds_72 : decode b_M_nextEnds 72 = .ok (.iaload, 1) := by decide +kernel
theorem d_M_nextEnds_73 : decode b_M_nextEnds 73 = .ok (.iconst 1, 1) := by decide +kernel
theorem d_M_nextEnds_74 : decode b_M_nextEnds 74 = .ok (.iadd, 1) := by decide +kernel
theorem d_M_nextEnds_75 : decode b_M_nextEnds 75 = .ok (.iastore, 1) := by decide +kernel
theorem d_M_nextEnds_76 : decode b_M_nextEnds 76 = .ok (.iinc 3 1, 3) := by decide +kernel
theorem d_M_nextEnds_79 : decode b_M_nextEnds 79 = .ok (.goto (-26), 3) := by decide +kernel
theorem d_M_nextEnds_82 : decode b_M_nextEnds 82 = .ok (.iconst 1, 1) := by decide +kernel
theorem d_M_nextEnds_83 : decode b_M_nextEnds 83 = .ok (.ireturn, 1) := by decide +kernel
theorem d_M_split_0 : decode b_M_split 0 = .ok (.aload_n 0, 1) := by decide +kernel
theorem d_M_split_1 : decode b_M_split 1 = .ok (.iload_n 1, 1) := by decide +kernel
theorem d_M_split_2 : decode b_M_split 2 = .ok (.iconst 0, 1) := by decide +kernel
theorem d_M_split_3 : decode b_M_split 3 = .ok (.aload_n 0, 1) := by decide +kernel
theorem d_M_split_4 : decode b_M_split 4 = .ok (.getfield 67, 3) := by decide +kernel
theorem d_M_split_7 : decode b_M_split 7 = .ok (.iconst 1, 1) := by decide +kernel
theorem d_M_split_8 : decode b_M_split 8 = .ok (.isub, 1) := by decide +kernel
theorem d_M_split_9 : decode b_M_split 9 = .ok (.invokestatic 54, 3) := by decide +kernel
theorem d_M_split_12 : decode b_M_split 12 = .ok (.ifCond .eq 23, 3) := by decide +kernel
theorem d_M_split_15 : decode b_M_split 15 = .ok (.iload_n 2, 1) := by decide +kernel
theorem d_M_split_16 : decode b_M_split 16 = .ok (.iconst 1, 1) := by decide +kernel
theorem d_M_split_17 : decode b_M_split 17 = .ok (.iconst 4, 1) := by decide +kernel
theorem d_M_split_18 : decode b_M_split 18 = .ok (.invokestatic 54, 3) := by decide +kernel
theorem d_M_split_21 : decode b_M_split 21 = .ok (.ifCond .eq 14, 3) := by decide +kernel
theorem d_M_split_24 : decode b_M_split 24 = .ok (.iload_n 3, 1) := by decide +kernel
theorem d_M_split_25 : decode b_M_split 25 = .ok (.iconst 0, 1) := by decide +kernel
theorem d_M_split_26 : decode b_M_split 26 = .ok (.iload_n 2, 1) := by decide +kernel
theorem d_M_split_27 : decode b_M_split 27 = .ok (.iconst 1, 1) := by decide +kernel
theorem d_M_split_28 : decode b_M_split 28 = .ok (.isub, 1) := by decide +kernel
theorem d_M_split_29 : decode b_M_split 29 = .ok (.invokestatic 54, 3) := by decide +kernel
theorem d_M_split_32 : decode b_M_split 32 = .ok (.ifCond .ne 7, 3) := by decide +kernel
theorem d_M_split_35 : decode b_M_split 35 = .ok (.iconst 1, 1) := by decide +kernel
theorem d_M_split_36 : decode b_M_split 36 = .ok (.goto 16, 3) := by decide +kernel
theorem d_M_split_39 : decode b_M_split 39 = .ok (.aload_n 0, 1) := by decide +kernel
theorem d_M_split_40 : decode b_M_split 40 = .ok (.getfield 51, 3) := by decide +kernel
theorem d_M_split_43 : decode b_M_split 43 = .ok (.iload_n 2, 1) := by decide +kernel
theorem d_M_split_44 : decode b_M_split 44 = .ok (.if_icmp .ge 7, 3) := by decide +kernel
theorem d_M_split_47 : decode b_M_split 47 = .ok (.iconst 2, 1) := by decide +kernel
theorem d_M_split_48 : decode b_M_split 48 = .ok (.goto 4, 3) := by decide +kernel
theorem d_M_split_51 : decode b_M_split 51 = .ok (.iconst 0, 1) := by decide +kernel
theorem d_M_split_52 : decode b_M_split 52 = .ok (.putfield 47, 3) := by decide +kernel
theorem d_M_split_55 : decode b_M_split 55 = .ok (.aload_n 0, 1) := by decide +kernel
theorem d_M_split_56 : decode b_M_split 56 = .ok (.getfield 47, 3) := by decide +kernel
theorem d_M_split_59 : decode b_M_split 59 = .ok (.ifCond .le 5, 3) := by decide +kernel
theorem d_M_split_62 : decode b_M_split 62 = .ok (.iconst 0, 1) := by decide +kernel
theorem d_M_split_63 : decode b_M_split 63 = .ok (.ireturn, 1) := by decide +kernel
theorem d_M_split_64 : decode b_M_split 64 = .ok (.iconst 1, 1) := by decide +kernel
theorem d_M_split_65 : decode b_M_split 65 = .ok (.istore 4, 2) := by decide +kernel
theorem d_M_split_67 : decode b_M_split 67 = .ok (.iload 4, 2) := by decide +kernel
theorem d_M_split_69 : decode b_M_split 69 = .ok (.aload_n 0, 1) := by decide +kernel
theorem d_M_split_70 : decode b_M_split 70 = .ok (.getfield 51, 3) := by decide +kernel
theorem d_M_split_73 : decode b_M_split 73 = .ok (.if_icmp .gt 71, 3) := by decide +kernel
theorem d_M_split_76 : decode b_M_split 76 = .ok (.iload 4, 2) := by decide +kernel
theorem d_M_split_78 : decode b_M_split 78 = .ok (.istore 5, 2) := by decide +kernel
theorem d_M_split_80 : decode b_M_split 80 = .ok (.iload 5, 2) := by decide +kernel
theorem d_M_split_82 : decode b_M_split 82 = .ok (.aload_n 0, 1) := by decide +kernel
theorem d_M_split_83 : decode b_M_split 83 = .ok (.getfield 51, 3) := by decide +kernel
theorem d_M_split_86 : decode b_M_split 86 = .ok (.if_icmp .gt 52, 3) := by decide +kernel
theorem d_M_split_89 : decode b_M_split 89 = .ok (.aload_n 0, 1) := by decide +kernel
theorem d_M_split_90 : decode b_M_split 90 = .ok (.iload_n 1, 1) := by decide +kernel
theorem d_M_split_91 : decode b_M_split 91 = .ok (.iload 4, 2) := by decide +kernel
theorem d_M_split_93 : decode b_M_split 93 = .ok (.iload 5, 2) := by decide +kernel
theorem d_M_split_95 : decode b_M_split 95 = .ok (.invokevirtual 105, 3) := by decide +kernel
theorem d_M_split_98 : decode b_M_split 98 = .ok (.aload_n 0, 1) := by decide +kernel
theorem d_M_split_99 : decode b_M_split 99 = .ok (.getfield 31, 3) := by decide +kernel
theorem d_M_split_102 : decode b_M_split 102 = .ok (.bipush 13, 2) := by decide +kernel
theorem d_M_split_104 : decode b_M_split 104 = .ok (.iload 4, 2) := by decide +kernel
theorem d_M_split_106 : decode b_M_split 106 = .ok (.imul, 1) := by decide +kernel
theorem d_M_split_107 : decode b_M_split 107 = .ok (.iload 5, 2) := by decide +kernel
theorem d_M_split_109 : decode b_M_split 109 = .ok (.iadd, 1) := by decide +kernel
theorem d_M_split_110 : decode b_M_split 110 = .ok (.aload_n 0, 1) := by decide +kernel
theorem d_M_split_111 : decode b_M_split 111 = .ok (.getfield 78, 3) := by decide +kernel
theorem d_M_split_114 : decode b_M_split 114 = .ok (.lastore, 1) := by decide +kernel
theorem d_M_split_115 : decode b_M_split 115 = .ok (.aload_n 0, 1) := by decide +kernel
theorem d_M_split_116 : decode b_M_split 116 = .ok (.getfield 35, 3) := by decide +kernel
theorem d_M_split_119 : decode b_M_split 119 = .ok (.bipush 13, 2) := by decide +kernel
theorem d_M_split_121 : decode b_M_split 121 = .ok (.iload 4, 2) := by decide +kernel
theorem d_M_split_123 : decode b_M_split 123 = .ok (.imul, 1) := by decide +kernel
theorem d_M_split_124 : decode b_M_split 124 = .ok (.iload 5, 2) := by decide +kernel
theorem d_M_split_126 : decode b_M_split 126 = .ok (.iadd, 1) := by decide +kernel
theorem d_M_split_127 : decode b_M_split 127 = .ok (.aload_n 0, 1) := by decide +kernel
theorem d_M_split_128 : decode b_M_split 128 = .ok (.getfield 82, 3) := by decide +kernel
theorem d_M_split_131 : decode b_M_split 131 = .ok (.lastore, 1) := by decide +kernel
theorem d_M_split_132 : decode b_M_split 132 = .ok (.iinc 5 1, 3) := by decide +kernel
theorem d_M_split_135 : decode b_M_split 135 = .ok (.goto (-55), 3) := by decide +kernel
theorem d_M_split_138 : decode b_M_split 138 = .ok (.iinc 4 1, 3) := by decide +kernel
theorem d_M_split_141 : decode b_M_split 141 = .ok (.goto (-74), 3) := by decide +kernel
theorem d_M_split_144 : decode b_M_split 144 = .ok (.iconst 0, 1) := by decide +kernel
theorem d_M_split_145 : decode b_M_split 145 = .ok (.istore 4, 2) := by decide +kernel
theorem d_M_split_147 : decode b_M_split 147 = .ok (.iload 4, 2) := by decide +kernel
theorem d_M_split_149 : decode b_M_split 149 = .ok (.iload_n 2, 1) := by decide +kernel
theorem d_M_split_150 : decode b_M_split 150 = .ok (.iconst 1, 1) := by decide +kernel
theorem d_M_split_151 : decode b_M_split 151 = .ok (.isub, 1) := by decide +kernel
theorem d_M_split_152 : decode b_M_split 152 = .ok (.if_icmp .ge 20, 3) := by decide +kernel
theorem d_M_split_155 : decode b_M_split 155 = .ok (.aload_n 0, 1) := by decide +kernel
theorem d_M_split_156 : decode b_M_split 156 = .ok (.getfield 38, 3) := by decide +kernel
theorem d_M_split_159 : decode b_M_split 159 = .ok (.iload 4, 2) := by decide +kernel
theorem d_M_split_161 : decode b_M_split 161 = .ok (.iload 4, 2) := by decide +kernel
theorem d_M_split_163 : decode b_M_split 163 = .ok (.iconst 1, 1) := by decide +kernel
theorem d_M_split_164 : decode b_M_split 164 = .ok (.iadd, 1) := by decide +kernel
theorem d_M_split_165 : decode b_M_split 165 = .ok (.iastore, 1) := by decide +kernel
theorem d_M_split_166 : decode b_M_split 166 = .ok (.iinc 4 1, 3) := by decide +kernel
theorem d_M_split_169 : decode b_M_split 169 = .ok (.goto (-22), 3) := by decide +kernel
theorem d_M_split_172 : decode b_M_split 172 = .ok (.aload_n 0, 1) := by decide +kernel
theorem d_M_split_173 : decode b_M_split 173 = .ok (.getfield 38, 3) := by decide +kernel
theorem d_M_split_176 : decode b_M_split 176 = .ok (.iload_n 2, 1) := by decide +kernel
theorem d_M_split_177 : decode b_M_split 177 = .ok (.iconst 1, 1) := by decide +kernel
theorem d_M_split_178 : decode b_M_split 178 = .ok (.isub, 1) := by decide +kernel
theorem d_M_split_179 : decode b_M_split 179 = .ok (.aload_n 0, 1) := by decide +kernel
theorem d_M_split_180 : decode b_M_split 180 = .ok (.getfield 51, 3) := by decide +kernel
theorem d_M_split_183 : decode b_M_split 183 = .ok (.iastore, 1) := by decide +kernel
theorem d_M_split_184 : decode b_M_split 184 = .ok (.iconst (-1), 1) := by decide +kernel
theorem d_M_split_185 : decode b_M_split 185 = .ok (.istore 4, 2) := by decide +kernel
theorem d_M_split_187 : decode b_M_split 187 = .ok (.iconst 1, 1) := by decide +kernel
theorem d_M_split_188 : decode b_M_split 188 = .ok (.istore 5, 2) := by decide +kernel
theorem d_M_split_190 : decode b_M_split 190 = .ok (.iload 5, 2) := by decide +kernel
theorem d_M_split_192 : decode b_M_split 192 = .ok (.ifCond .eq 93, 3) := by decide +kernel
theorem d_M_split_195 : decode b_M_split 195 = .ok (.aload_n 0, 1) := by decide +kernel
theorem d_M_split_196 : decode b_M_split 196 = .ok (.iload_n 2, 1) := by decide +kernel
theorem d_M_split_197 : decode b_M_split 197 = .ok (.invokevirtual 119, 3) := by decide +kernel
theorem d_M_split_200 : decode b_M_split 200 = .ok (.istore 6, 2) := by decide +kernel
theorem d_M_split_202 : decode b_M_split 202 = .ok (.iload 4, 2) := by decide +kernel
theorem d_M_split_204 : decode b_M_split 204 = .ok (.iconst (-1), 1) := by decide +kernel
theorem d_M_split_205 : decode b_M_split 205 = .ok (.if_icmp .eq 37, 3) := by decide +kernel
theorem d_M_split_208 : decode b_M_split 208 = .ok (.aload_n 0, 1) := by decide +kernel
theorem d_M_split_209 : decode b_M_split 209 = .ok (.getfield 31, 3) := by decide +kernel
theorem d_M_split_212 : decode b_M_split 212 = .ok (.iload 6, 2) := by decide +kernel
theorem d_M_split_214 : decode b_M_split 214 = .ok (.laload, 1) := by decide +kernel
theorem d_M_split_215 : decode b_M_split 215 = .ok (.aload_n 0, 1) := by decide +kernel
theorem d_M_split_216 : decode b_M_split 216 = .ok (.getfield 35, 3) := by decide +kernel
theorem d_M_split_219 : decode b_M_split 219 = .ok (.iload 6, 2) := by decide +kernel
theorem d_M_split_221 : decode b_M_split 221 = .ok (.laload, 1) := by decide +kernel
theorem d_M_split_222 : decode b_M_split 222 = .ok (.aload_n 0, 1) := by decide +kernel
theorem d_M_split_223 : decode b_M_split 223 = .ok (.getfield 31, 3) := by decide +kernel
theorem d_M_split_226 : decode b_M_split 226 = .ok (.iload 4, 2) := by decide +kernel
theorem d_M_split_228 : decode b_M_split 228 = .ok (.laload, 1) := by decide +kernel
theorem d_M_split_229 : decode b_M_split 229 = .ok (.aload_n 0, 1) := by decide +kernel
theorem d_M_split_230 : decode b_M_split 230 = .ok (.getfield 35, 3) := by decide +kernel
theorem d_M_split_233 : decode b_M_split 233 = .ok (.iload 4, 2) := by decide +kernel
theorem d_M_split_235 : decode b_M_split 235 = .ok (.laload, 1) := by decide +kernel
theorem d_M_split_236 : decode b_M_split 236 = .ok (.invokestatic 109, 3) := by decide +kernel
theorem d_M_split_239 : decode b_M_split 239 = .ok (.ifCond .ge 36, 3) := by decide +kernel
theorem d_M_split_242 : decode b_M_split 242 = .ok (.iload 6, 2) := by decide +kernel
theorem d_M_split_244 : decode b_M_split 244 = .ok (.istore 4, 2) := by decide +kernel
theorem d_M_split_246 : decode b_M_split 246 = .ok (.iconst 0, 1) := by decide +kernel
theorem d_M_split_247 : decode b_M_split 247 = .ok (.istore 7, 2) := by decide +kernel
theorem d_M_split_249 : decode b_M_split 249 = .ok (.iload 7, 2) := by decide +kernel
theorem d_M_split_251 : decode b_M_split 251 = .ok (.iload_n 2, 1) := by decide +kernel
theorem d_M_split_252 : decode b_M_split 252 = .ok (.if_icmp .ge 23, 3) := by decide +kernel
theorem d_M_split_255 : decode b_M_split 255 = .ok (.aload_n 0, 1) := by decide +kernel
theorem d_M_split_256 : decode b_M_split 256 = .ok (.getfield 41, 3) := by decide +kernel
theorem d_M_split_259 : decode b_M_split 259 = .ok (.iload 7, 2) := by decide +kernel
theorem d_M_split_261 : decode b_M_split 261 = .ok (.aload_n 0, 1) := by decide +kernel
theorem d_M_split_262 : decode b_M_split 262 = .ok (.getfield 38, 3) := by decide +kernel
theorem d_M_split_265 : decode b_M_split 265 = .ok (.iload 7, 2) := by decide +kernel
theorem d_M_split_267 : decode b_M_split 267 = .ok (.iaload, 1) := by decide +kernel
theorem d_M_split_268 : decode b_M_split 268 = .ok (.iastore, 1) := by decide +kernel
theorem d_M_split_269 : decode b_M_split 269 = .ok (.iinc 7 1, 3) := by decide +kernel
theorem d_M_split_272 : decode b_M_split 272 = .ok (.goto (-23), 3) := by decide +kernel
theorem d_M_split_275 : decode b_M_split 275 = .ok (.aload_n 0, 1) := by decide +kernel
theorem d_M_split_276 : decode b_M_split 276 = .ok (.iload_n 2, 1) := by decide +kernel
theorem d_M_split_277 : decode b_M_split 277 = .ok (.invokevirtual 123, 3) := by decide +kernel
theorem d_M_split_280 : decode b_M_split 280 = .ok (.istore 5, 2) := by decide +kernel
theorem d_M_split_282 : decode b_M_split 282 = .ok (.goto (-92), 3) := by decide +kernel
theorem d_M_split_285 : decode b_M_split 285 = .ok (.aload_n 0, 1) := by decide +kernel
theorem d_M_split_286 : decode b_M_split 286 = .ok (.getfield 41, 3) := by decide +kernel
theorem d_M_split_289 : decode b_M_split 289 = .ok (.iload_n 3, 1) := by decide +kernel
theorem d_M_split_290 : decode b_M_split 290 = .ok (.iaload, 1) := by decide +kernel
theorem d_M_split_291 : decode b_M_split 291 = .ok (.ireturn, 1) := by decide +kernel
theorem d_M_begin_0 : decode b_M_begin 0 = .ok (.iconst 0, 1) := by decide +kernel
theorem d_M_begin_1 : decode b_M_begin 1 = .ok (.istore_n 1, 1) := by decide +kernel
theorem d_M_begin_2 : decode b_M_begin 2 = .ok (.iload_n 1, 1) := by decide +kernel
theorem d_M_begin_3 : decode b_M_begin 3 = .ok (.bipush 12, 2) := by decide +kernel
theorem d_M_begin_5 : decode b_M_begin 5 = .ok (.if_icmp .gt 37, 3) := by decide +kernel
theorem d_M_begin_8 : decode b_M_begin 8 = .ok (.aload_n 0, 1) := by decide +kernel
theorem d_M_begin_9 : decode b_M_begin 9 = .ok (.getfield 44, 3) := by decide +kernel
theorem d_M_begin_12 : decode b_M_begin 12 = .ok (.iload_n 1, 1) := by decide +kernel
theorem d_M_begin_13 : decode b_M_begin 13 = .ok (.iload_n 1, 1) := by decide +kernel
theorem d_M_begin_14 : decode b_M_begin 14 = .ok (.aload_n 0, 1) := by decide +kernel
theorem d_M_begin_15 : decode b_M_begin 15 = .ok (.getfield 51, 3) := by decide +kernel
theorem d_M_begin_18 : decode b_M_begin 18 = .ok (.if_icmp .gt 16, 3) := by decide +kernel
theorem d_M_begin_21 : decode b_M_begin 21 = .ok (.iload_n 1, 1) := by decide +kernel
theorem d_M_begin_22 : decode b_M_begin 22 = .ok (.ifCond .le 12, 3) := by decide +kernel
theorem d_M_begin_25 : decode b_M_begin 25 = .ok (.aload_n 0, 1) := by decide +kernel
theorem d_M_begin_26 : decode b_M_begin 26 = .ok (.getfield 7, 3) := by decide +kernel
theorem d_M_begin_29 : decode b_M_begin 29 = .ok (.iload_n 1, 1) := by decide +kernel
theorem d_M_begin_30 : decode b_M_begin 30 = .ok (.iaload, 1) := by decide +kernel
theorem d_M_begin_31 : decode b_M_begin 31 = .ok (.goto 4, 3) := by decide +kernel
theorem d_M_begin_34 : decode b_M_begin 34 = .ok (.iconst 0, 1) := by decide +kernel
theorem d_M_begin_35 : decode b_M_begin 35 = .ok (.iastore, 1) := by decide +kernel
theorem d_M_begin_36 : decode b_M_begin 36 = .ok (.iinc 1 1, 3) := by decide +kernel
theorem d_M_begin_39 : decode b_M_begin 39 = .ok (.goto (-37), 3) := by decide +kernel
theorem d_M_begin_42 : decode b_M_begin 42 = .ok (.return_, 1) := by decide +kernel
theorem d_M_inside_0 : decode b_M_inside 0 = .ok (.iconst 0, 1) := by decide +kernel
theorem d_M_inside_1 : decode b_M_inside 1 = .ok (.istore_n 1, 1) := by decide +kernel
theorem d_M_inside_2 : decode b_M_inside 2 = .ok (.iconst 1, 1) := by decide +kernel
theorem d_M_inside_3 : decode b_M_inside 3 = .ok (.istore_n 2, 1) := by decide +kernel
theorem d_M_inside_4 : decode b_M_inside 4 = .ok (.iload_n 2, 1) := by decide +kernel
theorem d_M_inside_5 : decode b_M_inside 5 = .ok (.aload_n 0, 1) := by decide +kernel
theorem d_M_inside_6 : decode b_M_inside 6 = .ok (.getfield 51, 3) := by decide +kernel
theorem d_M_inside_9 : decode b_M_inside 9 = .ok (.if_icmp .gt 18, 3) := by decide +kernel
theorem d_M_inside_12 : decode b_M_inside 12 = .ok (.iload_n 1, 1) := by decide +kernel
theorem d_M_inside_13 : decode b_M_inside 13 = .ok (.aload_n 0, 1) := by decide +kernel
theorem d_M_inside_14 : decode b_M_inside 14 = .ok (.getfield 44, 3) := by decide +kernel
theorem d_M_inside_17 : decode b_M_inside 17 = .ok (.iload_n 2, 1) := by decide +kernel
theorem d_M_inside_18 : decode b_M_inside 18 = .ok (.iaload, 1) := by decide +kernel
theorem d_M_inside_19 : decode b_M_inside 19 = .ok (.iadd, 1) := by decide +kernel
theorem d_M_inside_20 : decode b_M_inside 20 = .ok (.istore_n 1, 1) := by decide +kernel
theorem d_M_inside_21 : decode b_M_inside 21 = .ok (.iinc 2 1, 3) := by decide +kernel
theorem d_M_inside_24 : decode b_M_inside 24 = .ok (.goto (-20), 3) := by decide +kernel
theorem d_M_inside_27 : decode b_M_inside 27 = .ok (.iload_n 1, 1) := by decide +kernel
theorem d_M_inside_28 : decode b_M_inside 28 = .ok (.ireturn, 1) := by decide +kernel
theorem d_M_second_0 : decode b_M_second 0 = .ok (.iconst 1, 1) := by decide +kernel
theorem d_M_second_1 : decode b_M_second 1 = .ok (.istore_n 2, 1) := by decide +kernel
theorem d_M_second_2 : decode b_M_second 2 = .ok (.iload_n 2, 1) := by decide +kernel
theorem d_M_second_3 : decode b_M_second 3 = .ok (.aload_n 0, 1) := by decide +kernel
theorem d_M_second_4 : decode b_M_second 4 = .ok (.getfield 51, 3) := by decide +kernel
theorem d_M_second_7 : decode b_M_second 7 = .ok (.if_icmp .gt 62, 3) := by decide +kernel
theorem d_M_second_10 : decode b_M_second 10 = .ok (.aload_n 0, 1) := by decide +kernel
theorem d_M_second_11 : decode b_M_second 11 = .ok (.getfield 44, 3) := by decide +kernel
theorem d_M_second_14 : decode b_M_second 14 = .ok (.iload_n 2, 1) := by decide +kernel
theorem d_M_second_15 : decode b_M_second 15 = .ok (.iaload, 1) := by decide +kernel
theorem d_M_second_16 : decode b_M_second 16 = .ok (.iload_n 1, 1) := by decide +kernel
theorem d_M_second_17 : decode b_M_second 17 = .ok (.if_icmp .ge 12, 3) := by decide +kernel
theorem d_M_second_20 : decode b_M_second 20 = .ok (.aload_n 0, 1) := by decide +kernel
theorem d_M_second_21 : decode b_M_second 21 = .ok (.getfield 44, 3) := by decide +kernel
theorem d_M_second_24 : decode b_M_second 24 = .ok (.iload_n 2, 1) := by decide +kernel
theorem d_M_second_25 : decode b_M_second 25 = .ok (.iaload, 1) := by decide +kernel
theorem d_M_second_26 : decode b_M_second 26 = .ok (.goto 4, 3) := by decide +kernel
theorem d_M_second_29 : decode b_M_second 29 = .ok (.iload_n 1, 1) := by decide +kernel
theorem d_M_second_30 : decode b_M_second 30 = .ok (.istore_n 3, 1) := by decide +kernel
theorem d_M_second_31 : decode b_M_second 31 = .ok (.aload_n 0, 1) := by decide +kernel
theorem d_M_second_32 : decode b_M_second 32 = .ok (.getfield 44, 3) := by decide +kernel
theorem d_M_second_35 : decode b_M_second 35 = .ok (.iload_n 2, 1) := by decide +kernel
theorem d_M_second_36 : decode b_M_second 36 = .ok (.aload_n 0, 1) := by decide +kernel
theorem d_M_second_37 : decode b_M_second 37 = .ok (.getfield 44, 3) := by decide +kernel
theorem d_M_second_40 : decode b_M_second 40 = .ok (.iload_n 2, 1) := by decide +kernel
theorem d_M_second_41 : decode b_M_second 41 = .ok (.iaload, 1) := by decide +kernel
theorem d_M_second_42 : decode b_M_second 42 = .ok (.iload_n 3, 1) := by decide +kernel
theorem d_M_second_43 : decode b_M_second 43 = .ok (.isub, 1) := by decide +kernel
theorem d_M_second_44 : decode b_M_second 44 = .ok (.iastore, 1) := by decide +kernel
theorem d_M_second_45 : decode b_M_second 45 = .ok (.aload_n 0, 1) := by decide +kernel
theorem d_M_second_46 : decode b_M_second 46 = .ok (.getfield 44, 3) := by decide +kernel
theorem d_M_second_49 : decode b_M_second 49 = .ok (.iload_n 2, 1) := by decide +kernel
theorem d_M_second_50 : decode b_M_second 50 = .ok (.iconst 1, 1) := by decide +kernel
theorem d_M_second_51 : decode b_M_second 51 = .ok (.isub, 1) := by decide +kernel
theorem d_M_second_52 : decode b_M_second 52 = .ok (.aload_n 0, 1) := by decide +kernel
theorem d_M_second_53 : decode b_M_second 53 = .ok (.getfield 44, 3) := by decide +kernel
theorem d_M_second_56 : decode b_M_second 56 = .ok (.iload_n 2, 1) := by decide +kernel
theorem d_M_second_57 : decode b_M_second 57 = .ok (.iconst 1, 1) := by decide +kernel
theorem d_M_second_58 : decode b_M_second 58 = .ok (.isub, 1) := by decide +kernel
theorem d_M_second_59 : decode b_M_second 59 = .ok (.iaload, 1) := by decide +kernel
theorem d_M_second_60 : decode b_M_second 60 = .ok (.iload_n 3, 1) := by decide +kernel
theorem d_M_second_61 : decode b_M_second 61 = .ok (.iadd, 1) := by decide +kernel
theorem d_M_second_62 : decode b_M_second 62 = .ok (.iastore, 1) := by decide +kernel
theorem d_M_second_63 : decode b_M_second 63 = .ok (.iinc 2 1, 3) := by decide +kernel
theorem d_M_second_66 : decode b_M_second 66 = .ok (.goto (-64), 3) := by decide +kernel
theorem d_M_second_69 : decode b_M_second 69 = .ok (.return_, 1) := by decide +kernel
theorem d_M_out_0 : decode b_M_out 0 = .ok (.aload_n 0, 1) := by decide +kernel
theorem d_M_out_1 : decode b_M_out 1 = .ok (.iload_n 1, 1) := by decide +kernel
theorem d_M_out_2 : decode b_M_out 2 = .ok (.iconst 1, 1) := by decide +kernel
theorem d_M_out_3 : decode b_M_out 3 = .ok (.bipush 50, 2) := by decide +kernel
theorem d_M_out_5 : decode b_M_out 5 = .ok (.invokestatic 54, 3) := by decide +kernel
theorem d_M_out_8 : decode b_M_out 8 = .ok (.ifCond .ne 7, 3) := by decide +kernel
theorem d_M_out_11 : decode b_M_out 11 = .ok (.iconst 1, 1) := by decide +kernel
theorem d_M_out_12 : decode b_M_out 12 = .ok (.goto 4, 3) := by decide +kernel
theorem d_M_out_15 : decode b_M_out 15 = .ok (.iconst 0, 1) := by decide +kernel
theorem d_M_out_16 : decode b_M_out 16 = .ok (.putfield 47, 3) := by decide +kernel
theorem d_M_out_19 : decode b_M_out 19 = .ok (.aload_n 0, 1) := by decide +kernel
theorem d_M_out_20 : decode b_M_out 20 = .ok (.getfield 47, 3) := by decide +kernel
theorem d_M_out_23 : decode b_M_out 23 = .ok (.ifCond .le 5, 3) := by decide +kernel
theorem d_M_out_26 : decode b_M_out 26 = .ok (.iconst 0, 1) := by decide +kernel
theorem d_M_out_27 : decode b_M_out 27 = .ok (.ireturn, 1) := by decide +kernel
theorem d_M_out_28 : decode b_M_out 28 = .ok (.aload_n 0, 1) := by decide +kernel
theorem d_M_out_29 : decode b_M_out 29 = .ok (.invokevirtual 126, 3) := by decide +kernel
theorem d_M_out_32 : decode b_M_out 32 = .ok (.iconst 0, 1) := by decide +kernel
theorem d_M_out_33 : decode b_M_out 33 = .ok (.istore_n 2, 1) := by decide +kernel
theorem d_M_out_34 : decode b_M_out 34 = .ok (.aload_n 0, 1) := by decide +kernel
theorem d_M_out_35 : decode b_M_out 35 = .ok (.invokevirtual 129, 3) := by decide +kernel
theorem d_M_out_38 : decode b_M_out 38 = .ok (.ifCond .le 14, 3) := by decide +kernel
theorem d_M_out_41 : decode b_M_out 41 = .ok (.aload_n 0, 1) := by decide +kernel
theorem d_M_out_42 : decode b_M_out 42 = .ok (.iload_n 1, 1) := by decide +kernel
theorem d_M_out_43 : decode b_M_out 43 = .ok (.invokevirtual 132, 3) := by decide +kernel
theorem d_M_out_46 : decode b_M_out 46 = .ok (.iinc 2 1, 3) := by decide +kernel
theorem d_M_out_49 : decode b_M_out 49 = .ok (.goto (-15), 3) := by decide +kernel
theorem d_M_out_52 : decode b_M_out 52 = .ok (.iload_n 2, 1) := by decide +kernel
theorem d_M_out_53 : decode b_M_out 53 = .ok (.ireturn, 1) := by decide +kernel
theorem d_M_there_0 : decode b_M_there 0 = .ok (.aload_n 0, 1) := by decide +kernel
theorem d_M_there_1 : decode b_M_there 1 = .ok (.iload_n 1, 1) := by decide +kernel
theorem d_M_there_2 : decode b_M_there 2 = .ok (.iconst 1, 1) := by decide +kernel
theorem d_M_there_3 : decode b_M_there 3 = .ok (.bipush 50, 2) := by decide +kernel
theorem d_M_there_5 : decode b_M_there 5 = .ok (.invokestatic 54, 3) := by decide +kernel
theorem d_M_there_8 : decode b_M_there 8 = .ok (.ifCond .eq 22, 3) := by decide +kernel
theorem d_M_there_11 : decode b_M_there 11 = .ok (.aload_n 0, 1) := by decide +kernel
theorem d_M_there_12 : decode b_M_there 12 = .ok (.iload_n 2, 1) := by decide +kernel
theorem d_M_there_13 : decode b_M_there 13 = .ok (.invokevirtual 62, 3) := by decide +kernel
theorem d_M_there_16 : decode b_M_there 16 = .ok (.ifCond .ne 14, 3) := by decide +kernel
theorem d_M_there_19 : decode b_M_there 19 = .ok (.iload_n 3, 1) := by decide +kernel
theorem d_M_there_20 : decode b_M_there 20 = .ok (.iconst 0, 1) := by decide +kernel
theorem d_M_there_21 : decode b_M_there 21 = .ok (.sipush 1000, 3) := by decide +kernel
theorem d_M_there_24 : decode b_M_there 24 = .ok (.invokestatic 54, 3) := by decide +kernel
theorem d_M_there_27 : decode b_M_there 27 = .ok (.ifCond .ne 7, 3) := by decide +kernel
theorem d_M_there_30 : decode b_M_there 30 = .ok (.iconst 1, 1) := by decide +kernel
theorem d_M_there_31 : decode b_M_there 31 = .ok (.goto 4, 3) := by decide +kernel
theorem d_M_there_34 : decode b_M_there 34 = .ok (.iconst 0, 1) := by decide +kernel
theorem d_M_there_35 : decode b_M_there 35 = .ok (.putfield 47, 3) := by decide +kernel
theorem d_M_there_38 : decode b_M_there 38 = .ok (.aload_n 0, 1) := by decide +kernel
theorem d_M_there_39 : decode b_M_there 39 = .ok (.getfield 47, 3) := by decide +kernel
theorem d_M_there_42 : decode b_M_there 42 = .ok (.ifCond .le 5, 3) := by decide +kernel
theorem d_M_there_45 : decode b_M_there 45 = .ok (.iconst 0, 1) := by decide +kernel
theorem d_M_there_46 : decode b_M_there 46 = .ok (.ireturn, 1) := by decide +kernel
theorem d_M_there_47 : decode b_M_there 47 = .ok (.aload_n 0, 1) := by decide +kernel
theorem d_M_there_48 : decode b_M_there 48 = .ok (.invokevirtual 126, 3) := by decide +kernel
theorem d_M_there_51 : decode b_M_there 51 = .ok (.iconst 0, 1) := by decide +kernel
theorem d_M_there_52 : decode b_M_there 52 = .ok (.istore 4, 2) := by decide +kernel
theorem d_M_there_54 : decode b_M_there 54 = .ok (.iload 4, 2) := by decide +kernel
theorem d_M_there_56 : decode b_M_there 56 = .ok (.iload_n 3, 1) := by decide +kernel
theorem d_M_there_57 : decode b_M_there 57 = .ok (.if_icmp .ge 14, 3) := by decide +kernel
theorem d_M_there_60 : decode b_M_there 60 = .ok (.aload_n 0, 1) := by decide +kernel
theorem d_M_there_61 : decode b_M_there 61 = .ok (.iload_n 1, 1) := by decide +kernel
theorem d_M_there_62 : decode b_M_there 62 = .ok (.invokevirtual 132, 3) := by decide +kernel
theorem d_M_there_65 : decode b_M_there 65 = .ok (.iinc 4 1, 3) := by decide +kernel
theorem d_M_there_68 : decode b_M_there 68 = .ok (.goto (-14), 3) := by decide +kernel
theorem d_M_there_71 : decode b_M_there 71 = .ok (.aload_n 0, 1) := by decide +kernel
theorem d_M_there_72 : decode b_M_there 72 = .ok (.getfield 44, 3) := by decide +kernel
theorem d_M_there_75 : decode b_M_there 75 = .ok (.iload_n 2, 1) := by decide +kernel
theorem d_M_there_76 : decode b_M_there 76 = .ok (.iaload, 1) := by decide +kernel
theorem d_M_there_77 : decode b_M_there 77 = .ok (.ireturn, 1) := by decide +kernel
theorem d_M_crowd_0 : decode b_M_crowd 0 = .ok (.aload_n 0, 1) := by decide +kernel
theorem d_M_crowd_1 : decode b_M_crowd 1 = .ok (.iload_n 1, 1) := by decide +kernel
theorem d_M_crowd_2 : decode b_M_crowd 2 = .ok (.iconst 1, 1) := by decide +kernel
theorem d_M_crowd_3 : decode b_M_crowd 3 = .ok (.bipush 50, 2) := by decide +kernel
theorem d_M_crowd_5 : decode b_M_crowd 5 = .ok (.invokestatic 54, 3) := by decide +kernel
theorem d_M_crowd_8 : decode b_M_crowd 8 = .ok (.ifCond .eq 11, 3) := by decide +kernel
theorem d_M_crowd_11 : decode b_M_crowd 11 = .ok (.aload_n 0, 1) := by decide +kernel
theorem d_M_crowd_12 : decode b_M_crowd 12 = .ok (.iload_n 2, 1) := by decide +kernel
theorem d_M_crowd_13 : decode b_M_crowd 13 = .ok (.invokevirtual 62, 3) := by decide +kernel
theorem d_M_crowd_16 : decode b_M_crowd 16 = .ok (.ifCond .eq 7, 3) := by decide +kernel
theorem d_M_crowd_19 : decode b_M_crowd 19 = .ok (.iconst 1, 1) := by decide +kernel
theorem d_M_crowd_20 : decode b_M_crowd 20 = .ok (.goto 4, 3) := by decide +kernel
theorem d_M_crowd_23 : decode b_M_crowd 23 = .ok (.iconst 0, 1) := by decide +kernel
theorem d_M_crowd_24 : decode b_M_crowd 24 = .ok (.putfield 47, 3) := by decide +kernel
theorem d_M_crowd_27 : decode b_M_crowd 27 = .ok (.aload_n 0, 1) := by decide +kernel
theorem d_M_crowd_28 : decode b_M_crowd 28 = .ok (.getfield 47, 3) := by decide +kernel
theorem d_M_crowd_31 : decode b_M_crowd 31 = .ok (.ifCond .le 5, 3) := by decide +kernel
theorem d_M_crowd_34 : decode b_M_crowd 34 = .ok (.iconst 0, 1) := by decide +kernel
theorem d_M_crowd_35 : decode b_M_crowd 35 = .ok (.ireturn, 1) := by decide +kernel
theorem d_M_crowd_36 : decode b_M_crowd 36 = .ok (.aload_n 0, 1) := by decide +kernel
theorem d_M_crowd_37 : decode b_M_crowd 37 = .ok (.invokevirtual 126, 3) := by decide +kernel
theorem d_M_crowd_40 : decode b_M_crowd 40 = .ok (.aload_n 0, 1) := by decide +kernel
theorem d_M_crowd_41 : decode b_M_crowd 41 = .ok (.getfield 44, 3) := by decide +kernel
theorem d_M_crowd_44 : decode b_M_crowd 44 = .ok (.iload_n 2, 1) := by decide +kernel
theorem d_M_crowd_45 : decode b_M_crowd 45 = .ok (.iaload, 1) := by decide +kernel
theorem d_M_crowd_46 : decode b_M_crowd 46 = .ok (.istore_n 3, 1) := by decide +kernel
theorem d_M_crowd_47 : decode b_M_crowd 47 = .ok (.aload_n 0, 1) := by decide +kernel
theorem d_M_crowd_48 : decode b_M_crowd 48 = .ok (.invokevirtual 129, 3) := by decide +kernel
theorem d_M_crowd_51 : decode b_M_crowd 51 = .ok (.ifCond .le 32, 3) := by decide +kernel
theorem d_M_crowd_54 : decode b_M_crowd 54 = .ok (.aload_n 0, 1) := by decide +kernel
theorem d_M_crowd_55 : decode b_M_crowd 55 = .ok (.iload_n 1, 1) := by decide +kernel
theorem d_M_crowd_56 : decode b_M_crowd 56 = .ok (.invokevirtual 132, 3) := by decide +kernel
theorem d_M_crowd_59 : decode b_M_crowd 59 = .ok (.aload_n 0, 1) := by decide +kernel
theorem d_M_crowd_60 : decode b_M_crowd 60 = .ok (.getfield 44, 3) := by decide +kernel
theorem d_M_crowd_63 : decode b_M_crowd 63 = .ok (.iload_n 2, 1) := by decide +kernel
theorem d_M_crowd_64 : decode b_M_crowd 64 = .ok (.iaload, 1) := by decide +kernel
theorem d_M_crowd_65 : decode b_M_crowd 65 = .ok (.iload_n 3, 1) := by decide +kernel
theorem d_M_crowd_66 : decode b_M_crowd 66 = .ok (.if_icmp .le 12, 3) := by decide +kernel
theorem d_M_crowd_69 : decode b_M_crowd 69 = .ok (.aload_n 0, 1) := by decide +kernel
theorem d_M_crowd_70 : decode b_M_crowd 70 = .ok (.getfield 44, 3) := by decide +kernel
theorem d_M_crowd_73 : decode b_M_crowd 73 = .ok (.iload_n 2, 1) := by decide +kernel
theorem d_M_crowd_74 : decode b_M_crowd 74 = .ok (.iaload, 1) := by decide +kernel
theorem d_M_crowd_75 : decode b_M_crowd 75 = .ok (.goto 4, 3) := by decide +kernel
theorem d_M_crowd_78 : decode b_M_crowd 78 = .ok (.iload_n 3, 1) := by decide +kernel
theorem d_M_crowd_79 : decode b_M_crowd 79 = .ok (.istore_n 3, 1) := by decide +kernel
theorem d_M_crowd_80 : decode b_M_crowd 80 = .ok (.goto (-33), 3) := by decide +kernel
theorem d_M_crowd_83 : decode b_M_crowd 83 = .ok (.iload_n 3, 1) := by decide +kernel
theorem d_M_crowd_84 : decode b_M_crowd 84 = .ok (.ireturn, 1) := by decide +kernel
end
section
theorem d_L_floor_0 : decode b_L_floor 0 = .ok (.aload_n 3, 1) := by decide +kernel
theorem d_L_floor_1 : decode b_L_floor 1 = .ok (.iconst 0, 1) := by decide +kernel
theorem d_L_floor_2 : decode b_L_floor 2 = .ok (.aload_n 0, 1) := by decide +kernel
theorem d_L_floor_3 : decode b_L_floor 3 = .ok (.iload_n 1, 1) := by decide +kernel
theorem d_L_floor_4 : decode b_L_floor 4 = .ok (.iload_n 2, 1) := by decide +kernel
theorem d_L_floor_5 : decode b_L_floor 5 = .ok (.invokevirtual 7, 3) := by decide +kernel
theorem d_L_floor_8 : decode b_L_floor 8 = .ok (.i2l, 1) := by decide +kernel
theorem d_L_floor_9 : decode b_L_floor 9 = .ok (.lastore, 1) := by decide +kernel
theorem d_L_floor_10 : decode b_L_floor 10 = .ok (.goto 11, 3) := by decide +kernel
theorem d_L_floor_13 : decode b_L_floor 13 = .ok (.astore 4, 2) := by decide +kernel
theorem d_L_floor_15 : decode b_L_floor 15 = .ok (.iconst 1, 1) := by decide +kernel
theorem d_L_floor_16 : decode b_L_floor 16 = .ok (.ireturn, 1) := by decide +kernel
theorem d_L_floor_17 : decode b_L_floor 17 = .ok (.astore 4, 2) := by decide +kernel
theorem d_L_floor_19 : decode b_L_floor 19 = .ok (.iconst 2, 1) := by decide +kernel
theorem d_L_floor_20 : decode b_L_floor 20 = .ok (.ireturn, 1) := by decide +kernel
theorem d_L_floor_21 : decode b_L_floor 21 = .ok (.iconst 0, 1) := by decide +kernel
theorem d_L_floor_22 : decode b_L_floor 22 = .ok (.ireturn, 1) := by decide +kernel
theorem d_L_persons_0 : decode b_L_persons 0 = .ok (.aload_n 3, 1) := by decide +kernel
theorem d_L_persons_1 : decode b_L_persons 1 = .ok (.iconst 0, 1) := by decide +kernel
theorem d_L_persons_2 : decode b_L_persons 2 = .ok (.aload_n 0, 1) := by decide +kernel
theorem d_L_persons_3 : decode b_L_persons 3 = .ok (.iload_n 1, 1) := by decide +kernel
theorem d_L_persons_4 : decode b_L_persons 4 = .ok (.iload_n 2, 1) := by decide +kernel
theorem d_L_persons_5 : decode b_L_persons 5 = .ok (.invokevirtual 17, 3) := by decide +kernel
theorem d_L_persons_8 : decode b_L_persons 8 = .ok (.i2l, 1) := by decide +kernel
theorem d_L_persons_9 : decode b_L_persons 9 = .ok (.lastore, 1) := by decide +kernel
theorem d_L_persons_10 : decode b_L_persons 10 = .ok (.goto 11, 3) := by decide +kernel
theorem d_L_persons_13 : decode b_L_persons 13 = .ok (.astore 4, 2) := by decide +kernel
theorem d_L_persons_15 : decode b_L_persons 15 = .ok (.iconst 1, 1) := by decide +kernel
theorem d_L_persons_16 : decode b_L_persons 16 = .ok (.ireturn, 1) := by decide +kernel
theorem d_L_persons_17 : decode b_L_persons 17 = .ok (.astore 4, 2) := by decide +kernel
theorem d_L_persons_19 : decode b_L_persons 19 = .ok (.iconst 2, 1) := by decide +kernel
theorem d_L_persons_20 : decode b_L_persons 20 = .ok (.ireturn, 1) := by decide +kernel
theorem d_L_persons_21 : decode b_L_persons 21 = .ok (.iconst 0, 1) := by decide +kernel
theorem d_L_persons_22 : decode b_L_persons 22 = .ok (.ireturn, 1) := by decide +kernel
theorem d_L_type_0 : decode b_L_type 0 = .ok (.aload 6, 2) := by decide +kernel
theorem d_L_type_2 : decode b_L_type 2 = .ok (.iconst 0, 1) := by decide +kernel
theorem d_L_type_3 : decode b_L_type 3 = .ok (.aload_n 0, 1) := by decide +kernel
theorem d_L_type_4 : decode b_L_type 4 = .ok (.iload_n 1, 1) := by decide +kernel
theorem d_L_type_5 : decode b_L_type 5 = .ok (.iload_n 2, 1) := by decide +kernel
theorem d_L_type_6 : decode b_L_type 6 = .ok (.iload_n 3, 1) := by decide +kernel
theorem d_L_type_7 : decode b_L_type 7 = .ok (.iload 4, 2) := by decide +kernel
theorem d_L_type_9 : decode b_L_type 9 = .ok (.iload 5, 2) := by decide +kernel
theorem d_L_type_11 : decode b_L_type 11 = .ok (.invokevirtual 20, 3) := by decide +kernel
theorem d_L_type_14 : decode b_L_type 14 = .ok (.i2l, 1) := by decide +kernel
theorem d_L_type_15 : decode b_L_type 15 = .ok (.lastore, 1) := by decide +kernel
theorem d_L_type_16 : decode b_L_type 16 = .ok (.goto 11, 3) := by decide +kernel
theorem d_L_type_19 : decode b_L_type 19 = .ok (.astore 7, 2) := by decide +kernel
theorem d_L_type_21 : decode b_L_type 21 = .ok (.iconst 1, 1) := by decide +kernel
theorem d_L_type_22 : decode b_L_type 22 = .ok (.ireturn, 1) := by decide +kernel
theorem d_L_type_23 : decode b_L_type 23 = .ok (.astore 7, 2) := by decide +kernel
theorem d_L_type_25 : decode b_L_type 25 = .ok (.iconst 2, 1) := by decide +kernel
theorem d_L_type_26 : decode b_L_type 26 = .ok (.ireturn, 1) := by decide +kernel
theorem d_L_type_27 : decode b_L_type 27 = .ok (.iconst 0, 1) := by decide +kernel
theorem d_L_type_28 : decode b_L_type 28 = .ok (.ireturn, 1) := by decide +kernel
theorem d_L_stops_0 : decode b_L_stops 0 = .ok (.aload 5, 2) := by decide +kernel
theorem d_L_stops_2 : decode b_L_stops 2 = .ok (.iconst 0, 1) := by decide +kernel
theorem d_L_stops_3 : decode b_L_stops 3 = .ok (.aload_n 0, 1) := by decide +kernel
theorem d_L_stops_4 : decode b_L_stops 4 = .ok (.iload_n 1, 1) := by decide +kernel
theorem d_L_stops_5 : decode b_L_stops 5 = .ok (.iload_n 2, 1) := by decide +kernel
theorem d_L_stops_6 : decode b_L_stops 6 = .ok (.iload_n 3, 1) := by decide +kernel
theorem d_L_stops_7 : decode b_L_stops 7 = .ok (.iload 4, 2) := by decide +kernel
theorem d_L_stops_9 : decode b_L_stops 9 = .ok (.invokevirtual 24, 3) := by decide +kernel
theorem d_L_stops_12 : decode b_L_stops 12 = .ok (.lastore, 1) := by decide +kernel
theorem d_L_stops_13 : decode b_L_stops 13 = .ok (.goto 7, 3) := by decide +kernel
theorem d_L_stops_16 : decode b_L_stops 16 = .ok (.astore 6, 2) := by decide +kernel
theorem d_L_stops_18 : decode b_L_stops 18 = .ok (.iconst 1, 1) := by decide +kernel
theorem d_L_stops_19 : decode b_L_stops 19 = .ok (.ireturn, 1) := by decide +kernel
theorem d_L_stops_20 : decode b_L_stops 20 = .ok (.iconst 0, 1) := by decide +kernel
theorem d_L_stops_21 : decode b_L_stops 21 = .ok (.ireturn, 1) := by decide +kernel
theorem d_L_highest_0 : decode b_L_highest 0 = .ok (.aload 5, 2) := by decide +kernel
theorem d_L_highest_2 : decode b_L_highest 2 = .ok (.iconst 0, 1) := by decide +kernel
theorem d_L_highest_3 : decode b_L_highest 3 = .ok (.aload_n 0, 1) := by decide +kernel
theorem d_L_highest_4 : decode b_L_highest 4 = .ok (.iload_n 1, 1) := by decide +kernel
theorem d_L_highest_5 : decode b_L_highest 5 = .ok (.iload_n 2, 1) := by decide +kernel
theorem d_L_highest_6 : decode b_L_highest 6 = .ok (.iload_n 3, 1) := by decide +kernel
theorem d_L_highest_7 : decode b_L_highest 7 = .ok (.iload 4, 2) := by decide +kernel
theorem d_L_highest_9 : decode b_L_highest 9 = .ok (.invokevirtual 28, 3) := by decide +kernel
theorem d_L_highest_12 : decode b_L_highest 12 = .ok (.lastore, 1) := by decide +kernel
theorem d_L_highest_13 : decode b_L_highest 13 = .ok (.goto 7, 3) := by decide +kernel
theorem d_L_highest_16 : decode b_L_highest 16 = .ok (.astore 6, 2) := by decide +kernel
theorem d_L_highest_18 : decode b_L_highest 18 = .ok (.iconst 1, 1) := by decide +kernel
theorem d_L_highest_19 : decode b_L_highest 19 = .ok (.ireturn, 1) := by decide +kernel
theorem d_L_highest_20 : decode b_L_highest 20 = .ok (.iconst 0, 1) := by decide +kernel
theorem d_L_highest_21 : decode b_L_highest 21 = .ok (.ireturn, 1) := by decide +kernel
theorem d_L_trip_0 : decode b_L_trip 0 = .ok (.aload 5, 2) := by decide +kernel
theorem d_L_trip_2 : decode b_L_trip 2 = .ok (.iconst 0, 1) := by decide +kernel
theorem d_L_trip_3 : decode b_L_trip 3 = .ok (.aload_n 0, 1) := by decide +kernel
theorem d_L_trip_4 : decode b_L_trip 4 = .ok (.iload_n 1, 1) := by decide +kernel
theorem d_L_trip_5 : decode b_L_trip 5 = .ok (.iload_n 2, 1) := by decide +kernel
theorem d_L_trip_6 : decode b_L_trip 6 = .ok (.iload_n 3, 1) := by decide +kernel
theorem d_L_trip_7 : decode b_L_trip 7 = .ok (.iload 4, 2) := by decide +kernel
theorem d_L_trip_9 : decode b_L_trip 9 = .ok (.invokevirtual 31, 3) := by decide +kernel
theorem d_L_trip_12 : decode b_L_trip 12 = .ok (.lastore, 1) := by decide +kernel
theorem d_L_trip_13 : decode b_L_trip 13 = .ok (.goto 7, 3) := by decide +kernel
theorem d_L_trip_16 : decode b_L_trip 16 = .ok (.astore 6, 2) := by decide +kernel
theorem d_L_trip_18 : decode b_L_trip 18 = .ok (.iconst 1, 1) := by decide +kernel
theorem d_L_trip_19 : decode b_L_trip 19 = .ok (.ireturn, 1) := by decide +kernel
theorem d_L_trip_20 : decode b_L_trip 20 = .ok (.iconst 0, 1) := by decide +kernel
theorem d_L_trip_21 : decode b_L_trip 21 = .ok (.ireturn, 1) := by decide +kernel
theorem d_L_compare_0 : decode b_L_compare 0 = .ok (.aload 5, 2) := by decide +kernel
theorem d_L_compare_2 : decode b_L_compare 2 = .ok (.iconst 0, 1) := by decide +kernel
theorem d_L_compare_3 : decode b_L_compare 3 = .ok (.aload_n 0, 1) := by decide +kernel
theorem d_L_compare_4 : decode b_L_compare 4 = .ok (.iload_n 1, 1) := by decide +kernel
theorem d_L_compare_5 : decode b_L_compare 5 = .ok (.iload_n 2, 1) := by decide +kernel
theorem d_L_compare_6 : decode b_L_compare 6 = .ok (.iload_n 3, 1) := by decide +kernel
theorem d_L_compare_7 : decode b_L_compare 7 = .ok (.iload 4, 2) := by decide +kernel
theorem d_L_compare_9 : decode b_L_compare 9 = .ok (.invokevirtual 34, 3) := by decide +kernel
theorem d_L_compare_12 : decode b_L_compare 12 = .ok (.i2l, 1) := by decide +kernel
theorem d_L_compare_13 : decode b_L_compare 13 = .ok (.lastore, 1) := by decide +kernel
theorem d_L_compare_14 : decode b_L_compare 14 = .ok (.goto 7, 3) := by decide +kernel
theorem d_L_compare_17 : decode b_L_compare 17 = .ok (.astore 6, 2) := by decide +kernel
theorem d_L_compare_19 : decode b_L_compare 19 = .ok (.iconst 1, 1) := by decide +kernel
theorem d_L_compare_20 : decode b_L_compare 20 = .ok (.ireturn, 1) := by decide +kernel
theorem d_L_compare_21 : decode b_L_compare 21 = .ok (.iconst 0, 1) := by decide +kernel
theorem d_L_compare_22 : decode b_L_compare 22 = .ok (.ireturn, 1) := by decide +kernel
theorem d_L_carried_0 : decode b_L_carried 0 = .ok (.aload_n 3, 1) := by decide +kernel
theorem d_L_carried_1 : decode b_L_carried 1 = .ok (.iconst 0, 1) := by decide +kernel
theorem d_L_carried_2 : decode b_L_carried 2 = .ok (.aload_n 0, 1) := by decide +kernel
theorem d_L_carried_3 : decode b_L_carried 3 = .ok (.iload_n 1, 1) := by decide +kernel
theorem d_L_carried_4 : decode b_L_carried 4 = .ok (.iload_n 2, 1) := by decide +kernel
theorem d_L_carried_5 : decode b_L_carried 5 = .ok (.invokevirtual 38, 3) := by decide +kernel
theorem d_L_carried_8 : decode b_L_carried 8 = .ok (.lastore, 1) := by decide +kernel
theorem d_L_carried_9 : decode b_L_carried 9 = .ok (.goto 11, 3) := by decide +kernel
theorem d_L_carried_12 : decode b_L_carried 12 = .ok (.astore 4, 2) := by decide +kernel
theorem d_L_carried_14 : decode b_L_carried 14 = .ok (.iconst 1, 1) := by decide +kernel
theorem d_L_carried_15 : decode b_L_carried 15 = .ok (.ireturn, 1) := by decide +kernel
theorem d_L_carried_16 : decode b_L_carried 16 = .ok (.astore 4, 2) := by decide +kernel
theorem d_L_carried_18 : decode b_L_carried 18 = .ok (.iconst 2, 1) := by decide +kernel
theorem d_L_carried_19 : decode b_L_carried 19 = .ok (.ireturn, 1) := by decide +kernel
theorem d_L_carried_20 : decode b_L_carried 20 = .ok (.iconst 0, 1) := by decide +kernel
theorem d_L_carried_21 : decode b_L_carried 21 = .ok (.ireturn, 1) := by decide +kernel
theorem d_L_cheapest_0 : decode b_L_cheapest 0 = .ok (.aload_n 2, 1) := by decide +kernel
theorem d_L_cheapest_1 : decode b_L_cheapest 1 = .ok (.iconst 0, 1) := by decide +kernel
theorem d_L_cheapest_2 : decode b_L_cheapest 2 = .ok (.aload_n 0, 1) := by decide +kernel
theorem d_L_cheapest_3 : decode b_L_cheapest 3 = .ok (.iload_n 1, 1) := by decide +kernel
theorem d_L_cheapest_4 : decode b_L_cheapest 4 = .ok (.invokevirtual 42, 3) := by decide +kernel
theorem d_L_cheapest_7 : decode b_L_cheapest 7 = .ok (.i2l, 1) := by decide +kernel
theorem d_L_cheapest_8 : decode b_L_cheapest 8 = .ok (.lastore, 1) := by decide +kernel
theorem d_L_cheapest_9 : decode b_L_cheapest 9 = .ok (.goto 9, 3) := by decide +kernel
theorem d_L_cheapest_12 : decode b_L_cheapest 12 = .ok (.astore_n 3, 1) := by decide +kernel
theorem d_L_cheapest_13 : decode b_L_cheapest 13 = .ok (.iconst 1, 1) := by decide +kernel
theorem d_L_cheapest_14 : decode b_L_cheapest 14 = .ok (.ireturn, 1) := by decide +kernel
theorem d_L_cheapest_15 : decode b_L_cheapest 15 = .ok (.astore_n 3, 1) := by decide +kernel
theorem d_L_cheapest_16 : decode b_L_cheapest 16 = .ok (.iconst 2, 1) := by decide +kernel
theorem d_L_cheapest_17 : decode b_L_cheapest 17 = .ok (.ireturn, 1) := by decide +kernel
theorem d_L_cheapest_18 : decode b_L_cheapest 18 = .ok (.iconst 0, 1) := by decide +kernel
theorem d_L_cheapest_19 : decode b_L_cheapest 19 = .ok (.ireturn, 1) := by decide +kernel
theorem d_L_split_0 : decode b_L_split 0 = .ok (.aload 4, 2) := by decide +kernel
theorem d_L_split_2 : decode b_L_split 2 = .ok (.iconst 0, 1) := by decide +kernel
theorem d_L_split_3 : decode b_L_split 3 = .ok (.aload_n 0, 1) := by decide +kernel
theorem d_L_split_4 : decode b_L_split 4 = .ok (.iload_n 1, 1) := by decide +kernel
theorem d_L_split_5 : decode b_L_split 5 = .ok (.iload_n 2, 1) := by decide +kernel
theorem d_L_split_6 : decode b_L_split 6 = .ok (.iload_n 3, 1) := by decide +kernel
theorem d_L_split_7 : decode b_L_split 7 = .ok (.invokevirtual 46, 3) := by decide +kernel
theorem d_L_split_10 : decode b_L_split 10 = .ok (.i2l, 1) := by decide +kernel
theorem d_L_split_11 : decode b_L_split 11 = .ok (.lastore, 1) := by decide +kernel
theorem d_L_split_12 : decode b_L_split 12 = .ok (.goto 11, 3) := by decide +kernel
theorem d_L_split_15 : decode b_L_split 15 = .ok (.astore 5, 2) := by decide +kernel
theorem d_L_split_17 : decode b_L_split 17 = .ok (.iconst 1, 1) := by decide +kernel
theorem d_L_split_18 : decode b_L_split 18 = .ok (.ireturn, 1) := by decide +kernel
theorem d_L_split_19 : decode b_L_split 19 = .ok (.astore 5, 2) := by decide +kernel
theorem d_L_split_21 : decode b_L_split 21 = .ok (.iconst 2, 1) := by decide +kernel
theorem d_L_split_22 : decode b_L_split 22 = .ok (.ireturn, 1) := by decide +kernel
theorem d_L_split_23 : decode b_L_split 23 = .ok (.iconst 0, 1) := by decide +kernel
theorem d_L_split_24 : decode b_L_split 24 = .ok (.ireturn, 1) := by decide +kernel
theorem d_L_out_0 : decode b_L_out 0 = .ok (.aload_n 2, 1) := by decide +kernel
theorem d_L_out_1 : decode b_L_out 1 = .ok (.iconst 0, 1) := by decide +kernel
theorem d_L_out_2 : decode b_L_out 2 = .ok (.aload_n 0, 1) := by decide +kernel
theorem d_L_out_3 : decode b_L_out 3 = .ok (.iload_n 1, 1) := by decide +kernel
theorem d_L_out_4 : decode b_L_out 4 = .ok (.invokevirtual 50, 3) := by decide +kernel
theorem d_L_out_7 : decode b_L_out 7 = .ok (.i2l, 1) := by decide +kernel
theorem d_L_out_8 : decode b_L_out 8 = .ok (.lastore, 1) := by decide +kernel
theorem d_L_out_9 : decode b_L_out 9 = .ok (.goto 6, 3) := by decide +kernel
theorem d_L_out_12 : decode b_L_out 12 = .ok (.astore_n 3, 1) := by decide +kernel
theorem d_L_out_13 : decode b_L_out 13 = .ok (.iconst 1, 1) := by decide +kernel
theorem d_L_out_14 : decode b_L_out 14 = .ok (.ireturn, 1) := by decide +kernel
theorem d_L_out_15 : decode b_L_out 15 = .ok (.iconst 0, 1) := by decide +kernel
theorem d_L_out_16 : decode b_L_out 16 = .ok (.ireturn, 1) := by decide +kernel
theorem d_L_there_0 : decode b_L_there 0 = .ok (.aload 4, 2) := by decide +kernel
theorem d_L_there_2 : decode b_L_there 2 = .ok (.iconst 0, 1) := by decide +kernel
theorem d_L_there_3 : decode b_L_there 3 = .ok (.aload_n 0, 1) := by decide +kernel
theorem d_L_there_4 : decode b_L_there 4 = .ok (.iload_n 1, 1) := by decide +kernel
theorem d_L_there_5 : decode b_L_there 5 = .ok (.iload_n 2, 1) := by decide +kernel
theorem d_L_there_6 : decode b_L_there 6 = .ok (.iload_n 3, 1) := by decide +kernel
theorem d_L_there_7 : decode b_L_there 7 = .ok (.invokevirtual 53, 3) := by decide +kernel
theorem d_L_there_10 : decode b_L_there 10 = .ok (.i2l, 1) := by decide +kernel
theorem d_L_there_11 : decode b_L_there 11 = .ok (.lastore, 1) := by decide +kernel
theorem d_L_there_12 : decode b_L_there 12 = .ok (.goto 7, 3) := by decide +kernel
theorem d_L_there_15 : decode b_L_there 15 = .ok (.astore 5, 2) := by decide +kernel
theorem d_L_there_17 : decode b_L_there 17 = .ok (.iconst 1, 1) := by decide +kernel
theorem d_L_there_18 : decode b_L_there 18 = .ok (.ireturn, 1) := by decide +kernel
theorem d_L_there_19 : decode b_L_there 19 = .ok (.iconst 0, 1) := by decide +kernel
theorem d_L_there_20 : decode b_L_there 20 = .ok (.ireturn, 1) := by decide +kernel
theorem d_L_crowd_0 : decode b_L_crowd 0 = .ok (.aload_n 3, 1) := by decide +kernel
theorem d_L_crowd_1 : decode b_L_crowd 1 = .ok (.iconst 0, 1) := by decide +kernel
theorem d_L_crowd_2 : decode b_L_crowd 2 = .ok (.aload_n 0, 1) := by decide +kernel
theorem d_L_crowd_3 : decode b_L_crowd 3 = .ok (.iload_n 1, 1) := by decide +kernel
theorem d_L_crowd_4 : decode b_L_crowd 4 = .ok (.iload_n 2, 1) := by decide +kernel
theorem d_L_crowd_5 : decode b_L_crowd 5 = .ok (.invokevirtual 56, 3) := by decide +kernel
theorem d_L_crowd_8 : decode b_L_crowd 8 = .ok (.i2l, 1) := by decide +kernel
theorem d_L_crowd_9 : decode b_L_crowd 9 = .ok (.lastore, 1) := by decide +kernel
theorem d_L_crowd_10 : decode b_L_crowd 10 = .ok (.goto 7, 3) := by decide +kernel
theorem d_L_crowd_13 : decode b_L_crowd 13 = .ok (.astore 4, 2) := by decide +kernel
theorem d_L_crowd_15 : decode b_L_crowd 15 = .ok (.iconst 1, 1) := by decide +kernel
theorem d_L_crowd_16 : decode b_L_crowd 16 = .ok (.ireturn, 1) := by decide +kernel
theorem d_L_crowd_17 : decode b_L_crowd 17 = .ok (.iconst 0, 1) := by decide +kernel
theorem d_L_crowd_18 : decode b_L_crowd 18 = .ok (.ireturn, 1) := by decide +kernel
theorem d_L_law_0 : decode code 0 = .ok (.new 8, 3) := by decide +kernel
theorem d_L_law_3 : decode code 3 = .ok (.dup, 1) := by decide +kernel
theorem d_L_law_4 : decode code 4 = .ok (.invokespecial 59, 3) := by decide +kernel
theorem d_L_law_7 : decode code 7 = .ok (.astore_n 1, 1) := by decide +kernel
theorem d_L_law_8 : decode code 8 = .ok (.new 60, 3) := by decide +kernel
theorem d_L_law_11 : decode code 11 = .ok (.dup, 1) := by decide +kernel
theorem d_L_law_12 : decode code 12 = .ok (.invokespecial 62, 3) := by decide +kernel
theorem d_L_law_15 : decode code 15 = .ok (.astore_n 2, 1) := by decide +kernel
theorem d_L_law_16 : decode code 16 = .ok (.iconst 1, 1) := by decide +kernel
theorem d_L_law_17 : decode code 17 = .ok (.newarray .long, 2) := by decide +kernel
theorem d_L_law_19 : decode code 19 = .ok (.astore_n 3, 1) := by decide +kernel
theorem d_L_law_20 : decode code 20 = .ok (.iconst 0, 1) := by decide +kernel
theorem d_L_law_21 : decode code 21 = .ok (.istore 4, 2) := by decide +kernel
theorem d_L_law_23 : decode code 23 = .ok (.iload 4, 2) := by decide +kernel
theorem d_L_law_25 : decode code 25 = .ok (.aload_n 0, 1) := by decide +kernel
theorem d_L_law_26 : decode code 26 = .ok (.arraylength, 1) := by decide +kernel
theorem d_L_law_27 : decode code 27 = .ok (.bipush 6, 2) := by decide +kernel
theorem d_L_law_29 : decode code 29 = .ok (.isub, 1) := by decide +kernel
theorem d_L_law_30 : decode code 30 = .ok (.if_icmp .gt 1096, 3) := by decide +kernel
theorem d_L_law_33 : decode code 33 = .ok (.aload_n 0, 1) := by decide +kernel
theorem d_L_law_34 : decode code 34 = .ok (.iload 4, 2) := by decide +kernel
theorem d_L_law_36 : decode code 36 = .ok (.iaload, 1) := by decide +kernel
theorem d_L_law_37 : decode code 37 = .ok (.bipush 15, 2) := by decide +kernel
theorem d_L_law_39 : decode code 39 = .ok (.iand, 1) := by decide +kernel
theorem d_L_law_40 : decode code 40 = .ok (.tableswitch 1080 0 12 #[68, 136, 204, 308, 399, 490, 581, 673, 740, 796, 876, 932, 1012], 68) := by decide +kernel
theorem d_L_law_108 : decode code 108 = .ok (.aload_n 1, 1) := by decide +kernel
theorem d_L_law_109 : decode code 109 = .ok (.aload_n 0, 1) := by decide +kernel
theorem d_L_law_110 : decode code 110 = .ok (.iload 4, 2) := by decide +kernel
theorem d_L_law_112 : decode code 112 = .ok (.iconst 1, 1) := by decide +kernel
theorem d_L_law_113 : decode code 113 = .ok (.iadd, 1) := by decide +kernel
theorem d_L_law_114 : decode code 114 = .ok (.iaload, 1) := by decide +kernel
theorem d_L_law_115 : decode code 115 = .ok (.aload_n 0, 1) := by decide +kernel
theorem d_L_law_116 : decode code 116 = .ok (.iload 4, 2) := by decide +kernel
theorem d_L_law_118 : decode code 118 = .ok (.iconst 2, 1) := by decide +kernel
theorem d_L_law_119 : decode code 119 = .ok (.iadd, 1) := by decide +kernel
theorem d_L_law_120 : decode code 120 = .ok (.iaload, 1) := by decide +kernel
theorem d_L_law_121 : decode code 121 = .ok (.aload_n 3, 1) := by decide +kernel
theorem d_L_law_122 : decode code 122 = .ok (.invokestatic 63, 3) := by decide +kernel
theorem d_L_law_125 : decode code 125 = .ok (.istore 5, 2) := by decide +kernel
theorem d_L_law_127 : decode code 127 = .ok (.aload_n 2, 1) := by decide +kernel
theorem d_L_law_128 : decode code 128 = .ok (.aload_n 0, 1) := by decide +kernel
theorem d_L_law_129 : decode code 129 = .ok (.iload 4, 2) := by decide +kernel
theorem d_L_law_131 : decode code 131 = .ok (.iconst 1, 1) := by decide +kernel
theorem d_L_law_132 : decode code 132 = .ok (.iadd, 1) := by decide +kernel
theorem d_L_law_133 : decode code 133 = .ok (.iaload, 1) := by decide +kernel
theorem d_L_law_134 : decode code 134 = .ok (.aload_n 0, 1) := by decide +kernel
theorem d_L_law_135 : decode code 135 = .ok (.iload 4, 2) := by decide +kernel
theorem d_L_law_137 : decode code 137 = .ok (.iconst 2, 1) := by decide +kernel
theorem d_L_law_138 : decode code 138 = .ok (.iadd, 1) := by decide +kernel
theorem d_L_law_139 : decode code 139 = .ok (.iaload, 1) := by decide +kernel
theorem d_L_law_140 : decode code 140 = .ok (.invokevirtual 68, 3) := by decide +kernel
theorem d_L_law_143 : decode code 143 = .ok (.istore 6, 2) := by decide +kernel
theorem d_L_law_145 : decode code 145 = .ok (.aload_n 2, 1) := by decide +kernel
theorem d_L_law_146 : decode code 146 = .ok (.invokevirtual 69, 3) := by decide +kernel
theorem d_L_law_149 : decode code 149 = .ok (.iload 5, 2) := by decide +kernel
theorem d_L_law_151 : decode code 151 = .ok (.if_icmp .eq 5, 3) := by decide +kernel
theorem d_L_law_154 : decode code 154 = .ok (.iconst 0, 1) := by decide +kernel
theorem d_L_law_155 : decode code 155 = .ok (.ireturn, 1) := by decide +kernel
theorem d_L_law_156 : decode code 156 = .ok (.iload 5, 2) := by decide +kernel
theorem d_L_law_158 : decode code 158 = .ok (.ifCond .ne 15, 3) := by decide +kernel
theorem d_L_law_161 : decode code 161 = .ok (.aload_n 3, 1) := by decide +kernel
theorem d_L_law_162 : decode code 162 = .ok (.iconst 0, 1) := by decide +kernel
theorem d_L_law_163 : decode code 163 = .ok (.laload, 1) := by decide +kernel
theorem d_L_law_164 : decode code 164 = .ok (.iload 6, 2) := by decide +kernel
theorem d_L_law_166 : decode code 166 = .ok (.i2l, 1) := by decide +kernel
theorem d_L_law_167 : decode code 167 = .ok (.lcmp, 1) := by decide +kernel
theorem d_L_law_168 : decode code 168 = .ok (.ifCond .eq 5, 3) := by decide +kernel
theorem d_L_law_171 : decode code 171 = .ok (.iconst 0, 1) := by decide +kernel
theorem d_L_law_172 : decode code 172 = .ok (.ireturn, 1) := by decide +kernel
theorem d_L_law_173 : decode code 173 = .ok (.goto 947, 3) := by decide +kernel
theorem d_L_law_176 : decode code 176 = .ok (.aload_n 1, 1) := by decide +kernel
theorem d_L_law_177 : decode code 177 = .ok (.aload_n 0, 1) := by decide +kernel
theorem d_L_law_178 : decode code 178 = .ok (.iload 4, 2) := by decide +kernel
theorem d_L_law_180 : decode code 180 = .ok (.iconst 1, 1) := by decide +kernel
theorem d_L_law_181 : decode code 181 = .ok (.iadd, 1) := by decide +kernel
theorem d_L_law_182 : decode code 182 = .ok (.iaload, 1) := by decide +kernel
theorem d_L_law_183 : decode code 183 = .ok (.aload_n 0, 1) := by decide +kernel
theorem d_L_law_184 : decode code 184 = .ok (.iload 4, 2) := by decide +kernel
theorem d_L_law_186 : decode code 186 = .ok (.iconst 2, 1) := by decide +kernel
theorem d_L_law_187 : decode code 187 = .ok (.iadd, 1) := by decide +kernel
theorem d_L_law_188 : decode code 188 = .ok (.iaload, 1) := by decide +kernel
theorem d_L_law_189 : decode code 189 = .ok (.aload_n 3, 1) := by decide +kernel
theorem d_L_law_190 : decode code 190 = .ok (.invokestatic 73, 3) := by decide +kernel
theorem d_L_law_193 : decode code 193 = .ok (.istore 5, 2) := by decide +kernel
theorem d_L_law_195 : decode code 195 = .ok (.aload_n 2, 1) := by decide +kernel
theorem d_L_law_196 : decode code 196 = .ok (.aload_n 0, 1) := by decide +kernel
theorem d_L_law_197 : decode code 197 = .ok (.iload 4, 2) := by decide +kernel
theorem d_L_law_199 : decode code 199 = .ok (.iconst 1, 1) := by decide +kernel
theorem d_L_law_200 : decode code 200 = .ok (.iadd, 1) := by decide +kernel
theorem d_L_law_201 : decode code 201 = .ok (.iaload, 1) := by decide +kernel
theorem d_L_law_202 : decode code 202 = .ok (.aload_n 0, 1) := by decide +kernel
theorem d_L_law_203 : decode code 203 = .ok (.iload 4, 2) := by decide +kernel
theorem d_L_law_205 : decode code 205 = .ok (.iconst 2, 1) := by decide +kernel
theorem d_L_law_206 : decode code 206 = .ok (.iadd, 1) := by decide +kernel
theorem d_L_law_207 : decode code 207 = .ok (.iaload, 1) := by decide +kernel
theorem d_L_law_208 : decode code 208 = .ok (.invokevirtual 75, 3) := by decide +kernel
theorem d_L_law_211 : decode code 211 = .ok (.istore 6, 2) := by decide +kernel
theorem d_L_law_213 : decode code 213 = .ok (.aload_n 2, 1) := by decide +kernel
theorem d_L_law_214 : decode code 214 = .ok (.invokevirtual 69, 3) := by decide +kernel
theorem d_L_law_217 : decode code 217 = .ok (.iload 5, 2) := by decide +kernel
theorem d_L_law_219 : decode code 219 = .ok (.if_icmp .eq 5, 3) := by decide +kernel
theorem d_L_law_222 : decode code 222 = .ok (.iconst 0, 1) := by decide +kernel
theorem d_L_law_223 : decode code 223 = .ok (.ireturn, 1) := by decide +kernel
theorem d_L_law_224 : decode code 224 = .ok (.iload 5, 2) := by decide +kernel
theorem d_L_law_226 : decode code 226 = .ok (.ifCond .ne 15, 3) := by decide +kernel
theorem d_L_law_229 : decode code 229 = .ok (.aload_n 3, 1) := by decide +kernel
theorem d_L_law_230 : decode code 230 = .ok (.iconst 0, 1) := by decide +kernel
theorem d_L_law_231 : decode code 231 = .ok (.laload, 1) := by decide +kernel
theorem d_L_law_232 : decode code 232 = .ok (.iload 6, 2) := by decide +kernel
theorem d_L_law_234 : decode code 234 = .ok (.i2l, 1) := by decide +kernel
theorem d_L_law_235 : decode code 235 = .ok (.lcmp, 1) := by decide +kernel
theorem d_L_law_236 : decode code 236 = .ok (.ifCond .eq 5, 3) := by decide +kernel
theorem d_L_law_239 : decode code 239 = .ok (.iconst 0, 1) := by decide +kernel
theorem d_L_law_240 : decode code 240 = .ok (.ireturn, 1) := by decide +kernel
theorem d_L_law_241 : decode code 241 = .ok (.goto 879, 3) := by decide +kernel
theorem d_L_law_244 : decode code 244 = .ok (.aload_n 1, 1) := by decide +kernel
theorem d_L_law_245 : decode code 245 = .ok (.aload_n 0, 1) := by decide +kernel
theorem d_L_law_246 : decode code 246 = .ok (.iload 4, 2) := by decide +kernel
theorem d_L_law_248 : decode code 248 = .ok (.iconst 1, 1) := by decide +kernel
theorem d_L_law_249 : decode code 249 = .ok (.iadd, 1) := by decide +kernel
theorem d_L_law_250 : decode code 250 = .ok (.iaload, 1) := by decide +kernel
theorem d_L_law_251 : decode code 251 = .ok (.aload_n 0, 1) := by decide +kernel
theorem d_L_law_252 : decode code 252 = .ok (.iload 4, 2) := by decide +kernel
theorem d_L_law_254 : decode code 254 = .ok (.iconst 2, 1) := by decide +kernel
theorem d_L_law_255 : decode code 255 = .ok (.iadd, 1) := by decide +kernel
theorem d_L_law_256 : decode code 256 = .ok (.iaload, 1) := by decide +kernel
theorem d_L_law_257 : decode code 257 = .ok (.aload_n 0, 1) := by decide +kernel
theorem d_L_law_258 : decode code 258 = .ok (.iload 4, 2) := by decide +kernel
theorem d_L_law_260 : decode code 260 = .ok (.iconst 3, 1) := by decide +kernel
theorem d_L_law_261 : decode code 261 = .ok (.iadd, 1) := by decide +kernel
theorem d_L_law_262 : decode code 262 = .ok (.iaload, 1) := by decide +kernel
theorem d_L_law_263 : decode code 263 = .ok (.aload_n 0, 1) := by decide +kernel
theorem d_L_law_264 : decode code 264 = .ok (.iload 4, 2) := by decide +kernel
theorem d_L_law_266 : decode code 266 = .ok (.iconst 4, 1) := by decide +kernel
theorem d_L_law_267 : decode code 267 = .ok (.iadd, 1) := by decide +kernel
theorem d_L_law_268 : decode code 268 = .ok (.iaload, 1) := by decide +kernel
theorem d_L_law_269 : decode code 269 = .ok (.aload_n 0, 1) := by decide +kernel
theorem d_L_law_270 : decode code 270 = .ok (.iload 4, 2) := by decide +kernel
theorem d_L_law_272 : decode code 272 = .ok (.iconst 5, 1) := by decide +kernel
theorem d_L_law_273 : decode code 273 = .ok (.iadd, 1) := by decide +kernel
theorem d_L_law_274 : decode code 274 = .ok (.iaload, 1) := by decide +kernel
theorem d_L_law_275 : decode code 275 = .ok (.aload_n 3, 1) := by decide +kernel
theorem d_L_law_276 : decode code 276 = .ok (.invokestatic 76, 3) := by decide +kernel
theorem d_L_law_279 : decode code 279 = .ok (.istore 5, 2) := by decide +kernel
theorem d_L_law_281 : decode code 281 = .ok (.aload_n 2, 1) := by decide +kernel
theorem d_L_law_282 : decode code 282 = .ok (.aload_n 0, 1) := by decide +kernel
theorem d_L_law_283 : decode code 283 = .ok (.iload 4, 2) := by decide +kernel
theorem d_L_law_285 : decode code 285 = .ok (.iconst 1, 1) := by decide +kernel
theorem d_L_law_286 : decode code 286 = .ok (.iadd, 1) := by decide +kernel
theorem d_L_law_287 : decode code 287 = .ok (.iaload, 1) := by decide +kernel
theorem d_L_law_288 : decode code 288 = .ok (.aload_n 0, 1) := by decide +kernel
theorem d_L_law_289 : decode code 289 = .ok (.iload 4, 2) := by decide +kernel
theorem d_L_law_291 : decode code 291 = .ok (.iconst 2, 1) := by decide +kernel
theorem d_L_law_292 : decode code 292 = .ok (.iadd, 1) := by decide +kernel
theorem d_L_law_293 : decode code 293 = .ok (.iaload, 1) := by decide +kernel
theorem d_L_law_294 : decode code 294 = .ok (.aload_n 0, 1) := by decide +kernel
theorem d_L_law_295 : decode code 295 = .ok (.iload 4, 2) := by decide +kernel
theorem d_L_law_297 : decode code 297 = .ok (.iconst 3, 1) := by decide +kernel
theorem d_L_law_298 : decode code 298 = .ok (.iadd, 1) := by decide +kernel
theorem d_L_law_299 : decode code 299 = .ok (.iaload, 1) := by decide +kernel
theorem d_L_law_300 : decode code 300 = .ok (.aload_n 0, 1) := by decide +kernel
theorem d_L_law_301 : decode code 301 = .ok (.iload 4, 2) := by decide +kernel
theorem d_L_law_303 : decode code 303 = .ok (.iconst 4, 1) := by decide +kernel
theorem d_L_law_304 : decode code 304 = .ok (.iadd, 1) := by decide +kernel
theorem d_L_law_305 : decode code 305 = .ok (.iaload, 1) := by decide +kernel
theorem d_L_law_306 : decode code 306 = .ok (.aload_n 0, 1) := by decide +kernel
theorem d_L_law_307 : decode code 307 = .ok (.iload 4, 2) := by decide +kernel
theorem d_L_law_309 : decode code 309 = .ok (.iconst 5, 1) := by decide +kernel
theorem d_L_law_310 : decode code 310 = .ok (.iadd, 1) := by decide +kernel
theorem d_L_law_311 : decode code 311 = .ok (.iaload, 1) := by decide +kernel
theorem d_L_law_312 : decode code 312 = .ok (.invokevirtual 79, 3) := by decide +kernel
theorem d_L_law_315 : decode code 315 = .ok (.istore 6, 2) := by decide +kernel
theorem d_L_law_317 : decode code 317 = .ok (.aload_n 2, 1) := by decide +kernel
theorem d_L_law_318 : decode code 318 = .ok (.invokevirtual 69, 3) := by decide +kernel
theorem d_L_law_321 : decode code 321 = .ok (.iload 5, 2) := by decide +kernel
theorem d_L_law_323 : decode code 323 = .ok (.if_icmp .eq 5, 3) := by decide +kernel
theorem d_L_law_326 : decode code 326 = .ok (.iconst 0, 1) := by decide +kernel
theorem d_L_law_327 : decode code 327 = .ok (.ireturn, 1) := by decide +kernel
theorem d_L_law_328 : decode code 328 = .ok (.iload 5, 2) := by decide +kernel
theorem d_L_law_330 : decode code 330 = .ok (.ifCond .ne 15, 3) := by decide +kernel
theorem d_L_law_333 : decode code 333 = .ok (.aload_n 3, 1) := by decide +kernel
theorem d_L_law_334 : decode code 334 = .ok (.iconst 0, 1) := by decide +kernel
theorem d_L_law_335 : decode code 335 = .ok (.laload, 1) := by decide +kernel
theorem d_L_law_336 : decode code 336 = .ok (.iload 6, 2) := by decide +kernel
theorem d_L_law_338 : decode code 338 = .ok (.i2l, 1) := by decide +kernel
theorem d_L_law_339 : decode code 339 = .ok (.lcmp, 1) := by decide +kernel
theorem d_L_law_340 : decode code 340 = .ok (.ifCond .eq 5, 3) := by decide +kernel
theorem d_L_law_343 : decode code 343 = .ok (.iconst 0, 1) := by decide +kernel
theorem d_L_law_344 : decode code 344 = .ok (.ireturn, 1) := by decide +kernel
theorem d_L_law_345 : decode code 345 = .ok (.goto 775, 3) := by decide +kernel
theorem d_L_law_348 : decode code 348 = .ok (.aload_n 1, 1) := by decide +kernel
theorem d_L_law_349 : decode code 349 = .ok (.aload_n 0, 1) := by decide +kernel
theorem d_L_law_350 : decode code 350 = .ok (.iload 4, 2) := by decide +kernel
theorem d_L_law_352 : decode code 352 = .ok (.iconst 1, 1) := by decide +kernel
theorem d_L_law_353 : decode code 353 = .ok (.iadd, 1) := by decide +kernel
theorem d_L_law_354 : decode code 354 = .ok (.iaload, 1) := by decide +kernel
theorem d_L_law_355 : decode code 355 = .ok (.aload_n 0, 1) := by decide +kernel
theorem d_L_law_356 : decode code 356 = .ok (.iload 4, 2) := by decide +kernel
theorem d_L_law_358 : decode code 358 = .ok (.iconst 2, 1) := by decide +kernel
theorem d_L_law_359 : decode code 359 = .ok (.iadd, 1) := by decide +kernel
theorem d_L_law_360 : decode code 360 = .ok (.iaload, 1) := by decide +kernel
theorem d_L_law_361 : decode code 361 = .ok (.aload_n 0, 1) := by decide +kernel
theorem d_L_law_362 : decode code 362 = .ok (.iload 4, 2) := by decide +kernel
theorem d_L_law_364 : decode code 364 = .ok (.iconst 3, 1) := by decide +kernel
theorem d_L_law_365 : decode code 365 = .ok (.iadd, 1) := by decide +kernel
theorem d_L_law_366 : decode code 366 = .ok (.iaload, 1) := by decide +kernel
theorem d_L_law_367 : decode code 367 = .ok (.aload_n 0, 1) := by decide +kernel
theorem d_L_law_368 : decode code 368 = .ok (.iload 4, 2) := by decide +kernel
theorem d_L_law_370 : decode code 370 = .ok (.iconst 4, 1) := by decide +kernel
theorem d_L_law_371 : decode code 371 = .ok (.iadd, 1) := by decide +kernel
theorem d_L_law_372 : decode code 372 = .ok (.iaload, 1) := by decide +kernel
theorem d_L_law_373 : decode code 373 = .ok (.aload_n 3, 1) := by decide +kernel
theorem d_L_law_374 : decode code 374 = .ok (.invokestatic 80, 3) := by decide +kernel
theorem d_L_law_377 : decode code 377 = .ok (.istore 5, 2) := by decide +kernel
theorem d_L_law_379 : decode code 379 = .ok (.aload_n 2, 1) := by decide +kernel
theorem d_L_law_380 : decode code 380 = .ok (.aload_n 0, 1) := by decide +kernel
theorem d_L_law_381 : decode code 381 = .ok (.iload 4, 2) := by decide +kernel
theorem d_L_law_383 : decode code 383 = .ok (.iconst 1, 1) := by decide +kernel
theorem d_L_law_384 : decode code 384 = .ok (.iadd, 1) := by decide +kernel
theorem d_L_law_385 : decode code 385 = .ok (.iaload, 1) := by decide +kernel
theorem d_L_law_386 : decode code 386 = .ok (.aload_n 0, 1) := by decide +kernel
theorem d_L_law_387 : decode code 387 = .ok (.iload 4, 2) := by decide +kernel
theorem d_L_law_389 : decode code 389 = .ok (.iconst 2, 1) := by decide +kernel
theorem d_L_law_390 : decode code 390 = .ok (.iadd, 1) := by decide +kernel
theorem d_L_law_391 : decode code 391 = .ok (.iaload, 1) := by decide +kernel
theorem d_L_law_392 : decode code 392 = .ok (.aload_n 0, 1) := by decide +kernel
theorem d_L_law_393 : decode code 393 = .ok (.iload 4, 2) := by decide +kernel
theorem d_L_law_395 : decode code 395 = .ok (.iconst 3, 1) := by decide +kernel
theorem d_L_law_396 : decode code 396 = .ok (.iadd, 1) := by decide +kernel
theorem d_L_law_397 : decode code 397 = .ok (.iaload, 1) := by decide +kernel
theorem d_L_law_398 : decode code 398 = .ok (.aload_n 0, 1) := by decide +kernel
theorem d_L_law_399 : decode code 399 = .ok (.iload 4, 2) := by decide +kernel
theorem d_L_law_401 : decode code 401 = .ok (.iconst 4, 1) := by decide +kernel
theorem d_L_law_402 : decode code 402 = .ok (.iadd, 1) := by decide +kernel
theorem d_L_law_403 : decode code 403 = .ok (.iaload, 1) := by decide +kernel
theorem d_L_law_404 : decode code 404 = .ok (.invokevirtual 83, 3) := by decide +kernel
theorem d_L_law_407 : decode code 407 = .ok (.lstore 6, 2) := by decide +kernel
theorem d_L_law_409 : decode code 409 = .ok (.aload_n 2, 1) := by decide +kernel
theorem d_L_law_410 : decode code 410 = .ok (.invokevirtual 69, 3) := by decide +kernel
theorem d_L_law_413 : decode code 413 = .ok (.iload 5, 2) := by decide +kernel
theorem d_L_law_415 : decode code 415 = .ok (.if_icmp .eq 5, 3) := by decide +kernel
theorem d_L_law_418 : decode code 418 = .ok (.iconst 0, 1) := by decide +kernel
theorem d_L_law_419 : decode code 419 = .ok (.ireturn, 1) := by decide +kernel
theorem d_L_law_420 : decode code 420 = .ok (.iload 5, 2) := by decide +kernel
theorem d_L_law_422 : decode code 422 = .ok (.ifCond .ne 14, 3) := by decide +kernel
theorem d_L_law_425 : decode code 425 = .ok (.aload_n 3, 1) := by decide +kernel
theorem d_L_law_426 : decode code 426 = .ok (.iconst 0, 1) := by decide +kernel
theorem d_L_law_427 : decode code 427 = .ok (.laload, 1) := by decide +kernel
theorem d_L_law_428 : decode code 428 = .ok (.lload 6, 2) := by decide +kernel
theorem d_L_law_430 : decode code 430 = .ok (.lcmp, 1) := by decide +kernel
theorem d_L_law_431 : decode code 431 = .ok (.ifCond .eq 5, 3) := by decide +kernel
theorem d_L_law_434 : decode code 434 = .ok (.iconst 0, 1) := by decide +kernel
theorem d_L_law_435 : decode code 435 = .ok (.ireturn, 1) := by decide +kernel
theorem d_L_law_436 : decode code 436 = .ok (.goto 684, 3) := by decide +kernel
theorem d_L_law_439 : decode code 439 = .ok (.aload_n 1, 1) := by decide +kernel
theorem d_L_law_440 : decode code 440 = .ok (.aload_n 0, 1) := by decide +kernel
theorem d_L_law_441 : decode code 441 = .ok (.iload 4, 2) := by decide +kernel
theorem d_L_law_443 : decode code 443 = .ok (.iconst 1, 1) := by decide +kernel
theorem d_L_law_444 : decode code 444 = .ok (.iadd, 1) := by decide +kernel
theorem d_L_law_445 : decode code 445 = .ok (.iaload, 1) := by decide +kernel
theorem d_L_law_446 : decode code 446 = .ok (.aload_n 0, 1) := by decide +kernel
theorem d_L_law_447 : decode code 447 = .ok (.iload 4, 2) := by decide +kernel
theorem d_L_law_449 : decode code 449 = .ok (.iconst 2, 1) := by decide +kernel
theorem d_L_law_450 : decode code 450 = .ok (.iadd, 1) := by decide +kernel
theorem d_L_law_451 : decode code 451 = .ok (.iaload, 1) := by decide +kernel
theorem d_L_law_452 : decode code 452 = .ok (.aload_n 0, 1) := by decide +kernel
theorem d_L_law_453 : decode code 453 = .ok (.iload 4, 2) := by decide +kernel
theorem d_L_law_455 : decode code 455 = .ok (.iconst 3, 1) := by decide +kernel
theorem d_L_law_456 : decode code 456 = .ok (.iadd, 1) := by decide +kernel
theorem d_L_law_457 : decode code 457 = .ok (.iaload, 1) := by decide +kernel
theorem d_L_law_458 : decode code 458 = .ok (.aload_n 0, 1) := by decide +kernel
theorem d_L_law_459 : decode code 459 = .ok (.iload 4, 2) := by decide +kernel
theorem d_L_law_461 : decode code 461 = .ok (.iconst 4, 1) := by decide +kernel
theorem d_L_law_462 : decode code 462 = .ok (.iadd, 1) := by decide +kernel
theorem d_L_law_463 : decode code 463 = .ok (.iaload, 1) := by decide +kernel
theorem d_L_law_464 : decode code 464 = .ok (.aload_n 3, 1) := by decide +kernel
theorem d_L_law_465 : decode code 465 = .ok (.invokestatic 84, 3) := by decide +kernel
theorem d_L_law_468 : decode code 468 = .ok (.istore 5, 2) := by decide +kernel
theorem d_L_law_470 : decode code 470 = .ok (.aload_n 2, 1) := by decide +kernel
theorem d_L_law_471 : decode code 471 = .ok (.aload_n 0, 1) := by decide +kernel
theorem d_L_law_472 : decode code 472 = .ok (.iload 4, 2) := by decide +kernel
theorem d_L_law_474 : decode code 474 = .ok (.iconst 1, 1) := by decide +kernel
theorem d_L_law_475 : decode code 475 = .ok (.iadd, 1) := by decide +kernel
theorem d_L_law_476 : decode code 476 = .ok (.iaload, 1) := by decide +kernel
theorem d_L_law_477 : decode code 477 = .ok (.aload_n 0, 1) := by decide +kernel
theorem d_L_law_478 : decode code 478 = .ok (.iload 4, 2) := by decide +kernel
theorem d_L_law_480 : decode code 480 = .ok (.iconst 2, 1) := by decide +kernel
theorem d_L_law_481 : decode code 481 = .ok (.iadd, 1) := by decide +kernel
theorem d_L_law_482 : decode code 482 = .ok (.iaload, 1) := by decide +kernel
theorem d_L_law_483 : decode code 483 = .ok (.aload_n 0, 1) := by decide +kernel
theorem d_L_law_484 : decode code 484 = .ok (.iload 4, 2) := by decide +kernel
theorem d_L_law_486 : decode code 486 = .ok (.iconst 3, 1) := by decide +kernel
theorem d_L_law_487 : decode code 487 = .ok (.iadd, 1) := by decide +kernel
theorem d_L_law_488 : decode code 488 = .ok (.iaload, 1) := by decide +kernel
theorem d_L_law_489 : decode code 489 = .ok (.aload_n 0, 1) := by decide +kernel
theorem d_L_law_490 : decode code 490 = .ok (.iload 4, 2) := by decide +kernel
theorem d_L_law_492 : decode code 492 = .ok (.iconst 4, 1) := by decide +kernel
theorem d_L_law_493 : decode code 493 = .ok (.iadd, 1) := by decide +kernel
theorem d_L_law_494 : decode code 494 = .ok (.iaload, 1) := by decide +kernel
theorem d_L_law_495 : decode code 495 = .ok (.invokevirtual 86, 3) := by decide +kernel
theorem d_L_law_498 : decode code 498 = .ok (.lstore 6, 2) := by decide +kernel
theorem d_L_law_500 : decode code 500 = .ok (.aload_n 2, 1) := by decide +kernel
theorem d_L_law_501 : decode code 501 = .ok (.invokevirtual 69, 3) := by decide +kernel
theorem d_L_law_504 : decode code 504 = .ok (.iload 5, 2) := by decide +kernel
theorem d_L_law_506 : decode code 506 = .ok (.if_icmp .eq 5, 3) := by decide +kernel
theorem d_L_law_509 : decode code 509 = .ok (.iconst 0, 1) := by decide +kernel
theorem d_L_law_510 : decode code 510 = .ok (.ireturn, 1) := by decide +kernel
theorem d_L_law_511 : decode code 511 = .ok (.iload 5, 2) := by decide +kernel
theorem d_L_law_513 : decode code 513 = .ok (.ifCond .ne 14, 3) := by decide +kernel
theorem d_L_law_516 : decode code 516 = .ok (.aload_n 3, 1) := by decide +kernel
theorem d_L_law_517 : decode code 517 = .ok (.iconst 0, 1) := by decide +kernel
theorem d_L_law_518 : decode code 518 = .ok (.laload, 1) := by decide +kernel
theorem d_L_law_519 : decode code 519 = .ok (.lload 6, 2) := by decide +kernel
theorem d_L_law_521 : decode code 521 = .ok (.lcmp, 1) := by decide +kernel
theorem d_L_law_522 : decode code 522 = .ok (.ifCond .eq 5, 3) := by decide +kernel
theorem d_L_law_525 : decode code 525 = .ok (.iconst 0, 1) := by decide +kernel
theorem d_L_law_526 : decode code 526 = .ok (.ireturn, 1) := by decide +kernel
theorem d_L_law_527 : decode code 527 = .ok (.goto 593, 3) := by decide +kernel
theorem d_L_law_530 : decode code 530 = .ok (.aload_n 1, 1) := by decide +kernel
theorem d_L_law_531 : decode code 531 = .ok (.aload_n 0, 1) := by decide +kernel
theorem d_L_law_532 : decode code 532 = .ok (.iload 4, 2) := by decide +kernel
theorem d_L_law_534 : decode code 534 = .ok (.iconst 1, 1) := by decide +kernel
theorem d_L_law_535 : decode code 535 = .ok (.iadd, 1) := by decide +kernel
theorem d_L_law_536 : decode code 536 = .ok (.iaload, 1) := by decide +kernel
theorem d_L_law_537 : decode code 537 = .ok (.aload_n 0, 1) := by decide +kernel
theorem d_L_law_538 : decode code 538 = .ok (.iload 4, 2) := by decide +kernel
theorem d_L_law_540 : decode code 540 = .ok (.iconst 2, 1) := by decide +kernel
theorem d_L_law_541 : decode code 541 = .ok (.iadd, 1) := by decide +kernel
theorem d_L_law_542 : decode code 542 = .ok (.iaload, 1) := by decide +kernel
theorem d_L_law_543 : decode code 543 = .ok (.aload_n 0, 1) := by decide +kernel
theorem d_L_law_544 : decode code 544 = .ok (.iload 4, 2) := by decide +kernel
theorem d_L_law_546 : decode code 546 = .ok (.iconst 3, 1) := by decide +kernel
theorem d_L_law_547 : decode code 547 = .ok (.iadd, 1) := by decide +kernel
theorem d_L_law_548 : decode code 548 = .ok (.iaload, 1) := by decide +kernel
theorem d_L_law_549 : decode code 549 = .ok (.aload_n 0, 1) := by decide +kernel
theorem d_L_law_550 : decode code 550 = .ok (.iload 4, 2) := by decide +kernel
theorem d_L_law_552 : decode code 552 = .ok (.iconst 4, 1) := by decide +kernel
theorem d_L_law_553 : decode code 553 = .ok (.iadd, 1) := by decide +kernel
theorem d_L_law_554 : decode code 554 = .ok (.iaload, 1) := by decide +kernel
theorem d_L_law_555 : decode code 555 = .ok (.aload_n 3, 1) := by decide +kernel
theorem d_L_law_556 : decode code 556 = .ok (.invokestatic 87, 3) := by decide +kernel
theorem d_L_law_559 : decode code 559 = .ok (.istore 5, 2) := by decide +kernel
theorem d_L_law_561 : decode code 561 = .ok (.aload_n 2, 1) := by decide +kernel
theorem d_L_law_562 : decode code 562 = .ok (.aload_n 0, 1) := by decide +kernel
theorem d_L_law_563 : decode code 563 = .ok (.iload 4, 2) := by decide +kernel
theorem d_L_law_565 : decode code 565 = .ok (.iconst 1, 1) := by decide +kernel
theorem d_L_law_566 : decode code 566 = .ok (.iadd, 1) := by decide +kernel
theorem d_L_law_567 : decode code 567 = .ok (.iaload, 1) := by decide +kernel
theorem d_L_law_568 : decode code 568 = .ok (.aload_n 0, 1) := by decide +kernel
theorem d_L_law_569 : decode code 569 = .ok (.iload 4, 2) := by decide +kernel
theorem d_L_law_571 : decode code 571 = .ok (.iconst 2, 1) := by decide +kernel
theorem d_L_law_572 : decode code 572 = .ok (.iadd, 1) := by decide +kernel
theorem d_L_law_573 : decode code 573 = .ok (.iaload, 1) := by decide +kernel
theorem d_L_law_574 : decode code 574 = .ok (.aload_n 0, 1) := by decide +kernel
theorem d_L_law_575 : decode code 575 = .ok (.iload 4, 2) := by decide +kernel
theorem d_L_law_577 : decode code 577 = .ok (.iconst 3, 1) := by decide +kernel
theorem d_L_law_578 : decode code 578 = .ok (.iadd, 1) := by decide +kernel
theorem d_L_law_579 : decode code 579 = .ok (.iaload, 1) := by decide +kernel
theorem d_L_law_580 : decode code 580 = .ok (.aload_n 0, 1) := by decide +kernel
theorem d_L_law_581 : decode code 581 = .ok (.iload 4, 2) := by decide +kernel
theorem d_L_law_583 : decode code 583 = .ok (.iconst 4, 1) := by decide +kernel
theorem d_L_law_584 : decode code 584 = .ok (.iadd, 1) := by decide +kernel
theorem d_L_law_585 : decode code 585 = .ok (.iaload, 1) := by decide +kernel
theorem d_L_law_586 : decode code 586 = .ok (.invokevirtual 89, 3) := by decide +kernel
theorem d_L_law_589 : decode code 589 = .ok (.lstore 6, 2) := by decide +kernel
theorem d_L_law_591 : decode code 591 = .ok (.aload_n 2, 1) := by decide +kernel
theorem d_L_law_592 : decode code 592 = .ok (.invokevirtual 69, 3) := by decide +kernel
theorem d_L_law_595 : decode code 595 = .ok (.iload 5, 2) := by decide +kernel
theorem d_L_law_597 : decode code 597 = .ok (.if_icmp .eq 5, 3) := by decide +kernel
theorem d_L_law_600 : decode code 600 = .ok (.iconst 0, 1) := by decide +kernel
theorem d_L_law_601 : decode code 601 = .ok (.ireturn, 1) := by decide +kernel
theorem d_L_law_602 : decode code 602 = .ok (.iload 5, 2) := by decide +kernel
theorem d_L_law_604 : decode code 604 = .ok (.ifCond .ne 14, 3) := by decide +kernel
theorem d_L_law_607 : decode code 607 = .ok (.aload_n 3, 1) := by decide +kernel
theorem d_L_law_608 : decode code 608 = .ok (.iconst 0, 1) := by decide +kernel
theorem d_L_law_609 : decode code 609 = .ok (.laload, 1) := by decide +kernel
theorem d_L_law_610 : decode code 610 = .ok (.lload 6, 2) := by decide +kernel
theorem d_L_law_612 : decode code 612 = .ok (.lcmp, 1) := by decide +kernel
theorem d_L_law_613 : decode code 613 = .ok (.ifCond .eq 5, 3) := by decide +kernel
theorem d_L_law_616 : decode code 616 = .ok (.iconst 0, 1) := by decide +kernel
theorem d_L_law_617 : decode code 617 = .ok (.ireturn, 1) := by decide +kernel
theorem d_L_law_618 : decode code 618 = .ok (.goto 502, 3) := by decide +kernel
theorem d_L_law_621 : decode code 621 = .ok (.aload_n 1, 1) := by decide +kernel
theorem d_L_law_622 : decode code 622 = .ok (.aload_n 0, 1) := by decide +kernel
theorem d_L_law_623 : decode code 623 = .ok (.iload 4, 2) := by decide +kernel
theorem d_L_law_625 : decode code 625 = .ok (.iconst 1, 1) := by decide +kernel
theorem d_L_law_626 : decode code 626 = .ok (.iadd, 1) := by decide +kernel
theorem d_L_law_627 : decode code 627 = .ok (.iaload, 1) := by decide +kernel
theorem d_L_law_628 : decode code 628 = .ok (.aload_n 0, 1) := by decide +kernel
theorem d_L_law_629 : decode code 629 = .ok (.iload 4, 2) := by decide +kernel
theorem d_L_law_631 : decode code 631 = .ok (.iconst 2, 1) := by decide +kernel
theorem d_L_law_632 : decode code 632 = .ok (.iadd, 1) := by decide +kernel
theorem d_L_law_633 : decode code 633 = .ok (.iaload, 1) := by decide +kernel
theorem d_L_law_634 : decode code 634 = .ok (.aload_n 0, 1) := by decide +kernel
theorem d_L_law_635 : decode code 635 = .ok (.iload 4, 2) := by decide +kernel
theorem d_L_law_637 : decode code 637 = .ok (.iconst 3, 1) := by decide +kernel
theorem d_L_law_638 : decode code 638 = .ok (.iadd, 1) := by decide +kernel
theorem d_L_law_639 : decode code 639 = .ok (.iaload, 1) := by decide +kernel
theorem d_L_law_640 : decode code 640 = .ok (.aload_n 0, 1) := by decide +kernel
theorem d_L_law_641 : decode code 641 = .ok (.iload 4, 2) := by decide +kernel
theorem d_L_law_643 : decode code 643 = .ok (.iconst 4, 1) := by decide +kernel
theorem d_L_law_644 : decode code 644 = .ok (.iadd, 1) := by decide +kernel
theorem d_L_law_645 : decode code 645 = .ok (.iaload, 1) := by decide +kernel
theorem d_L_law_646 : decode code 646 = .ok (.aload_n 3, 1) := by decide +kernel
theorem d_L_law_647 : decode code 647 = .ok (.invokestatic 90, 3) := by decide +kernel
theorem d_L_law_650 : decode code 650 = .ok (.istore 5, 2) := by decide +kernel
theorem d_L_law_652 : decode code 652 = .ok (.aload_n 2, 1) := by decide +kernel
theorem d_L_law_653 : decode code 653 = .ok (.aload_n 0, 1) := by decide +kernel
theorem d_L_law_654 : decode code 654 = .ok (.iload 4, 2) := by decide +kernel
theorem d_L_law_656 : decode code 656 = .ok (.iconst 1, 1) := by decide +kernel
theorem d_L_law_657 : decode code 657 = .ok (.iadd, 1) := by decide +kernel
theorem d_L_law_658 : decode code 658 = .ok (.iaload, 1) := by decide +kernel
theorem d_L_law_659 : decode code 659 = .ok (.aload_n 0, 1) := by decide +kernel
theorem d_L_law_660 : decode code 660 = .ok (.iload 4, 2) := by decide +kernel
theorem d_L_law_662 : decode code 662 = .ok (.iconst 2, 1) := by decide +kernel
theorem d_L_law_663 : decode code 663 = .ok (.iadd, 1) := by decide +kernel
theorem d_L_law_664 : decode code 664 = .ok (.iaload, 1) := by decide +kernel
theorem d_L_law_665 : decode code 665 = .ok (.aload_n 0, 1) := by decide +kernel
theorem d_L_law_666 : decode code 666 = .ok (.iload 4, 2) := by decide +kernel
theorem d_L_law_668 : decode code 668 = .ok (.iconst 3, 1) := by decide +kernel
theorem d_L_law_669 : decode code 669 = .ok (.iadd, 1) := by decide +kernel
theorem d_L_law_670 : decode code 670 = .ok (.iaload, 1) := by decide +kernel
theorem d_L_law_671 : decode code 671 = .ok (.aload_n 0, 1) := by decide +kernel
theorem d_L_law_672 : decode code 672 = .ok (.iload 4, 2) := by decide +kernel
theorem d_L_law_674 : decode code 674 = .ok (.iconst 4, 1) := by decide +kernel
theorem d_L_law_675 : decode code 675 = .ok (.iadd, 1) := by decide +kernel
theorem d_L_law_676 : decode code 676 = .ok (.iaload, 1) := by decide +kernel
theorem d_L_law_677 : decode code 677 = .ok (.invokevirtual 92, 3) := by decide +kernel
theorem d_L_law_680 : decode code 680 = .ok (.istore 6, 2) := by decide +kernel
theorem d_L_law_682 : decode code 682 = .ok (.aload_n 2, 1) := by decide +kernel
theorem d_L_law_683 : decode code 683 = .ok (.invokevirtual 69, 3) := by decide +kernel
theorem d_L_law_686 : decode code 686 = .ok (.iload 5, 2) := by decide +kernel
theorem d_L_law_688 : decode code 688 = .ok (.if_icmp .eq 5, 3) := by decide +kernel
theorem d_L_law_691 : decode code 691 = .ok (.iconst 0, 1) := by decide +kernel
theorem d_L_law_692 : decode code 692 = .ok (.ireturn, 1) := by decide +kernel
theorem d_L_law_693 : decode code 693 = .ok (.iload 5, 2) := by decide +kernel
theorem d_L_law_695 : decode code 695 = .ok (.ifCond .ne 15, 3) := by decide +kernel
theorem d_L_law_698 : decode code 698 = .ok (.aload_n 3, 1) := by decide +kernel
theorem d_L_law_699 : decode code 699 = .ok (.iconst 0, 1) := by decide +kernel
theorem d_L_law_700 : decode code 700 = .ok (.laload, 1) := by decide +kernel
theorem d_L_law_701 : decode code 701 = .ok (.iload 6, 2) := by decide +kernel
theorem d_L_law_703 : decode code 703 = .ok (.i2l, 1) := by decide +kernel
theorem d_L_law_704 : decode code 704 = .ok (.lcmp, 1) := by decide +kernel
theorem d_L_law_705 : decode code 705 = .ok (.ifCond .eq 5, 3) := by decide +kernel
theorem d_L_law_708 : decode code 708 = .ok (.iconst 0, 1) := by decide +kernel
theorem d_L_law_709 : decode code 709 = .ok (.ireturn, 1) := by decide +kernel
theorem d_L_law_710 : decode code 710 = .ok (.goto 410, 3) := by decide +kernel
theorem d_L_law_713 : decode code 713 = .ok (.aload_n 1, 1) := by decide +kernel
theorem d_L_law_714 : decode code 714 = .ok (.aload_n 0, 1) := by decide +kernel
theorem d_L_law_715 : decode code 715 = .ok (.iload 4, 2) := by decide +kernel
theorem d_L_law_717 : decode code 717 = .ok (.iconst 1, 1) := by decide +kernel
theorem d_L_law_718 : decode code 718 = .ok (.iadd, 1) := by decide +kernel
theorem d_L_law_719 : decode code 719 = .ok (.iaload, 1) := by decide +kernel
theorem d_L_law_720 : decode code 720 = .ok (.aload_n 0, 1) := by decide +kernel
theorem d_L_law_721 : decode code 721 = .ok (.iload 4, 2) := by decide +kernel
theorem d_L_law_723 : decode code 723 = .ok (.iconst 2, 1) := by decide +kernel
theorem d_L_law_724 : decode code 724 = .ok (.iadd, 1) := by decide +kernel
theorem d_L_law_725 : decode code 725 = .ok (.iaload, 1) := by decide +kernel
theorem d_L_law_726 : decode code 726 = .ok (.aload_n 3, 1) := by decide +kernel
theorem d_L_law_727 : decode code 727 = .ok (.invokestatic 93, 3) := by decide +kernel
theorem d_L_law_730 : decode code 730 = .ok (.istore 5, 2) := by decide +kernel
theorem d_L_law_732 : decode code 732 = .ok (.aload_n 2, 1) := by decide +kernel
theorem d_L_law_733 : decode code 733 = .ok (.aload_n 0, 1) := by decide +kernel
theorem d_L_law_734 : decode code 734 = .ok (.iload 4, 2) := by decide +kernel
theorem d_L_law_736 : decode code 736 = .ok (.iconst 1, 1) := by decide +kernel
theorem d_L_law_737 : decode code 737 = .ok (.iadd, 1) := by decide +kernel
theorem d_L_law_738 : decode code 738 = .ok (.iaload, 1) := by decide +kernel
theorem d_L_law_739 : decode code 739 = .ok (.aload_n 0, 1) := by decide +kernel
theorem d_L_law_740 : decode code 740 = .ok (.iload 4, 2) := by decide +kernel
theorem d_L_law_742 : decode code 742 = .ok (.iconst 2, 1) := by decide +kernel
theorem d_L_law_743 : decode code 743 = .ok (.iadd, 1) := by decide +kernel
theorem d_L_law_744 : decode code 744 = .ok (.iaload, 1) := by decide +kernel
theorem d_L_law_745 : decode code 745 = .ok (.invokevirtual 95, 3) := by decide +kernel
theorem d_L_law_748 : decode code 748 = .ok (.lstore 6, 2) := by decide +kernel
theorem d_L_law_750 : decode code 750 = .ok (.aload_n 2, 1) := by decide +kernel
theorem d_L_law_751 : decode code 751 = .ok (.invokevirtual 69, 3) := by decide +kernel
theorem d_L_law_754 : decode code 754 = .ok (.iload 5, 2) := by decide +kernel
theorem d_L_law_756 : decode code 756 = .ok (.if_icmp .eq 5, 3) := by decide +kernel
theorem d_L_law_759 : decode code 759 = .ok (.iconst 0, 1) := by decide +kernel
theorem d_L_law_760 : decode code 760 = .ok (.ireturn, 1) := by decide +kernel
theorem d_L_law_761 : decode code 761 = .ok (.iload 5, 2) := by decide +kernel
theorem d_L_law_763 : decode code 763 = .ok (.ifCond .ne 14, 3) := by decide +kernel
theorem d_L_law_766 : decode code 766 = .ok (.aload_n 3, 1) := by decide +kernel
theorem d_L_law_767 : decode code 767 = .ok (.iconst 0, 1) := by decide +kernel
theorem d_L_law_768 : decode code 768 = .ok (.laload, 1) := by decide +kernel
theorem d_L_law_769 : decode code 769 = .ok (.lload 6, 2) := by decide +kernel
theorem d_L_law_771 : decode code 771 = .ok (.lcmp, 1) := by decide +kernel
theorem d_L_law_772 : decode code 772 = .ok (.ifCond .eq 5, 3) := by decide +kernel
theorem d_L_law_775 : decode code 775 = .ok (.iconst 0, 1) := by decide +kernel
theorem d_L_law_776 : decode code 776 = .ok (.ireturn, 1) := by decide +kernel
theorem d_L_law_777 : decode code 777 = .ok (.goto 343, 3) := by decide +kernel
theorem d_L_law_780 : decode code 780 = .ok (.aload_n 1, 1) := by decide +kernel
theorem d_L_law_781 : decode code 781 = .ok (.aload_n 0, 1) := by decide +kernel
theorem d_L_law_782 : decode code 782 = .ok (.iload 4, 2) := by decide +kernel
theorem d_L_law_784 : decode code 784 = .ok (.iconst 1, 1) := by decide +kernel
theorem d_L_law_785 : decode code 785 = .ok (.iadd, 1) := by decide +kernel
theorem d_L_law_786 : decode code 786 = .ok (.iaload, 1) := by decide +kernel
theorem d_L_law_787 : decode code 787 = .ok (.aload_n 3, 1) := by decide +kernel
theorem d_L_law_788 : decode code 788 = .ok (.invokestatic 96, 3) := by decide +kernel
theorem d_L_law_791 : decode code 791 = .ok (.istore 5, 2) := by decide +kernel
theorem d_L_law_793 : decode code 793 = .ok (.aload_n 2, 1) := by decide +kernel
theorem d_L_law_794 : decode code 794 = .ok (.aload_n 0, 1) := by decide +kernel
theorem d_L_law_795 : decode code 795 = .ok (.iload 4, 2) := by decide +kernel
theorem d_L_law_797 : decode code 797 = .ok (.iconst 1, 1) := by decide +kernel
theorem d_L_law_798 : decode code 798 = .ok (.iadd, 1) := by decide +kernel
theorem d_L_law_799 : decode code 799 = .ok (.iaload, 1) := by decide +kernel
theorem d_L_law_800 : decode code 800 = .ok (.invokevirtual 99, 3) := by decide +kernel
theorem d_L_law_803 : decode code 803 = .ok (.istore 6, 2) := by decide +kernel
theorem d_L_law_805 : decode code 805 = .ok (.aload_n 2, 1) := by decide +kernel
theorem d_L_law_806 : decode code 806 = .ok (.invokevirtual 69, 3) := by decide +kernel
theorem d_L_law_809 : decode code 809 = .ok (.iload 5, 2) := by decide +kernel
theorem d_L_law_811 : decode code 811 = .ok (.if_icmp .eq 5, 3) := by decide +kernel
theorem d_L_law_814 : decode code 814 = .ok (.iconst 0, 1) := by decide +kernel
theorem d_L_law_815 : decode code 815 = .ok (.ireturn, 1) := by decide +kernel
theorem d_L_law_816 : decode code 816 = .ok (.iload 5, 2) := by decide +kernel
theorem d_L_law_818 : decode code 818 = .ok (.ifCond .ne 15, 3) := by decide +kernel
theorem d_L_law_821 : decode code 821 = .ok (.aload_n 3, 1) := by decide +kernel
theorem d_L_law_822 : decode code 822 = .ok (.iconst 0, 1) := by decide +kernel
theorem d_L_law_823 : decode code 823 = .ok (.laload, 1) := by decide +kernel
theorem d_L_law_824 : decode code 824 = .ok (.iload 6, 2) := by decide +kernel
theorem d_L_law_826 : decode code 826 = .ok (.i2l, 1) := by decide +kernel
theorem d_L_law_827 : decode code 827 = .ok (.lcmp, 1) := by decide +kernel
theorem d_L_law_828 : decode code 828 = .ok (.ifCond .eq 5, 3) := by decide +kernel
theorem d_L_law_831 : decode code 831 = .ok (.iconst 0, 1) := by decide +kernel
theorem d_L_law_832 : decode code 832 = .ok (.ireturn, 1) := by decide +kernel
theorem d_L_law_833 : decode code 833 = .ok (.goto 287, 3) := by decide +kernel
theorem d_L_law_836 : decode code 836 = .ok (.aload_n 1, 1) := by decide +kernel
theorem d_L_law_837 : decode code 837 = .ok (.aload_n 0, 1) := by decide +kernel
theorem d_L_law_838 : decode code 838 = .ok (.iload 4, 2) := by decide +kernel
theorem d_L_law_840 : decode code 840 = .ok (.iconst 1, 1) := by decide +kernel
theorem d_L_law_841 : decode code 841 = .ok (.iadd, 1) := by decide +kernel
theorem d_L_law_842 : decode code 842 = .ok (.iaload, 1) := by decide +kernel
theorem d_L_law_843 : decode code 843 = .ok (.aload_n 0, 1) := by decide +kernel
theorem d_L_law_844 : decode code 844 = .ok (.iload 4, 2) := by decide +kernel
theorem d_L_law_846 : decode code 846 = .ok (.iconst 2, 1) := by decide +kernel
theorem d_L_law_847 : decode code 847 = .ok (.iadd, 1) := by decide +kernel
theorem d_L_law_848 : decode code 848 = .ok (.iaload, 1) := by decide +kernel
theorem d_L_law_849 : decode code 849 = .ok (.aload_n 0, 1) := by decide +kernel
theorem d_L_law_850 : decode code 850 = .ok (.iload 4, 2) := by decide +kernel
theorem d_L_law_852 : decode code 852 = .ok (.iconst 3, 1) := by decide +kernel
theorem d_L_law_853 : decode code 853 = .ok (.iadd, 1) := by decide +kernel
theorem d_L_law_854 : decode code 854 = .ok (.iaload, 1) := by decide +kernel
theorem d_L_law_855 : decode code 855 = .ok (.aload_n 3, 1) := by decide +kernel
theorem d_L_law_856 : decode code 856 = .ok (.invokestatic 100, 3) := by decide +kernel
theorem d_L_law_859 : decode code 859 = .ok (.istore 5, 2) := by decide +kernel
theorem d_L_law_861 : decode code 861 = .ok (.aload_n 2, 1) := by decide +kernel
theorem d_L_law_862 : decode code 862 = .ok (.aload_n 0, 1) := by decide +kernel
theorem d_L_law_863 : decode code 863 = .ok (.iload 4, 2) := by decide +kernel
theorem d_L_law_865 : decode code 865 = .ok (.iconst 1, 1) := by decide +kernel
theorem d_L_law_866 : decode code 866 = .ok (.iadd, 1) := by decide +kernel
theorem d_L_law_867 : decode code 867 = .ok (.iaload, 1) := by decide +kernel
theorem d_L_law_868 : decode code 868 = .ok (.aload_n 0, 1) := by decide +kernel
theorem d_L_law_869 : decode code 869 = .ok (.iload 4, 2) := by decide +kernel
theorem d_L_law_871 : decode code 871 = .ok (.iconst 2, 1) := by decide +kernel
theorem d_L_law_872 : decode code 872 = .ok (.iadd, 1) := by decide +kernel
theorem d_L_law_873 : decode code 873 = .ok (.iaload, 1) := by decide +kernel
theorem d_L_law_874 : decode code 874 = .ok (.aload_n 0, 1) := by decide +kernel
theorem d_L_law_875 : decode code 875 = .ok (.iload 4, 2) := by decide +kernel
theorem d_L_law_877 : decode code 877 = .ok (.iconst 3, 1) := by decide +kernel
theorem d_L_law_878 : decode code 878 = .ok (.iadd, 1) := by decide +kernel
theorem d_L_law_879 : decode code 879 = .ok (.iaload, 1) := by decide +kernel
theorem d_L_law_880 : decode code 880 = .ok (.invokevirtual 103, 3) := by decide +kernel
theorem d_L_law_883 : decode code 883 = .ok (.istore 6, 2) := by decide +kernel
theorem d_L_law_885 : decode code 885 = .ok (.aload_n 2, 1) := by decide +kernel
theorem d_L_law_886 : decode code 886 = .ok (.invokevirtual 69, 3) := by decide +kernel
theorem d_L_law_889 : decode code 889 = .ok (.iload 5, 2) := by decide +kernel
theorem d_L_law_891 : decode code 891 = .ok (.if_icmp .eq 5, 3) := by decide +kernel
theorem d_L_law_894 : decode code 894 = .ok (.iconst 0, 1) := by decide +kernel
theorem d_L_law_895 : decode code 895 = .ok (.ireturn, 1) := by decide +kernel
theorem d_L_law_896 : decode code 896 = .ok (.iload 5, 2) := by decide +kernel
theorem d_L_law_898 : decode code 898 = .ok (.ifCond .ne 15, 3) := by decide +kernel
theorem d_L_law_901 : decode code 901 = .ok (.aload_n 3, 1) := by decide +kernel
theorem d_L_law_902 : decode code 902 = .ok (.iconst 0, 1) := by decide +kernel
theorem d_L_law_903 : decode code 903 = .ok (.laload, 1) := by decide +kernel
theorem d_L_law_904 : decode code 904 = .ok (.iload 6, 2) := by decide +kernel
theorem d_L_law_906 : decode code 906 = .ok (.i2l, 1) := by decide +kernel
theorem d_L_law_907 : decode code 907 = .ok (.lcmp, 1) := by decide +kernel
theorem d_L_law_908 : decode code 908 = .ok (.ifCond .eq 5, 3) := by decide +kernel
theorem d_L_law_911 : decode code 911 = .ok (.iconst 0, 1) := by decide +kernel
theorem d_L_law_912 : decode code 912 = .ok (.ireturn, 1) := by decide +kernel
theorem d_L_law_913 : decode code 913 = .ok (.goto 207, 3) := by decide +kernel
theorem d_L_law_916 : decode code 916 = .ok (.aload_n 1, 1) := by decide +kernel
theorem d_L_law_917 : decode code 917 = .ok (.aload_n 0, 1) := by decide +kernel
theorem d_L_law_918 : decode code 918 = .ok (.iload 4, 2) := by decide +kernel
theorem d_L_law_920 : decode code 920 = .ok (.iconst 1, 1) := by decide +kernel
theorem d_L_law_921 : decode code 921 = .ok (.iadd, 1) := by decide +kernel
theorem d_L_law_922 : decode code 922 = .ok (.iaload, 1) := by decide +kernel
theorem d_L_law_923 : decode code 923 = .ok (.aload_n 3, 1) := by decide +kernel
theorem d_L_law_924 : decode code 924 = .ok (.invokestatic 104, 3) := by decide +kernel
theorem d_L_law_927 : decode code 927 = .ok (.istore 5, 2) := by decide +kernel
theorem d_L_law_929 : decode code 929 = .ok (.aload_n 2, 1) := by decide +kernel
theorem d_L_law_930 : decode code 930 = .ok (.aload_n 0, 1) := by decide +kernel
theorem d_L_law_931 : decode code 931 = .ok (.iload 4, 2) := by decide +kernel
theorem d_L_law_933 : decode code 933 = .ok (.iconst 1, 1) := by decide +kernel
theorem d_L_law_934 : decode code 934 = .ok (.iadd, 1) := by decide +kernel
theorem d_L_law_935 : decode code 935 = .ok (.iaload, 1) := by decide +kernel
theorem d_L_law_936 : decode code 936 = .ok (.invokevirtual 106, 3) := by decide +kernel
theorem d_L_law_939 : decode code 939 = .ok (.istore 6, 2) := by decide +kernel
theorem d_L_law_941 : decode code 941 = .ok (.aload_n 2, 1) := by decide +kernel
theorem d_L_law_942 : decode code 942 = .ok (.invokevirtual 69, 3) := by decide +kernel
theorem d_L_law_945 : decode code 945 = .ok (.iload 5, 2) := by decide +kernel
theorem d_L_law_947 : decode code 947 = .ok (.if_icmp .eq 5, 3) := by decide +kernel
theorem d_L_law_950 : decode code 950 = .ok (.iconst 0, 1) := by decide +kernel
theorem d_L_law_951 : decode code 951 = .ok (.ireturn, 1) := by decide +kernel
theorem d_L_law_952 : decode code 952 = .ok (.iload 5, 2) := by decide +kernel
theorem d_L_law_954 : decode code 954 = .ok (.ifCond .ne 15, 3) := by decide +kernel
theorem d_L_law_957 : decode code 957 = .ok (.aload_n 3, 1) := by decide +kernel
theorem d_L_law_958 : decode code 958 = .ok (.iconst 0, 1) := by decide +kernel
theorem d_L_law_959 : decode code 959 = .ok (.laload, 1) := by decide +kernel
theorem d_L_law_960 : decode code 960 = .ok (.iload 6, 2) := by decide +kernel
theorem d_L_law_962 : decode code 962 = .ok (.i2l, 1) := by decide +kernel
theorem d_L_law_963 : decode code 963 = .ok (.lcmp, 1) := by decide +kernel
theorem d_L_law_964 : decode code 964 = .ok (.ifCond .eq 5, 3) := by decide +kernel
theorem d_L_law_967 : decode code 967 = .ok (.iconst 0, 1) := by decide +kernel
theorem d_L_law_968 : decode code 968 = .ok (.ireturn, 1) := by decide +kernel
theorem d_L_law_969 : decode code 969 = .ok (.goto 151, 3) := by decide +kernel
theorem d_L_law_972 : decode code 972 = .ok (.aload_n 1, 1) := by decide +kernel
theorem d_L_law_973 : decode code 973 = .ok (.aload_n 0, 1) := by decide +kernel
theorem d_L_law_974 : decode code 974 = .ok (.iload 4, 2) := by decide +kernel
theorem d_L_law_976 : decode code 976 = .ok (.iconst 1, 1) := by decide +kernel
theorem d_L_law_977 : decode code 977 = .ok (.iadd, 1) := by decide +kernel
theorem d_L_law_978 : decode code 978 = .ok (.iaload, 1) := by decide +kernel
theorem d_L_law_979 : decode code 979 = .ok (.aload_n 0, 1) := by decide +kernel
theorem d_L_law_980 : decode code 980 = .ok (.iload 4, 2) := by decide +kernel
theorem d_L_law_982 : decode code 982 = .ok (.iconst 2, 1) := by decide +kernel
theorem d_L_law_983 : decode code 983 = .ok (.iadd, 1) := by decide +kernel
theorem d_L_law_984 : decode code 984 = .ok (.iaload, 1) := by decide +kernel
theorem d_L_law_985 : decode code 985 = .ok (.aload_n 0, 1) := by decide +kernel
theorem d_L_law_986 : decode code 986 = .ok (.iload 4, 2) := by decide +kernel
theorem d_L_law_988 : decode code 988 = .ok (.iconst 3, 1) := by decide +kernel
theorem d_L_law_989 : decode code 989 = .ok (.iadd, 1) := by decide +kernel
theorem d_L_law_990 : decode code 990 = .ok (.iaload, 1) := by decide +kernel
theorem d_L_law_991 : decode code 991 = .ok (.aload_n 3, 1) := by decide +kernel
theorem d_L_law_992 : decode code 992 = .ok (.invokestatic 107, 3) := by decide +kernel
theorem d_L_law_995 : decode code 995 = .ok (.istore 5, 2) := by decide +kernel
theorem d_L_law_997 : decode code 997 = .ok (.aload_n 2, 1) := by decide +kernel
theorem d_L_law_998 : decode code 998 = .ok (.aload_n 0, 1) := by decide +kernel
theorem d_L_law_999 : decode code 999 = .ok (.iload 4, 2) := by decide +kernel
theorem d_L_law_1001 : decode code 1001 = .ok (.iconst 1, 1) := by decide +kernel
theorem d_L_law_1002 : decode code 1002 = .ok (.iadd, 1) := by decide +kernel
theorem d_L_law_1003 : decode code 1003 = .ok (.iaload, 1) := by decide +kernel
theorem d_L_law_1004 : decode code 1004 = .ok (.aload_n 0, 1) := by decide +kernel
theorem d_L_law_1005 : decode code 1005 = .ok (.iload 4, 2) := by decide +kernel
theorem d_L_law_1007 : decode code 1007 = .ok (.iconst 2, 1) := by decide +kernel
theorem d_L_law_1008 : decode code 1008 = .ok (.iadd, 1) := by decide +kernel
theorem d_L_law_1009 : decode code 1009 = .ok (.iaload, 1) := by decide +kernel
theorem d_L_law_1010 : decode code 1010 = .ok (.aload_n 0, 1) := by decide +kernel
theorem d_L_law_1011 : decode code 1011 = .ok (.iload 4, 2) := by decide +kernel
theorem d_L_law_1013 : decode code 1013 = .ok (.iconst 3, 1) := by decide +kernel
theorem d_L_law_1014 : decode code 1014 = .ok (.iadd, 1) := by decide +kernel
theorem d_L_law_1015 : decode code 1015 = .ok (.iaload, 1) := by decide +kernel
theorem d_L_law_1016 : decode code 1016 = .ok (.invokevirtual 109, 3) := by decide +kernel
theorem d_L_law_1019 : decode code 1019 = .ok (.istore 6, 2) := by decide +kernel
theorem d_L_law_1021 : decode code 1021 = .ok (.aload_n 2, 1) := by decide +kernel
theorem d_L_law_1022 : decode code 1022 = .ok (.invokevirtual 69, 3) := by decide +kernel
theorem d_L_law_1025 : decode code 1025 = .ok (.iload 5, 2) := by decide +kernel
theorem d_L_law_1027 : decode code 1027 = .ok (.if_icmp .eq 5, 3) := by decide +kernel
theorem d_L_law_1030 : decode code 1030 = .ok (.iconst 0, 1) := by decide +kernel
theorem d_L_law_1031 : decode code 1031 = .ok (.ireturn, 1) := by decide +kernel
theorem d_L_law_1032 : decode code 1032 = .ok (.iload 5, 2) := by decide +kernel
theorem d_L_law_1034 : decode code 1034 = .ok (.ifCond .ne 15, 3) := by decide +kernel
theorem d_L_law_1037 : decode code 1037 = .ok (.aload_n 3, 1) := by decide +kernel
theorem d_L_law_1038 : decode code 1038 = .ok (.iconst 0, 1) := by decide +kernel
theorem d_L_law_1039 : decode code 1039 = .ok (.laload, 1) := by decide +kernel
theorem d_L_law_1040 : decode code 1040 = .ok (.iload 6, 2) := by decide +kernel
theorem d_L_law_1042 : decode code 1042 = .ok (.i2l, 1) := by decide +kernel
theorem d_L_law_1043 : decode code 1043 = .ok (.lcmp, 1) := by decide +kernel
theorem d_L_law_1044 : decode code 1044 = .ok (.ifCond .eq 5, 3) := by decide +kernel
theorem d_L_law_1047 : decode code 1047 = .ok (.iconst 0, 1) := by decide +kernel
theorem d_L_law_1048 : decode code 1048 = .ok (.ireturn, 1) := by decide +kernel
theorem d_L_law_1049 : decode code 1049 = .ok (.goto 71, 3) := by decide +kernel
theorem d_L_law_1052 : decode code 1052 = .ok (.aload_n 1, 1) := by decide +kernel
theorem d_L_law_1053 : decode code 1053 = .ok (.aload_n 0, 1) := by decide +kernel
theorem d_L_law_1054 : decode code 1054 = .ok (.iload 4, 2) := by decide +kernel
theorem d_L_law_1056 : decode code 1056 = .ok (.iconst 1, 1) := by decide +kernel
theorem d_L_law_1057 : decode code 1057 = .ok (.iadd, 1) := by decide +kernel
theorem d_L_law_1058 : decode code 1058 = .ok (.iaload, 1) := by decide +kernel
theorem d_L_law_1059 : decode code 1059 = .ok (.aload_n 0, 1) := by decide +kernel
theorem d_L_law_1060 : decode code 1060 = .ok (.iload 4, 2) := by decide +kernel
theorem d_L_law_1062 : decode code 1062 = .ok (.iconst 2, 1) := by decide +kernel
theorem d_L_law_1063 : decode code 1063 = .ok (.iadd, 1) := by decide +kernel
theorem d_L_law_1064 : decode code 1064 = .ok (.iaload, 1) := by decide +kernel
theorem d_L_law_1065 : decode code 1065 = .ok (.aload_n 3, 1) := by decide +kernel
theorem d_L_law_1066 : decode code 1066 = .ok (.invokestatic 110, 3) := by decide +kernel
theorem d_L_law_1069 : decode code 1069 = .ok (.istore 5, 2) := by decide +kernel
theorem d_L_law_1071 : decode code 1071 = .ok (.aload_n 2, 1) := by decide +kernel
theorem d_L_law_1072 : decode code 1072 = .ok (.aload_n 0, 1) := by decide +kernel
theorem d_L_law_1073 : decode code 1073 = .ok (.iload 4, 2) := by decide +kernel
theorem d_L_law_1075 : decode code 1075 = .ok (.iconst 1, 1) := by decide +kernel
theorem d_L_law_1076 : decode code 1076 = .ok (.iadd, 1) := by decide +kernel
theorem d_L_law_1077 : decode code 1077 = .ok (.iaload, 1) := by decide +kernel
theorem d_L_law_1078 : decode code 1078 = .ok (.aload_n 0, 1) := by decide +kernel
theorem d_L_law_1079 : decode code 1079 = .ok (.iload 4, 2) := by decide +kernel
theorem d_L_law_1081 : decode code 1081 = .ok (.iconst 2, 1) := by decide +kernel
theorem d_L_law_1082 : decode code 1082 = .ok (.iadd, 1) := by decide +kernel
theorem d_L_law_1083 : decode code 1083 = .ok (.iaload, 1) := by decide +kernel
theorem d_L_law_1084 : decode code 1084 = .ok (.invokevirtual 112, 3) := by decide +kernel
theorem d_L_law_1087 : decode code 1087 = .ok (.istore 6, 2) := by decide +kernel
theorem d_L_law_1089 : decode code 1089 = .ok (.aload_n 2, 1) := by decide +kernel
theorem d_L_law_1090 : decode code 1090 = .ok (.invokevirtual 69, 3) := by decide +kernel
theorem d_L_law_1093 : decode code 1093 = .ok (.iload 5, 2) := by decide +kernel
theorem d_L_law_1095 : decode code 1095 = .ok (.if_icmp .eq 5, 3) := by decide +kernel
theorem d_L_law_1098 : decode code 1098 = .ok (.iconst 0, 1) := by decide +kernel
theorem d_L_law_1099 : decode code 1099 = .ok (.ireturn, 1) := by decide +kernel
theorem d_L_law_1100 : decode code 1100 = .ok (.iload 5, 2) := by decide +kernel
theorem d_L_law_1102 : decode code 1102 = .ok (.ifCond .ne 15, 3) := by decide +kernel
theorem d_L_law_1105 : decode code 1105 = .ok (.aload_n 3, 1) := by decide +kernel
theorem d_L_law_1106 : decode code 1106 = .ok (.iconst 0, 1) := by decide +kernel
theorem d_L_law_1107 : decode code 1107 = .ok (.laload, 1) := by decide +kernel
theorem d_L_law_1108 : decode code 1108 = .ok (.iload 6, 2) := by decide +kernel
theorem d_L_law_1110 : decode code 1110 = .ok (.i2l, 1) := by decide +kernel
theorem d_L_law_1111 : decode code 1111 = .ok (.lcmp, 1) := by decide +kernel
theorem d_L_law_1112 : decode code 1112 = .ok (.ifCond .eq 5, 3) := by decide +kernel
theorem d_L_law_1115 : decode code 1115 = .ok (.iconst 0, 1) := by decide +kernel
theorem d_L_law_1116 : decode code 1116 = .ok (.ireturn, 1) := by decide +kernel
theorem d_L_law_1117 : decode code 1117 = .ok (.goto 3, 3) := by decide +kernel
theorem d_L_law_1120 : decode code 1120 = .ok (.iinc 4 6, 3) := by decide +kernel
theorem d_L_law_1123 : decode code 1123 = .ok (.goto (-1100), 3) := by decide +kernel
theorem d_L_law_1126 : decode code 1126 = .ok (.iconst 1, 1) := by decide +kernel
theorem d_L_law_1127 : decode code 1127 = .ok (.ireturn, 1) := by decide +kernel
end
section
/-! NUMBERS: Euclid's steps, fractions put in order by their whole parts and the rests turned over. -/
def ma_cmp (x y : Nat) : Int := if x < y then -1 else if x = y then 0 else 1
def ma_eu : Nat → Nat → Nat → Nat
  | 0, a, _ => a
  | n + 1, a, b => if b = 0 then a else ma_eu n b (a % b)
/-- n steps of Euclid are enough from a, b -/
def ma_ok (n a b : Nat) : Prop := ∃ k : Nat, (b < 2 ^ k ∧ 2 * k ≤ n) ∨ (b < a ∧ a < 2 ^ (k + 1) ∧ 2 * k + 1 ≤ n)
theorem ma_ok_0 {a b : Nat} (h : ma_ok 0 a b) : b = 0 := by
  obtain ⟨k, h | h⟩ := h
  · have hk : k = 0 := by omega
    subst hk
    have := h.1
    simp at this
    exact this
  · omega
theorem ma_ok_step {n a b : Nat} (hb : b ≠ 0) (h : ma_ok (n + 1) a b) : ma_ok n b (a % b) := by
  obtain ⟨k, h | h⟩ := h
  · cases k with
    | zero =>
      have := h.1
      simp at this
      exact absurd this hb
    | succ k => exact ⟨k, Or.inr ⟨Nat.mod_lt _ (Nat.pos_of_ne_zero hb), h.1, by omega⟩⟩
  · refine ⟨k, Or.inl ⟨?_, by omega⟩⟩
    have h1 := Nat.mod_lt a (Nat.pos_of_ne_zero hb)
    have h2 := Nat.div_add_mod a b
    have h3 : 1 ≤ a / b := Nat.div_pos (Nat.le_of_lt h.1) (Nat.pos_of_ne_zero hb)
    have h4 : b * 1 ≤ b * (a / b) := Nat.mul_le_mul_left b h3
    have h5 : a < 2 ^ k * 2 := by rw [← Nat.pow_succ]; exact h.2.1
    omega
theorem ma_ok_of {n a b k : Nat} (h : b < 2 ^ k) (hn : 2 * k ≤ n) : ma_ok n a b := ⟨k, Or.inl ⟨h, hn⟩⟩
theorem ma_eu_gcd : ∀ (n a b : Nat), ma_ok n a b → ma_eu n a b = Nat.gcd a b := by
  intro n
  induction n with
  | zero =>
    intro a b h
    rw [ma_ok_0 h]
    simp [ma_eu]
  | succ n ih =>
    intro a b h
    by_cases hb : b = 0
    · subst hb
      simp [ma_eu]
    · rw [ma_eu, if_neg hb, ih _ _ (ma_ok_step hb h), Nat.gcd_comm b (a % b), ← Nat.gcd_rec, Nat.gcd_comm]
def ma_oo : Nat → Nat → Nat → Nat → Nat → Int → Int
  | 0, _, b, _, d, g => if b = 0 then (if d = 0 then 0 else g) else -g
  | n + 1, a, b, c, d, g => if b = 0 ∨ d = 0 then (if b = 0 then (if d = 0 then 0 else g) else -g) else if a / b = c / d then ma_oo n b (a % b) d (c % d) (-g) else if a / b < c / d then -g else g
theorem ma_cmp_lt {x y : Nat} (h : x < y) : ma_cmp x y = -1 := by simp [ma_cmp, h]
theorem ma_cmp_gt {x y : Nat} (h : y < x) : ma_cmp x y = 1 := by
  simp [ma_cmp, Nat.not_lt.mpr (Nat.le_of_lt h), Nat.ne_of_gt h]
theorem ma_cmp_eq {x y : Nat} (h : x = y) : ma_cmp x y = 0 := by simp [ma_cmp, h]
theorem ma_whole_lt {a b c d : Nat} (hb : 0 < b) (hd : 0 < d) (h : a / b < c / d) : a * d < c * b := by
  have h1 : a < (a / b + 1) * b := by
    have h2 := Nat.div_add_mod a b
    have h3 := Nat.mod_lt a hb
    rw [Nat.add_mul, Nat.mul_comm, Nat.one_mul]
    omega
  have h2 : (a / b + 1) * d ≤ c := by
    have h3 : (a / b + 1) * d ≤ c / d * d := Nat.mul_le_mul_right d h
    exact Nat.le_trans h3 (Nat.div_mul_le_self c d)
  calc a * d < (a / b + 1) * b * d := Nat.mul_lt_mul_of_pos_right h1 hd
    _ = (a / b + 1) * d * b := by rw [Nat.mul_assoc, Nat.mul_comm b d, ← Nat.mul_assoc]
    _ ≤ c * b := Nat.mul_le_mul_right b h2
theorem ma_cmp_turn {a b c d : Nat} (h : a / b = c / d) : ma_cmp (b * (c % d)) (d * (a % b)) = - ma_cmp (a * d) (c * b) := by
  have h1 : a * d = b * d * (a / b) + d * (a % b) := by
    have := Nat.div_add_mod a b
    calc a * d = (b * (a / b) + a % b) * d := by rw [this]
      _ = b * d * (a / b) + d * (a % b) := by rw [Nat.add_mul, Nat.mul_right_comm, Nat.mul_comm (a % b) d]
  have h2 : c * b = b * d * (a / b) + b * (c % d) := by
    have := Nat.div_add_mod c d
    calc c * b = (d * (c / d) + c % d) * b := by rw [this]
      _ = b * d * (a / b) + b * (c % d) := by rw [Nat.add_mul, Nat.mul_comm d, Nat.mul_assoc, Nat.mul_comm d b, Nat.mul_comm (c / d), Nat.mul_comm (c % d) b, h]
  rw [h1, h2]
  generalize b * (c % d) = x
  generalize d * (a % b) = y
  generalize b * d * (a / b) = z
  rcases Nat.lt_trichotomy x y with g | g | g
  · rw [ma_cmp_lt g, ma_cmp_gt (by omega)]
  · rw [ma_cmp_eq g, ma_cmp_eq (by omega)]; rfl
  · rw [ma_cmp_gt g, ma_cmp_lt (by omega)]; rfl
theorem ma_oo_cmp : ∀ (n a b c d : Nat) (g : Int), ma_ok n a b → (b = 0 → 0 < a) → (d = 0 → 0 < c) → ma_oo n a b c d g = g * ma_cmp (a * d) (c * b) := by
  have fin : ∀ (a b c d : Nat) (g : Int), (b = 0 → 0 < a) → (d = 0 → 0 < c) → b = 0 ∨ d = 0 → (if b = 0 then (if d = 0 then 0 else g) else -g) = g * ma_cmp (a * d) (c * b) := by
    intro a b c d g ha hc h
    by_cases hb : b = 0
    · subst hb
      by_cases hd : d = 0
      · subst hd
        simp [ma_cmp]
      · rw [if_pos rfl, if_neg hd, ma_cmp_gt (by rw [Nat.mul_zero]; exact Nat.mul_pos (ha rfl) (Nat.pos_of_ne_zero hd)), Int.mul_one]
    · have hd : d = 0 := by rcases h with h | h; exact absurd h hb; exact h
      subst hd
      rw [if_neg hb, ma_cmp_lt (by rw [Nat.mul_zero]; exact Nat.mul_pos (hc rfl) (Nat.pos_of_ne_zero hb))]
      omega
  intro n
  induction n with
  | zero =>
    intro a b c d g h ha hc
    rw [ma_oo]
    exact fin a b c d g ha hc (Or.inl (ma_ok_0 h))
  | succ n ih =>
    intro a b c d g h ha hc
    rw [ma_oo]
    by_cases h0 : b = 0 ∨ d = 0
    · rw [if_pos h0]
      exact fin a b c d g ha hc h0
    · rw [if_neg h0]
      have hb : b ≠ 0 := fun q => h0 (Or.inl q)
      have hd : d ≠ 0 := fun q => h0 (Or.inr q)
      by_cases h1 : a / b = c / d
      · rw [if_pos h1, ih b (a % b) d (c % d) (-g) (ma_ok_step hb h) (fun _ => Nat.pos_of_ne_zero hb) (fun _ => Nat.pos_of_ne_zero hd), ma_cmp_turn h1, Int.neg_mul_neg]
      · rw [if_neg h1]
        by_cases h2 : a / b < c / d
        · rw [if_pos h2, ma_cmp_lt (ma_whole_lt (Nat.pos_of_ne_zero hb) (Nat.pos_of_ne_zero hd) h2)]
          omega
        · rw [if_neg h2, ma_cmp_gt (ma_whole_lt (Nat.pos_of_ne_zero hd) (Nat.pos_of_ne_zero hb) (by omega))]
          omega
end
section
/-! ROWS ON NATURAL NUMBERS: an int is nI n, a long lN n, as long as they stay in range. -/
section NXA
variable {p : Program} {l : Launch} {e : Env} {R : Room} {s : State} {m : MethodId} {args : Array Value} {below : List Frame} {meth : Method} {c : Code} {H : Heap} {locs : List Loc} {cells slots : Nat} {Q : State → Prop}
variable {cc : ByteArray} {pc : Nat} {ls : Array Slot} {rest : List Value}
theorem nx_iadd (hexec : p.tables.exec = Jvm.exec) (hb : c.code = cc) {a b : Nat} (hdg : decode cc pc = .ok (.iadd, 1)) (k : W p l e R s m args below meth c H locs cells slots Q (F0 m (pc + 1) ls (.int (nI (a + b)) :: rest))) : W p l e R s m args below meth c H locs cells slots Q (F0 m pc ls (.int (nI b) :: .int (nI a) :: rest)) := lv_iadd hexec hb hdg (by rw [nI_add]; exact k)
theorem nx_imul (hexec : p.tables.exec = Jvm.exec) (hb : c.code = cc) {a b : Nat} (hdg : decode cc pc = .ok (.imul, 1)) (k : W p l e R s m args below meth c H locs cells slots Q (F0 m (pc + 1) ls (.int (nI (a * b)) :: rest))) : W p l e R s m args below meth c H locs cells slots Q (F0 m pc ls (.int (nI b) :: .int (nI a) :: rest)) := lv_imul hexec hb hdg (by rw [pk_mul]; exact k)
theorem nx_isub (hexec : p.tables.exec = Jvm.exec) (hb : c.code = cc) {a b : Nat} (hdg : decode cc pc = .ok (.isub, 1)) (h : b ≤ a) (k : W p l e R s m args below meth c H locs cells slots Q (F0 m (pc + 1) ls (.int (nI (a - b)) :: rest))) : W p l e R s m args below meth c H locs cells slots Q (F0 m pc ls (.int (nI b) :: .int (nI a) :: rest)) := lv_isub hexec hb hdg (by rw [pk_sub h]; exact k)
theorem nx_ladd (hexec : p.tables.exec = Jvm.exec) (hb : c.code = cc) {a b : Nat} (hdg : decode cc pc = .ok (.ladd, 1)) (k : W p l e R s m args below meth c H locs cells slots Q (F0 m (pc + 1) ls (.long (lN (a + b)) :: rest))) : W p l e R s m args below meth c H locs cells slots Q (F0 m pc ls (.long (lN b) :: .long (lN a) :: rest)) := lv_ladd hexec hb hdg (by rw [lN_add]; exact k)
theorem nx_lmul (hexec : p.tables.exec = Jvm.exec) (hb : c.code = cc) {a b : Nat} (hdg : decode cc pc = .ok (.lmul, 1)) (k : W p l e R s m args below meth c H locs cells slots Q (F0 m (pc + 1) ls (.long (lN (a * b)) :: rest))) : W p l e R s m args below meth c H locs cells slots Q (F0 m pc ls (.long (lN b) :: .long (lN a) :: rest)) := lv_lmul hexec hb hdg (by rw [lN_mul]; exact k)
theorem nx_lsub (hexec : p.tables.exec = Jvm.exec) (hb : c.code = cc) {a b : Nat} (hdg : decode cc pc = .ok (.lsub, 1)) (h : b ≤ a) (k : W p l e R s m args below meth c H locs cells slots Q (F0 m (pc + 1) ls (.long (lN (a - b)) :: rest))) : W p l e R s m args below meth c H locs cells slots Q (F0 m pc ls (.long (lN b) :: .long (lN a) :: rest)) := lv_lsub hexec hb hdg (by rw [lN_sub h]; exact k)
theorem nx_i2l (hexec : p.tables.exec = Jvm.exec) (hb : c.code = cc) {a : Nat} (hdg : decode cc pc = .ok (.i2l, 1)) (h : a < 2 ^ 31) (k : W p l e R s m args below meth c H locs cells slots Q (F0 m (pc + 1) ls (.long (lN a) :: rest))) : W p l e R s m args below meth c H locs cells slots Q (F0 m pc ls (.int (nI a) :: rest)) := lv_i2l hexec hb hdg (nI_l h) k
theorem nx_ldiv (hexec : p.tables.exec = Jvm.exec) (hb : c.code = cc) {a b : Nat} (hdg : decode cc pc = .ok (.ldiv, 1)) (ha : a < 2 ^ 63) (h0 : 0 < b) (hb2 : b < 2 ^ 63) (k : W p l e R s m args below meth c H locs cells slots Q (F0 m (pc + 1) ls (.long (lN (a / b)) :: rest))) : W p l e R s m args below meth c H locs cells slots Q (F0 m pc ls (.long (lN b) :: .long (lN a) :: rest)) := by
  refine lv_ldiv hexec hb hdg (fun q => ?_) (by rw [pk_lDiv ha h0 hb2]; exact k)
  have := (pk_lEQ hb2 (show 0 < 2 ^ 63 by decide)).mp q
  omega
theorem nx_lrem (hexec : p.tables.exec = Jvm.exec) (hb : c.code = cc) {a b : Nat} (hdg : decode cc pc = .ok (.lrem, 1)) (ha : a < 2 ^ 63) (h0 : 0 < b) (hb2 : b < 2 ^ 63) (k : W p l e R s m args below meth c H locs cells slots Q (F0 m (pc + 1) ls (.long (lN (a % b)) :: rest))) : W p l e R s m args below meth c H locs cells slots Q (F0 m pc ls (.long (lN b) :: .long (lN a) :: rest)) := by
  refine lv_lrem hexec hb hdg (fun q => ?_) (by rw [pk_lRem ha h0 hb2]; exact k)
  have := (pk_lEQ hb2 (show 0 < 2 ^ 63 by decide)).mp q
  omega
theorem nx_icmp_lt (hexec : p.tables.exec = Jvm.exec) (hb : c.code = cc) {a b : Nat} {off : Int} {tgt : Nat} (hdg : decode cc pc = .ok (.if_icmp .lt off, 3)) (ht : (pc : Int) + off = (tgt : Int)) (ha : a < 2 ^ 31) (hb2 : b < 2 ^ 31) (kt : a < b → W p l e R s m args below meth c H locs cells slots Q (F0 m tgt ls rest)) (kf : b ≤ a → W p l e R s m args below meth c H locs cells slots Q (F0 m (pc + 3) ls rest)) : W p l e R s m args below meth c H locs cells slots Q (F0 m pc ls (.int (nI b) :: .int (nI a) :: rest)) := lv_icmp_lt hexec hb hdg ht (fun q => kt ((nI_ltI ha hb2).mp q)) (fun q => kf (by have := mt (nI_ltI ha hb2).mpr q; omega))
theorem nx_icmp_ge (hexec : p.tables.exec = Jvm.exec) (hb : c.code = cc) {a b : Nat} {off : Int} {tgt : Nat} (hdg : decode cc pc = .ok (.if_icmp .ge off, 3)) (ht : (pc : Int) + off = (tgt : Int)) (ha : a < 2 ^ 31) (hb2 : b < 2 ^ 31) (kt : b ≤ a → W p l e R s m args below meth c H locs cells slots Q (F0 m tgt ls rest)) (kf : a < b → W p l e R s m args below meth c H locs cells slots Q (F0 m (pc + 3) ls rest)) : W p l e R s m args below meth c H locs cells slots Q (F0 m pc ls (.int (nI b) :: .int (nI a) :: rest)) := lv_icmp_ge hexec hb hdg ht (fun q => kt ((nI_leI hb2 ha).mp q)) (fun q => kf (by have := mt (nI_leI hb2 ha).mpr q; omega))
theorem nx_icmp_gt (hexec : p.tables.exec = Jvm.exec) (hb : c.code = cc) {a b : Nat} {off : Int} {tgt : Nat} (hdg : decode cc pc = .ok (.if_icmp .gt off, 3)) (ht : (pc : Int) + off = (tgt : Int)) (ha : a < 2 ^ 31) (hb2 : b < 2 ^ 31) (kt : b < a → W p l e R s m args below meth c H locs cells slots Q (F0 m tgt ls rest)) (kf : a ≤ b → W p l e R s m args below meth c H locs cells slots Q (F0 m (pc + 3) ls rest)) : W p l e R s m args below meth c H locs cells slots Q (F0 m pc ls (.int (nI b) :: .int (nI a) :: rest)) := lv_icmp_gt hexec hb hdg ht (fun q => kt ((nI_ltI hb2 ha).mp q)) (fun q => kf (by have := mt (nI_ltI hb2 ha).mpr q; omega))
theorem nx_icmp_le (hexec : p.tables.exec = Jvm.exec) (hb : c.code = cc) {a b : Nat} {off : Int} {tgt : Nat} (hdg : decode cc pc = .ok (.if_icmp .le off, 3)) (ht : (pc : Int) + off = (tgt : Int)) (ha : a < 2 ^ 31) (hb2 : b < 2 ^ 31) (kt : a ≤ b → W p l e R s m args below meth c H locs cells slots Q (F0 m tgt ls rest)) (kf : b < a → W p l e R s m args below meth c H locs cells slots Q (F0 m (pc + 3) ls rest)) : W p l e R s m args below meth c H locs cells slots Q (F0 m pc ls (.int (nI b) :: .int (nI a) :: rest)) := lv_icmp_le hexec hb hdg ht (fun q => kt ((nI_leI ha hb2).mp q)) (fun q => kf (by have := mt (nI_leI ha hb2).mpr q; omega))
theorem nx_icmp_eq (hexec : p.tables.exec = Jvm.exec) (hb : c.code = cc) {a b : Nat} {off : Int} {tgt : Nat} (hdg : decode cc pc = .ok (.if_icmp .eq off, 3)) (ht : (pc : Int) + off = (tgt : Int)) (ha : a < 2 ^ 31) (hb2 : b < 2 ^ 31) (kt : a = b → W p l e R s m args below meth c H locs cells slots Q (F0 m tgt ls rest)) (kf : a ≠ b → W p l e R s m args below meth c H locs cells slots Q (F0 m (pc + 3) ls rest)) : W p l e R s m args below meth c H locs cells slots Q (F0 m pc ls (.int (nI b) :: .int (nI a) :: rest)) := lv_icmp_eq hexec hb hdg ht (fun q => kt ((nI_eq ha hb2).mp q)) (fun q => kf (fun z => q ((nI_eq ha hb2).mpr z)))
theorem nx_icmp_ne (hexec : p.tables.exec = Jvm.exec) (hb : c.code = cc) {a b : Nat} {off : Int} {tgt : Nat} (hdg : decode cc pc = .ok (.if_icmp .ne off, 3)) (ht : (pc : Int) + off = (tgt : Int)) (ha : a < 2 ^ 31) (hb2 : b < 2 ^ 31) (kt : a ≠ b → W p l e R s m args below meth c H locs cells slots Q (F0 m tgt ls rest)) (kf : a = b → W p l e R s m args below meth c H locs cells slots Q (F0 m (pc + 3) ls rest)) : W p l e R s m args below meth c H locs cells slots Q (F0 m pc ls (.int (nI b) :: .int (nI a) :: rest)) := lv_icmp_ne hexec hb hdg ht (fun q => kt (fun z => q ((nI_eq ha hb2).mpr z))) (fun q => kf ((nI_eq ha hb2).mp q))
theorem nx_if_eq (hexec : p.tables.exec = Jvm.exec) (hb : c.code = cc) {a : Nat} {off : Int} {tgt : Nat} (hdg : decode cc pc = .ok (.ifCond .eq off, 3)) (ht : (pc : Int) + off = (tgt : Int)) (ha : a < 2 ^ 31) (kt : a = 0 → W p l e R s m args below meth c H locs cells slots Q (F0 m tgt ls rest)) (kf : 0 < a → W p l e R s m args below meth c H locs cells slots Q (F0 m (pc + 3) ls rest)) : W p l e R s m args below meth c H locs cells slots Q (F0 m pc ls (.int (nI a) :: rest)) := lv_if_eq hexec hb hdg ht (fun q => kt ((nI_eq ha (show 0 < 2 ^ 31 by decide)).mp (by rw [nI_0]; exact q))) (fun q => kf (Nat.pos_of_ne_zero fun z => q (by rw [z, nI_0])))
theorem nx_if_ne (hexec : p.tables.exec = Jvm.exec) (hb : c.code = cc) {a : Nat} {off : Int} {tgt : Nat} (hdg : decode cc pc = .ok (.ifCond .ne off, 3)) (ht : (pc : Int) + off = (tgt : Int)) (ha : a < 2 ^ 31) (kt : 0 < a → W p l e R s m args below meth c H locs cells slots Q (F0 m tgt ls rest)) (kf : a = 0 → W p l e R s m args below meth c H locs cells slots Q (F0 m (pc + 3) ls rest)) : W p l e R s m args below meth c H locs cells slots Q (F0 m pc ls (.int (nI a) :: rest)) := lv_if_ne hexec hb hdg ht (fun q => kt (Nat.pos_of_ne_zero fun z => q (by rw [z, nI_0]))) (fun q => kf ((nI_eq ha (show 0 < 2 ^ 31 by decide)).mp (by rw [nI_0]; exact q)))
theorem nx_if_gt (hexec : p.tables.exec = Jvm.exec) (hb : c.code = cc) {a : Nat} {off : Int} {tgt : Nat} (hdg : decode cc pc = .ok (.ifCond .gt off, 3)) (ht : (pc : Int) + off = (tgt : Int)) (ha : a < 2 ^ 31) (kt : 0 < a → W p l e R s m args below meth c H locs cells slots Q (F0 m tgt ls rest)) (kf : a = 0 → W p l e R s m args below meth c H locs cells slots Q (F0 m (pc + 3) ls rest)) : W p l e R s m args below meth c H locs cells slots Q (F0 m pc ls (.int (nI a) :: rest)) := lv_if_gt hexec hb hdg ht (fun q => kt ((nI_ltI (show 0 < 2 ^ 31 by decide) ha).mp (by rw [nI_0]; exact q))) (fun q => kf (Nat.eq_zero_of_not_pos fun z => q (by have := (nI_ltI (show 0 < 2 ^ 31 by decide) ha).mpr z; rw [nI_0] at this; exact this)))
theorem nx_if_le (hexec : p.tables.exec = Jvm.exec) (hb : c.code = cc) {a : Nat} {off : Int} {tgt : Nat} (hdg : decode cc pc = .ok (.ifCond .le off, 3)) (ht : (pc : Int) + off = (tgt : Int)) (ha : a < 2 ^ 31) (kt : a = 0 → W p l e R s m args below meth c H locs cells slots Q (F0 m tgt ls rest)) (kf : 0 < a → W p l e R s m args below meth c H locs cells slots Q (F0 m (pc + 3) ls rest)) : W p l e R s m args below meth c H locs cells slots Q (F0 m pc ls (.int (nI a) :: rest)) := lv_if_le hexec hb hdg ht (fun q => kt (by have := (nI_leI ha (show 0 < 2 ^ 31 by decide)).mp (by rw [nI_0]; exact q); omega)) (fun q => kf (Nat.pos_of_ne_zero fun z => q (by rw [z, nI_0]; decide)))
theorem nx_lc_lt (hexec : p.tables.exec = Jvm.exec) (hb : c.code = cc) {x y : Int64} {off : Int} {tgt : Nat} (d1 : decode cc pc = .ok (.lcmp, 1)) (d2 : decode cc (pc + 1) = .ok (.ifCond .lt off, 3)) (ht : ((pc + 1 : Nat) : Int) + off = (tgt : Int)) (kt : x < y → W p l e R s m args below meth c H locs cells slots Q (F0 m tgt ls rest)) (kf : ¬ x < y → W p l e R s m args below meth c H locs cells slots Q (F0 m (pc + 1 + 3) ls rest)) : W p l e R s m args below meth c H locs cells slots Q (F0 m pc ls (.long y :: .long x :: rest)) := W.lcmp hexec hb d1 (lv_if_lt hexec hb d2 ht (fun q => kt ((lg_cmp_lt x y).mp q)) (fun q => kf (mt (lg_cmp_lt x y).mpr q)))
theorem nx_lc_ge (hexec : p.tables.exec = Jvm.exec) (hb : c.code = cc) {x y : Int64} {off : Int} {tgt : Nat} (d1 : decode cc pc = .ok (.lcmp, 1)) (d2 : decode cc (pc + 1) = .ok (.ifCond .ge off, 3)) (ht : ((pc + 1 : Nat) : Int) + off = (tgt : Int)) (kt : y ≤ x → W p l e R s m args below meth c H locs cells slots Q (F0 m tgt ls rest)) (kf : ¬ y ≤ x → W p l e R s m args below meth c H locs cells slots Q (F0 m (pc + 1 + 3) ls rest)) : W p l e R s m args below meth c H locs cells slots Q (F0 m pc ls (.long y :: .long x :: rest)) := W.lcmp hexec hb d1 (lv_if_ge hexec hb d2 ht (fun q => kt ((lg_cmp_ge x y).mp q)) (fun q => kf (mt (lg_cmp_ge x y).mpr q)))
theorem nx_lc_gt (hexec : p.tables.exec = Jvm.exec) (hb : c.code = cc) {x y : Int64} {off : Int} {tgt : Nat} (d1 : decode cc pc = .ok (.lcmp, 1)) (d2 : decode cc (pc + 1) = .ok (.ifCond .gt off, 3)) (ht : ((pc + 1 : Nat) : Int) + off = (tgt : Int)) (kt : y < x → W p l e R s m args below meth c H locs cells slots Q (F0 m tgt ls rest)) (kf : ¬ y < x → W p l e R s m args below meth c H locs cells slots Q (F0 m (pc + 1 + 3) ls rest)) : W p l e R s m args below meth c H locs cells slots Q (F0 m pc ls (.long y :: .long x :: rest)) := W.lcmp hexec hb d1 (lv_if_gt hexec hb d2 ht (fun q => kt ((lg_cmp_gt x y).mp q)) (fun q => kf (mt (lg_cmp_gt x y).mpr q)))
theorem nx_lc_le (hexec : p.tables.exec = Jvm.exec) (hb : c.code = cc) {x y : Int64} {off : Int} {tgt : Nat} (d1 : decode cc pc = .ok (.lcmp, 1)) (d2 : decode cc (pc + 1) = .ok (.ifCond .le off, 3)) (ht : ((pc + 1 : Nat) : Int) + off = (tgt : Int)) (kt : x ≤ y → W p l e R s m args below meth c H locs cells slots Q (F0 m tgt ls rest)) (kf : ¬ x ≤ y → W p l e R s m args below meth c H locs cells slots Q (F0 m (pc + 1 + 3) ls rest)) : W p l e R s m args below meth c H locs cells slots Q (F0 m pc ls (.long y :: .long x :: rest)) := W.lcmp hexec hb d1 (lv_if_le hexec hb d2 ht (fun q => kt ((lg_cmp_le x y).mp q)) (fun q => kf (mt (lg_cmp_le x y).mpr q)))
theorem nx_lc_eq (hexec : p.tables.exec = Jvm.exec) (hb : c.code = cc) {x y : Int64} {off : Int} {tgt : Nat} (d1 : decode cc pc = .ok (.lcmp, 1)) (d2 : decode cc (pc + 1) = .ok (.ifCond .eq off, 3)) (ht : ((pc + 1 : Nat) : Int) + off = (tgt : Int)) (kt : x = y → W p l e R s m args below meth c H locs cells slots Q (F0 m tgt ls rest)) (kf : ¬ x = y → W p l e R s m args below meth c H locs cells slots Q (F0 m (pc + 1 + 3) ls rest)) : W p l e R s m args below meth c H locs cells slots Q (F0 m pc ls (.long y :: .long x :: rest)) := W.lcmp hexec hb d1 (lv_if_eq hexec hb d2 ht (fun q => kt ((lg_cmp_eq x y).mp q)) (fun q => kf (mt (lg_cmp_eq x y).mpr q)))
theorem nx_lc_ne (hexec : p.tables.exec = Jvm.exec) (hb : c.code = cc) {x y : Int64} {off : Int} {tgt : Nat} (d1 : decode cc pc = .ok (.lcmp, 1)) (d2 : decode cc (pc + 1) = .ok (.ifCond .ne off, 3)) (ht : ((pc + 1 : Nat) : Int) + off = (tgt : Int)) (kt : ¬ x = y → W p l e R s m args below meth c H locs cells slots Q (F0 m tgt ls rest)) (kf : x = y → W p l e R s m args below meth c H locs cells slots Q (F0 m (pc + 1 + 3) ls rest)) : W p l e R s m args below meth c H locs cells slots Q (F0 m pc ls (.long y :: .long x :: rest)) := W.lcmp hexec hb d1 (lv_if_ne hexec hb d2 ht (fun q => kt (mt (lg_cmp_eq x y).mpr q)) (fun q => kf ((lg_cmp_eq x y).mp q)))
theorem nx_lcn_lt (hexec : p.tables.exec = Jvm.exec) (hb : c.code = cc) {a b : Nat} {off : Int} {tgt : Nat} (d1 : decode cc pc = .ok (.lcmp, 1)) (d2 : decode cc (pc + 1) = .ok (.ifCond .lt off, 3)) (ht : ((pc + 1 : Nat) : Int) + off = (tgt : Int)) (ha : a < 2 ^ 63) (hb2 : b < 2 ^ 63) (kt : a < b → W p l e R s m args below meth c H locs cells slots Q (F0 m tgt ls rest)) (kf : b ≤ a → W p l e R s m args below meth c H locs cells slots Q (F0 m (pc + 1 + 3) ls rest)) : W p l e R s m args below meth c H locs cells slots Q (F0 m pc ls (.long (lN b) :: .long (lN a) :: rest)) := nx_lc_lt hexec hb d1 d2 ht (fun q => kt ((pk_lLT ha hb2).mp q)) (fun q => kf (by have := mt (pk_lLT ha hb2).mpr q; omega))
theorem nx_lcn_ge (hexec : p.tables.exec = Jvm.exec) (hb : c.code = cc) {a b : Nat} {off : Int} {tgt : Nat} (d1 : decode cc pc = .ok (.lcmp, 1)) (d2 : decode cc (pc + 1) = .ok (.ifCond .ge off, 3)) (ht : ((pc + 1 : Nat) : Int) + off = (tgt : Int)) (ha : a < 2 ^ 63) (hb2 : b < 2 ^ 63) (kt : b ≤ a → W p l e R s m args below meth c H locs cells slots Q (F0 m tgt ls rest)) (kf : a < b → W p l e R s m args below meth c H locs cells slots Q (F0 m (pc + 1 + 3) ls rest)) : W p l e R s m args below meth c H locs cells slots Q (F0 m pc ls (.long (lN b) :: .long (lN a) :: rest)) := nx_lc_ge hexec hb d1 d2 ht (fun q => kt ((pk_lLE hb2 ha).mp q)) (fun q => kf (by have := mt (pk_lLE hb2 ha).mpr q; omega))
theorem nx_lcn_gt (hexec : p.tables.exec = Jvm.exec) (hb : c.code = cc) {a b : Nat} {off : Int} {tgt : Nat} (d1 : decode cc pc = .ok (.lcmp, 1)) (d2 : decode cc (pc + 1) = .ok (.ifCond .gt off, 3)) (ht : ((pc + 1 : Nat) : Int) + off = (tgt : Int)) (ha : a < 2 ^ 63) (hb2 : b < 2 ^ 63) (kt : b < a → W p l e R s m args below meth c H locs cells slots Q (F0 m tgt ls rest)) (kf : a ≤ b → W p l e R s m args below meth c H locs cells slots Q (F0 m (pc + 1 + 3) ls rest)) : W p l e R s m args below meth c H locs cells slots Q (F0 m pc ls (.long (lN b) :: .long (lN a) :: rest)) := nx_lc_gt hexec hb d1 d2 ht (fun q => kt ((pk_lLT hb2 ha).mp q)) (fun q => kf (by have := mt (pk_lLT hb2 ha).mpr q; omega))
theorem nx_lcn_le (hexec : p.tables.exec = Jvm.exec) (hb : c.code = cc) {a b : Nat} {off : Int} {tgt : Nat} (d1 : decode cc pc = .ok (.lcmp, 1)) (d2 : decode cc (pc + 1) = .ok (.ifCond .le off, 3)) (ht : ((pc + 1 : Nat) : Int) + off = (tgt : Int)) (ha : a < 2 ^ 63) (hb2 : b < 2 ^ 63) (kt : a ≤ b → W p l e R s m args below meth c H locs cells slots Q (F0 m tgt ls rest)) (kf : b < a → W p l e R s m args below meth c H locs cells slots Q (F0 m (pc + 1 + 3) ls rest)) : W p l e R s m args below meth c H locs cells slots Q (F0 m pc ls (.long (lN b) :: .long (lN a) :: rest)) := nx_lc_le hexec hb d1 d2 ht (fun q => kt ((pk_lLE ha hb2).mp q)) (fun q => kf (by have := mt (pk_lLE ha hb2).mpr q; omega))
theorem nx_lcn_eq (hexec : p.tables.exec = Jvm.exec) (hb : c.code = cc) {a b : Nat} {off : Int} {tgt : Nat} (d1 : decode cc pc = .ok (.lcmp, 1)) (d2 : decode cc (pc + 1) = .ok (.ifCond .eq off, 3)) (ht : ((pc + 1 : Nat) : Int) + off = (tgt : Int)) (ha : a < 2 ^ 63) (hb2 : b < 2 ^ 63) (kt : a = b → W p l e R s m args below meth c H locs cells slots Q (F0 m tgt ls rest)) (kf : a ≠ b → W p l e R s m args below meth c H locs cells slots Q (F0 m (pc + 1 + 3) ls rest)) : W p l e R s m args below meth c H locs cells slots Q (F0 m pc ls (.long (lN b) :: .long (lN a) :: rest)) := nx_lc_eq hexec hb d1 d2 ht (fun q => kt ((pk_lEQ ha hb2).mp q)) (fun q => kf (fun z => q ((pk_lEQ ha hb2).mpr z)))
theorem nx_lcn_ne (hexec : p.tables.exec = Jvm.exec) (hb : c.code = cc) {a b : Nat} {off : Int} {tgt : Nat} (d1 : decode cc pc = .ok (.lcmp, 1)) (d2 : decode cc (pc + 1) = .ok (.ifCond .ne off, 3)) (ht : ((pc + 1 : Nat) : Int) + off = (tgt : Int)) (ha : a < 2 ^ 63) (hb2 : b < 2 ^ 63) (kt : a ≠ b → W p l e R s m args below meth c H locs cells slots Q (F0 m tgt ls rest)) (kf : a = b → W p l e R s m args below meth c H locs cells slots Q (F0 m (pc + 1 + 3) ls rest)) : W p l e R s m args below meth c H locs cells slots Q (F0 m pc ls (.long (lN b) :: .long (lN a) :: rest)) := nx_lc_ne hexec hb d1 d2 ht (fun q => kt (fun z => q ((pk_lEQ ha hb2).mpr z))) (fun q => kf ((pk_lEQ ha hb2).mp q))
end NXA
section NXB
variable {p : Program} {l : Launch} {e : Env} {R : Room} {s : State} {m : MethodId} {args : Array Value} {below : List Frame} {meth : Method} {c : Code} {H : Heap} {locs : List Loc} {cells slots : Nat} {Q : State → Prop}
variable {cc : ByteArray} {pc : Nat} {ls : Array Slot} {rest : List Value} {D : va_G} {cl : List vw_C} {A : Nat → Prop} {a : Nat} {tys : List (ClassId × FieldType)} {ws : va_W} {H0 : Heap}
theorem nx_iald (hexec : p.tables.exec = Jvm.exec) (hb : c.code = cc) (hK : va_K D cl tys s) (hP : va_P D cl ws H) (q0 t0 : Nat) {cA : ClassId} {n : Nat} {f : Nat → Int32} (ha : ws[q0]? = some (a, .inl (cA, n, .inl f))) (ht : tys[t0]? = some (cA, .int)) {k : Nat} {v : Int32} (hk : k < n) (hn : n < 2 ^ 31) (hv : f k = v) (hdg : decode cc pc = .ok (.iaload, 1)) (kk : W p l e R s m args below meth c H locs cells slots Q (F0 m (pc + 1) ls (.int v :: rest))) : W p l e R s m args below meth c H locs cells slots Q (F0 m pc ls (.int (nI k) :: .ref a :: rest)) :=
  va_iald hexec hb hK hP q0 t0 ha ht (vp_in_nI hk hn) hdg (by rw [nI_clamp (Nat.lt_trans hk hn), hv]; exact kk)
theorem nx_lald (hexec : p.tables.exec = Jvm.exec) (hb : c.code = cc) (hK : va_K D cl tys s) (hP : va_P D cl ws H) (q0 t0 : Nat) {cA : ClassId} {n : Nat} {f : Nat → Int64} (ha : ws[q0]? = some (a, .inl (cA, n, .inr (.inl f)))) (ht : tys[t0]? = some (cA, .long)) {k : Nat} {v : Int64} (hk : k < n) (hn : n < 2 ^ 31) (hv : f k = v) (hdg : decode cc pc = .ok (.laload, 1)) (kk : W p l e R s m args below meth c H locs cells slots Q (F0 m (pc + 1) ls (.long v :: rest))) : W p l e R s m args below meth c H locs cells slots Q (F0 m pc ls (.int (nI k) :: .ref a :: rest)) :=
  va_lald hexec hb hK hP q0 t0 ha ht (vp_in_nI hk hn) hdg (by rw [nI_clamp (Nat.lt_trans hk hn), hv]; exact kk)
theorem nx_iast (hexec : p.tables.exec = Jvm.exec) (hb : c.code = cc) (hK : va_K D cl tys s) (hP : va_P D cl ws H) (hD : va_D A ws) (hS : va_S A H0 H locs) (q0 t0 : Nat) {cA : ClassId} {n : Nat} {f : Nat → Int32} (ha : ws[q0]? = some (a, .inl (cA, n, .inl f))) (ht : tys[t0]? = some (cA, .int)) {k : Nat} {x : Int32} (hk : k < n) (hn : n < 2 ^ 31) (hdg : decode cc pc = .ok (.iastore, 1)) (kk : ∀ (H1 : Heap) (locs1 : List Loc), va_P D cl (ws.set q0 (a, .inl (cA, n, .inl (upd f k x)))) H1 → va_D A (ws.set q0 (a, .inl (cA, n, .inl (upd f k x)))) → va_S A H0 H1 locs1 → W p l e R s m args below meth c H1 locs1 cells slots Q (F0 m (pc + 1) ls rest)) : W p l e R s m args below meth c H locs cells slots Q (F0 m pc ls (.int x :: .int (nI k) :: .ref a :: rest)) :=
  va_iast hexec hb hK hP hD hS q0 t0 ha ht (vp_in_nI hk hn) hdg (fun H1 locs1 => by rw [nI_clamp (Nat.lt_trans hk hn)]; exact kk H1 locs1)
theorem nx_last (hexec : p.tables.exec = Jvm.exec) (hb : c.code = cc) (hK : va_K D cl tys s) (hP : va_P D cl ws H) (hD : va_D A ws) (hS : va_S A H0 H locs) (q0 t0 : Nat) {cA : ClassId} {n : Nat} {f : Nat → Int64} (ha : ws[q0]? = some (a, .inl (cA, n, .inr (.inl f)))) (ht : tys[t0]? = some (cA, .long)) {k : Nat} {x : Int64} (hk : k < n) (hn : n < 2 ^ 31) (hdg : decode cc pc = .ok (.lastore, 1)) (kk : ∀ (H1 : Heap) (locs1 : List Loc), va_P D cl (ws.set q0 (a, .inl (cA, n, .inr (.inl (vp_updL f k x))))) H1 → va_D A (ws.set q0 (a, .inl (cA, n, .inr (.inl (vp_updL f k x))))) → va_S A H0 H1 locs1 → W p l e R s m args below meth c H1 locs1 cells slots Q (F0 m (pc + 1) ls rest)) : W p l e R s m args below meth c H locs cells slots Q (F0 m pc ls (.long x :: .int (nI k) :: .ref a :: rest)) :=
  va_last hexec hb hK hP hD hS q0 t0 ha ht (vp_in_nI hk hn) hdg (fun H1 locs1 => by rw [nI_clamp (Nat.lt_trans hk hn)]; exact kk H1 locs1)
end NXB
end
section
/-! THE WORDS, each in the list of the good ones, by its place. -/
theorem k_0 : (Cond.initialized "RoundTripsLaw") ∈ gw := gw_mem 0 (by decide +kernel) rfl
theorem k_1 : (Cond.initialized "RoundTrips") ∈ gw := gw_mem 1 (by decide +kernel) rfl
theorem k_2 : (Cond.initialized "RoundTrips$Building") ∈ gw := gw_mem 2 (by decide +kernel) rfl
theorem k_3 : (Cond.initialized "RoundTrips$Odds") ∈ gw := gw_mem 3 (by decide +kernel) rfl
theorem k_4 : (Cond.initialized "RoundTrips$Splits") ∈ gw := gw_mem 4 (by decide +kernel) rfl
theorem k_5 : (Cond.initialized "RoundTrips$Stairs") ∈ gw := gw_mem 5 (by decide +kernel) rfl
theorem k_6 : (Cond.initialized "RoundTripsModel") ∈ gw := gw_mem 6 (by decide +kernel) rfl
theorem k_7 : (Cond.initialized "java/lang/Throwable") ∈ gw := gw_mem 7 (by decide +kernel) rfl
theorem k_8 : (Cond.initialized "java/lang/Exception") ∈ gw := gw_mem 8 (by decide +kernel) rfl
theorem k_9 : (Cond.initialized "java/lang/RuntimeException") ∈ gw := gw_mem 9 (by decide +kernel) rfl
theorem k_10 : (Cond.initialized "java/lang/IllegalArgumentException") ∈ gw := gw_mem 10 (by decide +kernel) rfl
theorem k_11 : (Cond.initialized "java/lang/IllegalStateException") ∈ gw := gw_mem 11 (by decide +kernel) rfl
theorem k_12 : (Cond.initialized "RoundTrips$CarType") ∈ gw := gw_mem 12 (by decide +kernel) rfl
theorem k_13 : (Cond.initialized "java/lang/System") ∈ gw := gw_mem 13 (by decide +kernel) rfl
theorem k_14 : (Cond.initialized "java/lang/Math") ∈ gw := gw_mem 14 (by decide +kernel) rfl
theorem k_15 : (Cond.classLink "RoundTripsLaw" 8 "RoundTrips") ∈ gw := gw_mem 15 (by decide +kernel) rfl
theorem k_16 : (Cond.instantiable "RoundTrips" 6) ∈ gw := gw_mem 16 (by decide +kernel) rfl
theorem k_17 : (Cond.methodLink "RoundTripsLaw" 59 y_T_init) ∈ gw := gw_mem 17 (by decide +kernel) rfl
theorem k_18 : (Cond.instanceMethod y_T_init) ∈ gw := gw_mem 18 (by decide +kernel) rfl
theorem k_19 : (Cond.code y_T_init b_T_init 1 none) ∈ gw := gw_mem 19 (by decide +kernel) rfl
theorem k_20 : (Cond.methodLink "RoundTrips" 1 ⟨"java/lang/Object", "<init>", "()V"⟩) ∈ gw := gw_mem 20 (by decide +kernel) rfl
theorem k_21 : (Cond.instanceMethod ⟨"java/lang/Object", "<init>", "()V"⟩) ∈ gw := gw_mem 21 (by decide +kernel) rfl
theorem k_22 : (Cond.code ⟨"java/lang/Object", "<init>", "()V"⟩ object_method_1_code 1 none) ∈ gw := gw_mem 22 (by decide +kernel) rfl
theorem k_23 : (Cond.classLink "RoundTrips" 7 "RoundTrips$Building") ∈ gw := gw_mem 23 (by decide +kernel) rfl
theorem k_24 : (Cond.instantiable "RoundTrips$Building" 4) ∈ gw := gw_mem 24 (by decide +kernel) rfl
theorem k_26 : (Cond.instanceMethod y_B_init) ∈ gw := gw_mem 26 (by decide +kernel) rfl
theorem k_27 : (Cond.code y_B_init b_B_init 1 none) ∈ gw := gw_mem 27 (by decide +kernel) rfl
theorem k_28 : (Cond.methodLink "RoundTrips$Building" 3 ⟨"java/lang/Object", "<init>", "()V"⟩) ∈ gw := gw_mem 28 (by decide +kernel) rfl
theorem k_29 : (Cond.fieldLink "RoundTrips$Building" 9 "RoundTrips$Building" "personsOf" "[I") ∈ gw := gw_mem 29 (by decide +kernel) rfl
theorem k_30 : (Cond.fieldLink "RoundTrips$Stairs" 15 "RoundTrips$Building" "personsOf" "[I") ∈ gw := gw_mem 30 (by decide +kernel) rfl
theorem k_31 : (Cond.fieldLink "RoundTrips$Odds" 35 "RoundTrips$Building" "personsOf" "[I") ∈ gw := gw_mem 31 (by decide +kernel) rfl
theorem k_32 : (Cond.fieldLink "RoundTrips" 75 "RoundTrips$Building" "personsOf" "[I") ∈ gw := gw_mem 32 (by decide +kernel) rfl
theorem k_33 : (Cond.fieldLink "RoundTrips$Building" 15 "RoundTrips$Building" "heightOf" "[I") ∈ gw := gw_mem 33 (by decide +kernel) rfl
theorem k_34 : (Cond.fieldLink "RoundTrips$Odds" 39 "RoundTrips$Building" "heightOf" "[I") ∈ gw := gw_mem 34 (by decide +kernel) rfl
theorem k_35 : (Cond.fieldLink "RoundTrips$Building" 18 "RoundTrips$Building" "floors" "I") ∈ gw := gw_mem 35 (by decide +kernel) rfl
theorem k_36 : (Cond.fieldLink "RoundTrips$Splits" 29 "RoundTrips$Building" "floors" "I") ∈ gw := gw_mem 36 (by decide +kernel) rfl
theorem k_37 : (Cond.fieldLink "RoundTrips" 51 "RoundTrips$Building" "floors" "I") ∈ gw := gw_mem 37 (by decide +kernel) rfl
theorem k_38 : (Cond.fieldLink "RoundTrips$Stairs" 26 "RoundTrips$Building" "everybody" "I") ∈ gw := gw_mem 38 (by decide +kernel) rfl
theorem k_39 : (Cond.fieldLink "RoundTrips" 61 "RoundTrips$Building" "everybody" "I") ∈ gw := gw_mem 39 (by decide +kernel) rfl
theorem k_40 : (Cond.fieldLink "RoundTrips$Building" 22 "RoundTrips$Building" "everybody" "I") ∈ gw := gw_mem 40 (by decide +kernel) rfl
theorem k_41 : (Cond.laysFinal "RoundTrips$Building" "RoundTrips$Building" "personsOf" "[I") ∈ gw := gw_mem 41 (by decide +kernel) rfl
theorem k_42 : (Cond.soleField "RoundTrips$Building" "personsOf") ∈ gw := gw_mem 42 (by decide +kernel) rfl
theorem k_43 : (Cond.laysFinal "RoundTrips$Building" "RoundTrips$Building" "heightOf" "[I") ∈ gw := gw_mem 43 (by decide +kernel) rfl
theorem k_44 : (Cond.soleField "RoundTrips$Building" "heightOf") ∈ gw := gw_mem 44 (by decide +kernel) rfl
theorem k_45 : (Cond.lays "RoundTrips$Building" "RoundTrips$Building" "floors" "I") ∈ gw := gw_mem 45 (by decide +kernel) rfl
theorem k_46 : (Cond.soleField "RoundTrips$Building" "floors") ∈ gw := gw_mem 46 (by decide +kernel) rfl
theorem k_47 : (Cond.lays "RoundTrips$Building" "RoundTrips$Building" "everybody" "I") ∈ gw := gw_mem 47 (by decide +kernel) rfl
theorem k_48 : (Cond.soleField "RoundTrips$Building" "everybody") ∈ gw := gw_mem 48 (by decide +kernel) rfl
theorem k_49 : (Cond.superclass "RoundTrips$Building" "java/lang/Object") ∈ gw := gw_mem 49 (by decide +kernel) rfl
theorem k_50 : (Cond.arrayClass FieldType.int) ∈ gw := gw_mem 50 (by decide +kernel) rfl
theorem k_51 : (Cond.classLink "RoundTrips" 16 "RoundTrips$CarType") ∈ gw := gw_mem 51 (by decide +kernel) rfl
theorem k_53 : (Cond.classLink "RoundTrips" 26 "RoundTrips$Odds") ∈ gw := gw_mem 53 (by decide +kernel) rfl
theorem k_54 : (Cond.instantiable "RoundTrips$Odds" 4) ∈ gw := gw_mem 54 (by decide +kernel) rfl
theorem k_56 : (Cond.instanceMethod y_O_init) ∈ gw := gw_mem 56 (by decide +kernel) rfl
theorem k_57 : (Cond.code y_O_init b_O_init 1 none) ∈ gw := gw_mem 57 (by decide +kernel) rfl
theorem k_58 : (Cond.methodLink "RoundTrips$Odds" 3 ⟨"java/lang/Object", "<init>", "()V"⟩) ∈ gw := gw_mem 58 (by decide +kernel) rfl
theorem k_59 : (Cond.fieldLink "RoundTrips$Odds" 9 "RoundTrips$Odds" "empty" "Z") ∈ gw := gw_mem 59 (by decide +kernel) rfl
theorem k_60 : (Cond.fieldLink "RoundTrips$Odds" 15 "RoundTrips$Odds" "ways" "J") ∈ gw := gw_mem 60 (by decide +kernel) rfl
theorem k_61 : (Cond.fieldLink "RoundTrips" 93 "RoundTrips$Odds" "ways" "J") ∈ gw := gw_mem 61 (by decide +kernel) rfl
theorem k_62 : (Cond.fieldLink "RoundTrips$Odds" 29 "RoundTrips$Odds" "stopsOfAll" "J") ∈ gw := gw_mem 62 (by decide +kernel) rfl
theorem k_63 : (Cond.fieldLink "RoundTrips" 89 "RoundTrips$Odds" "stopsOfAll" "J") ∈ gw := gw_mem 63 (by decide +kernel) rfl
theorem k_64 : (Cond.fieldLink "RoundTrips$Odds" 32 "RoundTrips$Odds" "heightsOfAll" "J") ∈ gw := gw_mem 64 (by decide +kernel) rfl
theorem k_65 : (Cond.fieldLink "RoundTrips" 100 "RoundTrips$Odds" "heightsOfAll" "J") ∈ gw := gw_mem 65 (by decide +kernel) rfl
theorem k_66 : (Cond.lays "RoundTrips$Odds" "RoundTrips$Odds" "empty" "Z") ∈ gw := gw_mem 66 (by decide +kernel) rfl
theorem k_67 : (Cond.soleField "RoundTrips$Odds" "empty") ∈ gw := gw_mem 67 (by decide +kernel) rfl
theorem k_68 : (Cond.lays "RoundTrips$Odds" "RoundTrips$Odds" "ways" "J") ∈ gw := gw_mem 68 (by decide +kernel) rfl
theorem k_69 : (Cond.soleField "RoundTrips$Odds" "ways") ∈ gw := gw_mem 69 (by decide +kernel) rfl
theorem k_70 : (Cond.lays "RoundTrips$Odds" "RoundTrips$Odds" "stopsOfAll" "J") ∈ gw := gw_mem 70 (by decide +kernel) rfl
theorem k_71 : (Cond.soleField "RoundTrips$Odds" "stopsOfAll") ∈ gw := gw_mem 71 (by decide +kernel) rfl
theorem k_72 : (Cond.lays "RoundTrips$Odds" "RoundTrips$Odds" "heightsOfAll" "J") ∈ gw := gw_mem 72 (by decide +kernel) rfl
theorem k_73 : (Cond.soleField "RoundTrips$Odds" "heightsOfAll") ∈ gw := gw_mem 73 (by decide +kernel) rfl
theorem k_74 : (Cond.superclass "RoundTrips$Odds" "java/lang/Object") ∈ gw := gw_mem 74 (by decide +kernel) rfl
theorem k_75 : (Cond.classLink "RoundTrips" 33 "RoundTrips$Splits") ∈ gw := gw_mem 75 (by decide +kernel) rfl
theorem k_76 : (Cond.instantiable "RoundTrips$Splits" 7) ∈ gw := gw_mem 76 (by decide +kernel) rfl
theorem k_77 : (Cond.methodLink "RoundTrips" 35 y_S_init) ∈ gw := gw_mem 77 (by decide +kernel) rfl
theorem k_78 : (Cond.instanceMethod y_S_init) ∈ gw := gw_mem 78 (by decide +kernel) rfl
theorem k_79 : (Cond.code y_S_init b_S_init 1 none) ∈ gw := gw_mem 79 (by decide +kernel) rfl
theorem k_80 : (Cond.methodLink "RoundTrips$Splits" 3 ⟨"java/lang/Object", "<init>", "()V"⟩) ∈ gw := gw_mem 80 (by decide +kernel) rfl
theorem k_81 : (Cond.fieldLink "RoundTrips$Splits" 11 "RoundTrips$Splits" "tripsAbove" "[J") ∈ gw := gw_mem 81 (by decide +kernel) rfl
theorem k_82 : (Cond.fieldLink "RoundTrips$Splits" 15 "RoundTrips$Splits" "tripsBelow" "[J") ∈ gw := gw_mem 82 (by decide +kernel) rfl
theorem k_83 : (Cond.fieldLink "RoundTrips$Splits" 18 "RoundTrips$Splits" "ends" "[I") ∈ gw := gw_mem 83 (by decide +kernel) rfl
theorem k_84 : (Cond.fieldLink "RoundTrips$Splits" 22 "RoundTrips$Splits" "bestEnds" "[I") ∈ gw := gw_mem 84 (by decide +kernel) rfl
theorem k_85 : (Cond.fieldLink "RoundTrips" 157 "RoundTrips$Splits" "bestEnds" "[I") ∈ gw := gw_mem 85 (by decide +kernel) rfl
theorem k_86 : (Cond.fieldLink "RoundTrips$Splits" 25 "RoundTrips$Splits" "bestLongest" "I") ∈ gw := gw_mem 86 (by decide +kernel) rfl
theorem k_87 : (Cond.fieldLink "RoundTrips$Splits" 56 "RoundTrips$Splits" "floors" "I") ∈ gw := gw_mem 87 (by decide +kernel) rfl
theorem k_88 : (Cond.fieldLink "RoundTrips$Splits" 57 "RoundTrips$Splits" "zones" "I") ∈ gw := gw_mem 88 (by decide +kernel) rfl
theorem k_89 : (Cond.laysFinal "RoundTrips$Splits" "RoundTrips$Splits" "tripsAbove" "[J") ∈ gw := gw_mem 89 (by decide +kernel) rfl
theorem k_90 : (Cond.soleField "RoundTrips$Splits" "tripsAbove") ∈ gw := gw_mem 90 (by decide +kernel) rfl
theorem k_91 : (Cond.laysFinal "RoundTrips$Splits" "RoundTrips$Splits" "tripsBelow" "[J") ∈ gw := gw_mem 91 (by decide +kernel) rfl
theorem k_92 : (Cond.soleField "RoundTrips$Splits" "tripsBelow") ∈ gw := gw_mem 92 (by decide +kernel) rfl
theorem k_93 : (Cond.laysFinal "RoundTrips$Splits" "RoundTrips$Splits" "ends" "[I") ∈ gw := gw_mem 93 (by decide +kernel) rfl
theorem k_94 : (Cond.soleField "RoundTrips$Splits" "ends") ∈ gw := gw_mem 94 (by decide +kernel) rfl
theorem k_95 : (Cond.laysFinal "RoundTrips$Splits" "RoundTrips$Splits" "bestEnds" "[I") ∈ gw := gw_mem 95 (by decide +kernel) rfl
theorem k_96 : (Cond.soleField "RoundTrips$Splits" "bestEnds") ∈ gw := gw_mem 96 (by decide +kernel) rfl
theorem k_97 : (Cond.lays "RoundTrips$Splits" "RoundTrips$Splits" "bestLongest" "I") ∈ gw := gw_mem 97 (by decide +kernel) rfl
theorem k_98 : (Cond.soleField "RoundTrips$Splits" "bestLongest") ∈ gw := gw_mem 98 (by decide +kernel) rfl
theorem k_99 : (Cond.lays "RoundTrips$Splits" "RoundTrips$Splits" "floors" "I") ∈ gw := gw_mem 99 (by decide +kernel) rfl
theorem k_100 : (Cond.soleField "RoundTrips$Splits" "floors") ∈ gw := gw_mem 100 (by decide +kernel) rfl
theorem k_101 : (Cond.lays "RoundTrips$Splits" "RoundTrips$Splits" "zones" "I") ∈ gw := gw_mem 101 (by decide +kernel) rfl
theorem k_102 : (Cond.soleField "RoundTrips$Splits" "zones") ∈ gw := gw_mem 102 (by decide +kernel) rfl
theorem k_103 : (Cond.superclass "RoundTrips$Splits" "java/lang/Object") ∈ gw := gw_mem 103 (by decide +kernel) rfl
theorem k_104 : (Cond.arrayClass FieldType.long) ∈ gw := gw_mem 104 (by decide +kernel) rfl
theorem k_105 : (Cond.classLink "RoundTrips" 40 "RoundTrips$Stairs") ∈ gw := gw_mem 105 (by decide +kernel) rfl
theorem k_106 : (Cond.instantiable "RoundTrips$Stairs" 2) ∈ gw := gw_mem 106 (by decide +kernel) rfl
theorem k_108 : (Cond.instanceMethod y_A_init) ∈ gw := gw_mem 108 (by decide +kernel) rfl
theorem k_109 : (Cond.code y_A_init b_A_init 1 none) ∈ gw := gw_mem 109 (by decide +kernel) rfl
theorem k_110 : (Cond.methodLink "RoundTrips$Stairs" 3 ⟨"java/lang/Object", "<init>", "()V"⟩) ∈ gw := gw_mem 110 (by decide +kernel) rfl
theorem k_111 : (Cond.fieldLink "RoundTrips$Stairs" 9 "RoundTrips$Stairs" "at" "[I") ∈ gw := gw_mem 111 (by decide +kernel) rfl
theorem k_112 : (Cond.fieldLink "RoundTrips" 170 "RoundTrips$Stairs" "at" "[I") ∈ gw := gw_mem 112 (by decide +kernel) rfl
theorem k_113 : (Cond.fieldLink "RoundTrips$Stairs" 30 "RoundTrips$Stairs" "inside" "I") ∈ gw := gw_mem 113 (by decide +kernel) rfl
theorem k_114 : (Cond.fieldLink "RoundTrips" 164 "RoundTrips$Stairs" "inside" "I") ∈ gw := gw_mem 114 (by decide +kernel) rfl
theorem k_115 : (Cond.laysFinal "RoundTrips$Stairs" "RoundTrips$Stairs" "at" "[I") ∈ gw := gw_mem 115 (by decide +kernel) rfl
theorem k_116 : (Cond.soleField "RoundTrips$Stairs" "at") ∈ gw := gw_mem 116 (by decide +kernel) rfl
theorem k_117 : (Cond.lays "RoundTrips$Stairs" "RoundTrips$Stairs" "inside" "I") ∈ gw := gw_mem 117 (by decide +kernel) rfl
theorem k_118 : (Cond.soleField "RoundTrips$Stairs" "inside") ∈ gw := gw_mem 118 (by decide +kernel) rfl
theorem k_119 : (Cond.superclass "RoundTrips$Stairs" "java/lang/Object") ∈ gw := gw_mem 119 (by decide +kernel) rfl
theorem k_120 : (Cond.fieldLink "RoundTrips" 10 "RoundTrips" "building" "LRoundTrips$Building;") ∈ gw := gw_mem 120 (by decide +kernel) rfl
theorem k_121 : (Cond.fieldLink "RoundTrips" 18 "RoundTrips" "types" "[LRoundTrips$CarType;") ∈ gw := gw_mem 121 (by decide +kernel) rfl
theorem k_122 : (Cond.fieldLink "RoundTrips" 22 "RoundTrips" "typeCount" "I") ∈ gw := gw_mem 122 (by decide +kernel) rfl
theorem k_123 : (Cond.fieldLink "RoundTrips" 29 "RoundTrips" "odds" "LRoundTrips$Odds;") ∈ gw := gw_mem 123 (by decide +kernel) rfl
theorem k_124 : (Cond.fieldLink "RoundTrips" 36 "RoundTrips" "splits" "LRoundTrips$Splits;") ∈ gw := gw_mem 124 (by decide +kernel) rfl
theorem k_125 : (Cond.fieldLink "RoundTrips" 43 "RoundTrips" "stairs" "LRoundTrips$Stairs;") ∈ gw := gw_mem 125 (by decide +kernel) rfl
theorem k_126 : (Cond.laysFinal "RoundTrips" "RoundTrips" "building" "LRoundTrips$Building;") ∈ gw := gw_mem 126 (by decide +kernel) rfl
theorem k_127 : (Cond.soleField "RoundTrips" "building") ∈ gw := gw_mem 127 (by decide +kernel) rfl
theorem k_128 : (Cond.laysFinal "RoundTrips" "RoundTrips" "types" "[LRoundTrips$CarType;") ∈ gw := gw_mem 128 (by decide +kernel) rfl
theorem k_129 : (Cond.soleField "RoundTrips" "types") ∈ gw := gw_mem 129 (by decide +kernel) rfl
theorem k_130 : (Cond.lays "RoundTrips" "RoundTrips" "typeCount" "I") ∈ gw := gw_mem 130 (by decide +kernel) rfl
theorem k_131 : (Cond.soleField "RoundTrips" "typeCount") ∈ gw := gw_mem 131 (by decide +kernel) rfl
theorem k_132 : (Cond.laysFinal "RoundTrips" "RoundTrips" "odds" "LRoundTrips$Odds;") ∈ gw := gw_mem 132 (by decide +kernel) rfl
theorem k_133 : (Cond.soleField "RoundTrips" "odds") ∈ gw := gw_mem 133 (by decide +kernel) rfl
theorem k_134 : (Cond.laysFinal "RoundTrips" "RoundTrips" "splits" "LRoundTrips$Splits;") ∈ gw := gw_mem 134 (by decide +kernel) rfl
theorem k_135 : (Cond.soleField "RoundTrips" "splits") ∈ gw := gw_mem 135 (by decide +kernel) rfl
theorem k_136 : (Cond.laysFinal "RoundTrips" "RoundTrips" "stairs" "LRoundTrips$Stairs;") ∈ gw := gw_mem 136 (by decide +kernel) rfl
theorem k_137 : (Cond.soleField "RoundTrips" "stairs") ∈ gw := gw_mem 137 (by decide +kernel) rfl
theorem k_138 : (Cond.superclass "RoundTrips" "java/lang/Object") ∈ gw := gw_mem 138 (by decide +kernel) rfl
theorem k_139 : (Cond.methodLink "RoundTripsLaw" 63 y_L_floor) ∈ gw := gw_mem 139 (by decide +kernel) rfl
theorem k_140 : (Cond.static y_L_floor) ∈ gw := gw_mem 140 (by decide +kernel) rfl
theorem k_141 : (Cond.codeWith y_L_floor b_L_floor 5 (some FieldType.int) [(0, 10, 13, 13), (0, 10, 17, 15)]) ∈ gw := gw_mem 141 (by decide +kernel) rfl
theorem k_142 : (Cond.classLink "RoundTripsLaw" 13 "java/lang/IllegalArgumentException") ∈ gw := gw_mem 142 (by decide +kernel) rfl
theorem k_143 : (Cond.classLink "RoundTripsLaw" 15 "java/lang/IllegalStateException") ∈ gw := gw_mem 143 (by decide +kernel) rfl
theorem k_144 : (Cond.methodLink "RoundTripsLaw" 7 y_T_floor) ∈ gw := gw_mem 144 (by decide +kernel) rfl
theorem k_145 : (Cond.instanceMethod y_T_floor) ∈ gw := gw_mem 145 (by decide +kernel) rfl
theorem k_146 : (Cond.selects "RoundTrips" y_T_floor y_T_floor) ∈ gw := gw_mem 146 (by decide +kernel) rfl
theorem k_147 : (Cond.code y_T_floor b_T_floor 3 (some FieldType.int)) ∈ gw := gw_mem 147 (by decide +kernel) rfl
theorem k_148 : (Cond.methodLink "RoundTrips" 47 y_T_requireWithin) ∈ gw := gw_mem 148 (by decide +kernel) rfl
theorem k_149 : (Cond.static y_T_requireWithin) ∈ gw := gw_mem 149 (by decide +kernel) rfl
theorem k_150 : (Cond.code y_T_requireWithin b_T_requireWithin 3 none) ∈ gw := gw_mem 150 (by decide +kernel) rfl
theorem k_151 : (Cond.classLink "RoundTrips" 136 "java/lang/IllegalArgumentException") ∈ gw := gw_mem 151 (by decide +kernel) rfl
theorem k_152 : (Cond.instantiable "java/lang/IllegalArgumentException" 6) ∈ gw := gw_mem 152 (by decide +kernel) rfl
theorem k_160 : (Cond.selects "java/lang/IllegalArgumentException" ⟨"java/lang/Throwable", "fillInStackTrace", "(I)Ljava/lang/Throwable;"⟩ ⟨"java/lang/Throwable", "fillInStackTrace", "(I)Ljava/lang/Throwable;"⟩) ∈ gw := gw_mem 160 (by decide +kernel) rfl
theorem k_161 : (Cond.selects "java/lang/IllegalArgumentException" ⟨"java/lang/Throwable", "fillInStackTrace", "()Ljava/lang/Throwable;"⟩ ⟨"java/lang/Throwable", "fillInStackTrace", "()Ljava/lang/Throwable;"⟩) ∈ gw := gw_mem 161 (by decide +kernel) rfl
theorem k_162 : (Cond.lays "java/lang/IllegalArgumentException" "java/lang/Throwable" "cause" "Ljava/lang/Throwable;") ∈ gw := gw_mem 162 (by decide +kernel) rfl
theorem k_163 : (Cond.lays "java/lang/Throwable" "java/lang/Throwable" "cause" "Ljava/lang/Throwable;") ∈ gw := gw_mem 163 (by decide +kernel) rfl
theorem k_164 : (Cond.lays "java/lang/IllegalArgumentException" "java/lang/Throwable" "stackTrace" "[Ljava/lang/StackTraceElement;") ∈ gw := gw_mem 164 (by decide +kernel) rfl
theorem k_165 : (Cond.lays "java/lang/Throwable" "java/lang/Throwable" "stackTrace" "[Ljava/lang/StackTraceElement;") ∈ gw := gw_mem 165 (by decide +kernel) rfl
theorem k_166 : (Cond.lays "java/lang/IllegalArgumentException" "java/lang/Throwable" "suppressedExceptions" "Ljava/util/List;") ∈ gw := gw_mem 166 (by decide +kernel) rfl
theorem k_167 : (Cond.lays "java/lang/Throwable" "java/lang/Throwable" "suppressedExceptions" "Ljava/util/List;") ∈ gw := gw_mem 167 (by decide +kernel) rfl
theorem k_168 : (Cond.lays "java/lang/IllegalArgumentException" "java/lang/Throwable" "detailMessage" "Ljava/lang/String;") ∈ gw := gw_mem 168 (by decide +kernel) rfl
theorem k_169 : (Cond.lays "java/lang/Throwable" "java/lang/Throwable" "detailMessage" "Ljava/lang/String;") ∈ gw := gw_mem 169 (by decide +kernel) rfl
theorem k_170 : (Cond.lays "java/lang/IllegalArgumentException" "java/lang/Throwable" "backtrace" "Ljava/lang/Object;") ∈ gw := gw_mem 170 (by decide +kernel) rfl
theorem k_171 : (Cond.lays "java/lang/Throwable" "java/lang/Throwable" "backtrace" "Ljava/lang/Object;") ∈ gw := gw_mem 171 (by decide +kernel) rfl
theorem k_172 : (Cond.fieldLink "java/lang/Throwable" 198 "java/lang/Throwable" "backtrace" "Ljava/lang/Object;") ∈ gw := gw_mem 172 (by decide +kernel) rfl
theorem k_173 : (Cond.superclass "java/lang/Throwable" "java/lang/Object") ∈ gw := gw_mem 173 (by decide +kernel) rfl
theorem k_174 : (Cond.instanceMethod ⟨"java/lang/Throwable", "<init>", "()V"⟩) ∈ gw := gw_mem 174 (by decide +kernel) rfl
theorem k_175 : (Cond.code ⟨"java/lang/Throwable", "<init>", "()V"⟩ prog_16_method_1_code 1 none) ∈ gw := gw_mem 175 (by decide +kernel) rfl
theorem k_176 : (Cond.methodLink "java/lang/Throwable" 1 ⟨"java/lang/Object", "<init>", "()V"⟩) ∈ gw := gw_mem 176 (by decide +kernel) rfl
theorem k_177 : (Cond.fieldLink "java/lang/Throwable" 13 "java/lang/Throwable" "UNASSIGNED_STACK" "[Ljava/lang/StackTraceElement;") ∈ gw := gw_mem 177 (by decide +kernel) rfl
theorem k_179 : (Cond.fieldLink "java/lang/Throwable" 20 "java/lang/Throwable" "SUPPRESSED_SENTINEL" "Ljava/util/List;") ∈ gw := gw_mem 179 (by decide +kernel) rfl
theorem k_181 : (Cond.methodLink "java/lang/Throwable" 27 ⟨"java/lang/Throwable", "fillInStackTrace", "()Ljava/lang/Throwable;"⟩) ∈ gw := gw_mem 181 (by decide +kernel) rfl
theorem k_182 : (Cond.instanceMethod ⟨"java/lang/Throwable", "fillInStackTrace", "()Ljava/lang/Throwable;"⟩) ∈ gw := gw_mem 182 (by decide +kernel) rfl
theorem k_183 : (Cond.sameMethod "java/lang/Throwable" "java/lang/Throwable" "fillInStackTrace" "()Ljava/lang/Throwable;") ∈ gw := gw_mem 183 (by decide +kernel) rfl
theorem k_184 : (Cond.selects "java/lang/IllegalStateException" ⟨"java/lang/Throwable", "fillInStackTrace", "()Ljava/lang/Throwable;"⟩ ⟨"java/lang/Throwable", "fillInStackTrace", "()Ljava/lang/Throwable;"⟩) ∈ gw := gw_mem 184 (by decide +kernel) rfl
theorem k_185 : (Cond.codeSync ⟨"java/lang/Throwable", "fillInStackTrace", "()Ljava/lang/Throwable;"⟩ prog_16_method_18_code 1 (some (FieldType.object "java/lang/Throwable"))) ∈ gw := gw_mem 185 (by decide +kernel) rfl
theorem k_186 : (Cond.methodLink "java/lang/Throwable" 202 ⟨"java/lang/Throwable", "fillInStackTrace", "(I)Ljava/lang/Throwable;"⟩) ∈ gw := gw_mem 186 (by decide +kernel) rfl
theorem k_188 : (Cond.instanceMethod ⟨"java/lang/Throwable", "fillInStackTrace", "(I)Ljava/lang/Throwable;"⟩) ∈ gw := gw_mem 188 (by decide +kernel) rfl
theorem k_189 : (Cond.instantiable "java/lang/Throwable" 6) ∈ gw := gw_mem 189 (by decide +kernel) rfl
theorem k_190 : (Cond.native ⟨"java/lang/Throwable", "fillInStackTrace", "(I)Ljava/lang/Throwable;"⟩) ∈ gw := gw_mem 190 (by decide +kernel) rfl
theorem k_192 : (Cond.methodLink "RoundTrips" 140 ⟨"java/lang/IllegalArgumentException", "<init>", "(Ljava/lang/String;)V"⟩) ∈ gw := gw_mem 192 (by decide +kernel) rfl
theorem k_193 : (Cond.instanceMethod ⟨"java/lang/IllegalArgumentException", "<init>", "(Ljava/lang/String;)V"⟩) ∈ gw := gw_mem 193 (by decide +kernel) rfl
theorem k_194 : (Cond.code ⟨"java/lang/IllegalArgumentException", "<init>", "(Ljava/lang/String;)V"⟩ prog_10_method_2_code 2 none) ∈ gw := gw_mem 194 (by decide +kernel) rfl
theorem k_195 : (Cond.methodLink "java/lang/IllegalArgumentException" 7 ⟨"java/lang/RuntimeException", "<init>", "(Ljava/lang/String;)V"⟩) ∈ gw := gw_mem 195 (by decide +kernel) rfl
theorem k_196 : (Cond.instanceMethod ⟨"java/lang/RuntimeException", "<init>", "(Ljava/lang/String;)V"⟩) ∈ gw := gw_mem 196 (by decide +kernel) rfl
theorem k_197 : (Cond.code ⟨"java/lang/RuntimeException", "<init>", "(Ljava/lang/String;)V"⟩ prog_13_method_2_code 2 none) ∈ gw := gw_mem 197 (by decide +kernel) rfl
theorem k_198 : (Cond.methodLink "java/lang/RuntimeException" 7 ⟨"java/lang/Exception", "<init>", "(Ljava/lang/String;)V"⟩) ∈ gw := gw_mem 198 (by decide +kernel) rfl
theorem k_199 : (Cond.instanceMethod ⟨"java/lang/Exception", "<init>", "(Ljava/lang/String;)V"⟩) ∈ gw := gw_mem 199 (by decide +kernel) rfl
theorem k_200 : (Cond.code ⟨"java/lang/Exception", "<init>", "(Ljava/lang/String;)V"⟩ prog_9_method_2_code 2 none) ∈ gw := gw_mem 200 (by decide +kernel) rfl
theorem k_201 : (Cond.methodLink "java/lang/Exception" 7 ⟨"java/lang/Throwable", "<init>", "(Ljava/lang/String;)V"⟩) ∈ gw := gw_mem 201 (by decide +kernel) rfl
theorem k_202 : (Cond.instanceMethod ⟨"java/lang/Throwable", "<init>", "(Ljava/lang/String;)V"⟩) ∈ gw := gw_mem 202 (by decide +kernel) rfl
theorem k_203 : (Cond.code ⟨"java/lang/Throwable", "<init>", "(Ljava/lang/String;)V"⟩ prog_16_method_2_code 2 none) ∈ gw := gw_mem 203 (by decide +kernel) rfl
theorem k_204 : (Cond.fieldLink "java/lang/Throwable" 198 "java/lang/Throwable" "backtrace" "Ljava/lang/Object;") ∈ gw := gw_mem 204 (by decide +kernel) rfl
theorem k_205 : (Cond.fieldLink "java/lang/Throwable" 31 "java/lang/Throwable" "detailMessage" "Ljava/lang/String;") ∈ gw := gw_mem 205 (by decide +kernel) rfl
theorem k_206 : (Cond.fieldLink "java/lang/Throwable" 7 "java/lang/Throwable" "cause" "Ljava/lang/Throwable;") ∈ gw := gw_mem 206 (by decide +kernel) rfl
theorem k_207 : (Cond.fieldLink "java/lang/Throwable" 17 "java/lang/Throwable" "stackTrace" "[Ljava/lang/StackTraceElement;") ∈ gw := gw_mem 207 (by decide +kernel) rfl
theorem k_208 : (Cond.fieldLink "java/lang/Throwable" 24 "java/lang/Throwable" "suppressedExceptions" "Ljava/util/List;") ∈ gw := gw_mem 208 (by decide +kernel) rfl
theorem k_209 : (Cond.soleField "java/lang/Throwable" "backtrace") ∈ gw := gw_mem 209 (by decide +kernel) rfl
theorem k_210 : (Cond.soleField "java/lang/Throwable" "detailMessage") ∈ gw := gw_mem 210 (by decide +kernel) rfl
theorem k_211 : (Cond.soleField "java/lang/Throwable" "cause") ∈ gw := gw_mem 211 (by decide +kernel) rfl
theorem k_212 : (Cond.soleField "java/lang/Throwable" "stackTrace") ∈ gw := gw_mem 212 (by decide +kernel) rfl
theorem k_213 : (Cond.lays "java/lang/IllegalArgumentException" "java/lang/Throwable" "depth" "I") ∈ gw := gw_mem 213 (by decide +kernel) rfl
theorem k_214 : (Cond.soleField "java/lang/Throwable" "depth") ∈ gw := gw_mem 214 (by decide +kernel) rfl
theorem k_215 : (Cond.soleField "java/lang/Throwable" "suppressedExceptions") ∈ gw := gw_mem 215 (by decide +kernel) rfl
theorem k_216 : (Cond.superclass "java/lang/IllegalArgumentException" "java/lang/RuntimeException") ∈ gw := gw_mem 216 (by decide +kernel) rfl
theorem k_217 : (Cond.arrayClass FieldType.byte) ∈ gw := gw_mem 217 (by decide +kernel) rfl
theorem k_218 : (Cond.classLink "RoundTrips" 54 "java/lang/IllegalStateException") ∈ gw := gw_mem 218 (by decide +kernel) rfl
theorem k_219 : (Cond.instantiable "java/lang/IllegalStateException" 6) ∈ gw := gw_mem 219 (by decide +kernel) rfl
theorem k_221 : (Cond.selects "java/lang/IllegalStateException" ⟨"java/lang/Throwable", "fillInStackTrace", "(I)Ljava/lang/Throwable;"⟩ ⟨"java/lang/Throwable", "fillInStackTrace", "(I)Ljava/lang/Throwable;"⟩) ∈ gw := gw_mem 221 (by decide +kernel) rfl
theorem k_222 : (Cond.lays "java/lang/IllegalStateException" "java/lang/Throwable" "cause" "Ljava/lang/Throwable;") ∈ gw := gw_mem 222 (by decide +kernel) rfl
theorem k_223 : (Cond.lays "java/lang/IllegalStateException" "java/lang/Throwable" "stackTrace" "[Ljava/lang/StackTraceElement;") ∈ gw := gw_mem 223 (by decide +kernel) rfl
theorem k_224 : (Cond.lays "java/lang/IllegalStateException" "java/lang/Throwable" "suppressedExceptions" "Ljava/util/List;") ∈ gw := gw_mem 224 (by decide +kernel) rfl
theorem k_225 : (Cond.lays "java/lang/IllegalStateException" "java/lang/Throwable" "detailMessage" "Ljava/lang/String;") ∈ gw := gw_mem 225 (by decide +kernel) rfl
theorem k_226 : (Cond.lays "java/lang/IllegalStateException" "java/lang/Throwable" "backtrace" "Ljava/lang/Object;") ∈ gw := gw_mem 226 (by decide +kernel) rfl
theorem k_228 : (Cond.methodLink "RoundTrips" 58 ⟨"java/lang/IllegalStateException", "<init>", "(Ljava/lang/String;)V"⟩) ∈ gw := gw_mem 228 (by decide +kernel) rfl
theorem k_229 : (Cond.instanceMethod ⟨"java/lang/IllegalStateException", "<init>", "(Ljava/lang/String;)V"⟩) ∈ gw := gw_mem 229 (by decide +kernel) rfl
theorem k_230 : (Cond.code ⟨"java/lang/IllegalStateException", "<init>", "(Ljava/lang/String;)V"⟩ prog_11_method_2_code 2 none) ∈ gw := gw_mem 230 (by decide +kernel) rfl
theorem k_231 : (Cond.methodLink "java/lang/IllegalStateException" 7 ⟨"java/lang/RuntimeException", "<init>", "(Ljava/lang/String;)V"⟩) ∈ gw := gw_mem 231 (by decide +kernel) rfl
theorem k_232 : (Cond.lays "java/lang/IllegalStateException" "java/lang/Throwable" "depth" "I") ∈ gw := gw_mem 232 (by decide +kernel) rfl
theorem k_233 : (Cond.superclass "java/lang/IllegalStateException" "java/lang/RuntimeException") ∈ gw := gw_mem 233 (by decide +kernel) rfl
theorem k_234 : (Cond.methodLink "RoundTrips" 64 y_T_requireRoomForAll) ∈ gw := gw_mem 234 (by decide +kernel) rfl
theorem k_235 : (Cond.static y_T_requireRoomForAll) ∈ gw := gw_mem 235 (by decide +kernel) rfl
theorem k_236 : (Cond.code y_T_requireRoomForAll b_T_requireRoomForAll 1 none) ∈ gw := gw_mem 236 (by decide +kernel) rfl
theorem k_238 : (Cond.methodLink "RoundTrips" 68 y_B_addFloor) ∈ gw := gw_mem 238 (by decide +kernel) rfl
theorem k_239 : (Cond.instanceMethod y_B_addFloor) ∈ gw := gw_mem 239 (by decide +kernel) rfl
theorem k_240 : (Cond.selects "RoundTrips$Building" y_B_addFloor y_B_addFloor) ∈ gw := gw_mem 240 (by decide +kernel) rfl
theorem k_241 : (Cond.code y_B_addFloor b_B_addFloor 4 (some FieldType.int)) ∈ gw := gw_mem 241 (by decide +kernel) rfl
theorem k_242 : (Cond.methodLink "RoundTripsLaw" 73 y_L_persons) ∈ gw := gw_mem 242 (by decide +kernel) rfl
theorem k_243 : (Cond.static y_L_persons) ∈ gw := gw_mem 243 (by decide +kernel) rfl
theorem k_244 : (Cond.codeWith y_L_persons b_L_persons 5 (some FieldType.int) [(0, 10, 13, 13), (0, 10, 17, 15)]) ∈ gw := gw_mem 244 (by decide +kernel) rfl
theorem k_245 : (Cond.methodLink "RoundTripsLaw" 17 y_T_persons) ∈ gw := gw_mem 245 (by decide +kernel) rfl
theorem k_246 : (Cond.instanceMethod y_T_persons) ∈ gw := gw_mem 246 (by decide +kernel) rfl
theorem k_247 : (Cond.selects "RoundTrips" y_T_persons y_T_persons) ∈ gw := gw_mem 247 (by decide +kernel) rfl
theorem k_248 : (Cond.code y_T_persons b_T_persons 4 (some FieldType.int)) ∈ gw := gw_mem 248 (by decide +kernel) rfl
theorem k_249 : (Cond.methodLink "RoundTrips" 72 y_T_requireFloor) ∈ gw := gw_mem 249 (by decide +kernel) rfl
theorem k_251 : (Cond.instanceMethod y_T_requireFloor) ∈ gw := gw_mem 251 (by decide +kernel) rfl
theorem k_252 : (Cond.code y_T_requireFloor b_T_requireFloor 2 none) ∈ gw := gw_mem 252 (by decide +kernel) rfl
theorem k_254 : (Cond.methodLink "RoundTripsLaw" 76 y_L_type) ∈ gw := gw_mem 254 (by decide +kernel) rfl
theorem k_255 : (Cond.static y_L_type) ∈ gw := gw_mem 255 (by decide +kernel) rfl
theorem k_256 : (Cond.codeWith y_L_type b_L_type 8 (some FieldType.int) [(0, 16, 19, 13), (0, 16, 23, 15)]) ∈ gw := gw_mem 256 (by decide +kernel) rfl
theorem k_257 : (Cond.methodLink "RoundTripsLaw" 20 y_T_type) ∈ gw := gw_mem 257 (by decide +kernel) rfl
theorem k_258 : (Cond.instanceMethod y_T_type) ∈ gw := gw_mem 258 (by decide +kernel) rfl
theorem k_259 : (Cond.selects "RoundTrips" y_T_type y_T_type) ∈ gw := gw_mem 259 (by decide +kernel) rfl
theorem k_260 : (Cond.code y_T_type b_T_type 7 (some FieldType.int)) ∈ gw := gw_mem 260 (by decide +kernel) rfl
theorem k_261 : (Cond.constant "RoundTrips" 79 100000) ∈ gw := gw_mem 261 (by decide +kernel) rfl
theorem k_263 : (Cond.instantiable "RoundTrips$CarType" 5) ∈ gw := gw_mem 263 (by decide +kernel) rfl
theorem k_264 : (Cond.methodLink "RoundTrips" 82 y_C_init) ∈ gw := gw_mem 264 (by decide +kernel) rfl
theorem k_265 : (Cond.instanceMethod y_C_init) ∈ gw := gw_mem 265 (by decide +kernel) rfl
theorem k_266 : (Cond.code y_C_init b_C_init 6 none) ∈ gw := gw_mem 266 (by decide +kernel) rfl
theorem k_267 : (Cond.methodLink "RoundTrips$CarType" 1 ⟨"java/lang/Object", "<init>", "()V"⟩) ∈ gw := gw_mem 267 (by decide +kernel) rfl
theorem k_268 : (Cond.fieldLink "RoundTrips$CarType" 7 "RoundTrips$CarType" "room" "I") ∈ gw := gw_mem 268 (by decide +kernel) rfl
theorem k_269 : (Cond.fieldLink "RoundTrips$Splits" 34 "RoundTrips$CarType" "room" "I") ∈ gw := gw_mem 269 (by decide +kernel) rfl
theorem k_270 : (Cond.fieldLink "RoundTrips$Odds" 50 "RoundTrips$CarType" "room" "I") ∈ gw := gw_mem 270 (by decide +kernel) rfl
theorem k_271 : (Cond.fieldLink "RoundTrips" 118 "RoundTrips$CarType" "room" "I") ∈ gw := gw_mem 271 (by decide +kernel) rfl
theorem k_272 : (Cond.fieldLink "RoundTrips$CarType" 13 "RoundTrips$CarType" "speed" "I") ∈ gw := gw_mem 272 (by decide +kernel) rfl
theorem k_273 : (Cond.fieldLink "RoundTrips$Odds" 56 "RoundTrips$CarType" "speed" "I") ∈ gw := gw_mem 273 (by decide +kernel) rfl
theorem k_274 : (Cond.fieldLink "RoundTrips$CarType" 16 "RoundTrips$CarType" "doors" "I") ∈ gw := gw_mem 274 (by decide +kernel) rfl
theorem k_275 : (Cond.fieldLink "RoundTrips$Odds" 42 "RoundTrips$CarType" "doors" "I") ∈ gw := gw_mem 275 (by decide +kernel) rfl
theorem k_276 : (Cond.fieldLink "RoundTrips$CarType" 19 "RoundTrips$CarType" "people" "I") ∈ gw := gw_mem 276 (by decide +kernel) rfl
theorem k_277 : (Cond.fieldLink "RoundTrips$Odds" 53 "RoundTrips$CarType" "people" "I") ∈ gw := gw_mem 277 (by decide +kernel) rfl
theorem k_278 : (Cond.fieldLink "RoundTrips$CarType" 22 "RoundTrips$CarType" "cents" "I") ∈ gw := gw_mem 278 (by decide +kernel) rfl
theorem k_279 : (Cond.fieldLink "RoundTrips" 145 "RoundTrips$CarType" "cents" "I") ∈ gw := gw_mem 279 (by decide +kernel) rfl
theorem k_280 : (Cond.laysFinal "RoundTrips$CarType" "RoundTrips$CarType" "room" "I") ∈ gw := gw_mem 280 (by decide +kernel) rfl
theorem k_281 : (Cond.soleField "RoundTrips$CarType" "room") ∈ gw := gw_mem 281 (by decide +kernel) rfl
theorem k_282 : (Cond.laysFinal "RoundTrips$CarType" "RoundTrips$CarType" "speed" "I") ∈ gw := gw_mem 282 (by decide +kernel) rfl
theorem k_283 : (Cond.soleField "RoundTrips$CarType" "speed") ∈ gw := gw_mem 283 (by decide +kernel) rfl
theorem k_284 : (Cond.laysFinal "RoundTrips$CarType" "RoundTrips$CarType" "doors" "I") ∈ gw := gw_mem 284 (by decide +kernel) rfl
theorem k_285 : (Cond.soleField "RoundTrips$CarType" "doors") ∈ gw := gw_mem 285 (by decide +kernel) rfl
theorem k_286 : (Cond.laysFinal "RoundTrips$CarType" "RoundTrips$CarType" "people" "I") ∈ gw := gw_mem 286 (by decide +kernel) rfl
theorem k_287 : (Cond.soleField "RoundTrips$CarType" "people") ∈ gw := gw_mem 287 (by decide +kernel) rfl
theorem k_288 : (Cond.laysFinal "RoundTrips$CarType" "RoundTrips$CarType" "cents" "I") ∈ gw := gw_mem 288 (by decide +kernel) rfl
theorem k_289 : (Cond.soleField "RoundTrips$CarType" "cents") ∈ gw := gw_mem 289 (by decide +kernel) rfl
theorem k_290 : (Cond.superclass "RoundTrips$CarType" "java/lang/Object") ∈ gw := gw_mem 290 (by decide +kernel) rfl
theorem k_291 : (Cond.methodLink "RoundTripsLaw" 80 y_L_stops) ∈ gw := gw_mem 291 (by decide +kernel) rfl
theorem k_292 : (Cond.static y_L_stops) ∈ gw := gw_mem 292 (by decide +kernel) rfl
theorem k_293 : (Cond.codeWith y_L_stops b_L_stops 7 (some FieldType.int) [(0, 13, 16, 13)]) ∈ gw := gw_mem 293 (by decide +kernel) rfl
theorem k_294 : (Cond.methodLink "RoundTripsLaw" 24 y_T_stops) ∈ gw := gw_mem 294 (by decide +kernel) rfl
theorem k_295 : (Cond.instanceMethod y_T_stops) ∈ gw := gw_mem 295 (by decide +kernel) rfl
theorem k_296 : (Cond.selects "RoundTrips" y_T_stops y_T_stops) ∈ gw := gw_mem 296 (by decide +kernel) rfl
theorem k_297 : (Cond.code y_T_stops b_T_stops 5 (some FieldType.long)) ∈ gw := gw_mem 297 (by decide +kernel) rfl
theorem k_298 : (Cond.methodLink "RoundTrips" 85 y_T_countOdds) ∈ gw := gw_mem 298 (by decide +kernel) rfl
theorem k_300 : (Cond.instanceMethod y_T_countOdds) ∈ gw := gw_mem 300 (by decide +kernel) rfl
theorem k_301 : (Cond.code y_T_countOdds b_T_countOdds 6 (some (FieldType.object "RoundTrips$CarType"))) ∈ gw := gw_mem 301 (by decide +kernel) rfl
theorem k_302 : (Cond.methodLink "RoundTrips" 110 y_T_requireType) ∈ gw := gw_mem 302 (by decide +kernel) rfl
theorem k_304 : (Cond.instanceMethod y_T_requireType) ∈ gw := gw_mem 304 (by decide +kernel) rfl
theorem k_305 : (Cond.code y_T_requireType b_T_requireType 3 (some (FieldType.object "RoundTrips$CarType"))) ∈ gw := gw_mem 305 (by decide +kernel) rfl
theorem k_307 : (Cond.methodLink "RoundTrips" 114 y_T_requireZone) ∈ gw := gw_mem 307 (by decide +kernel) rfl
theorem k_309 : (Cond.instanceMethod y_T_requireZone) ∈ gw := gw_mem 309 (by decide +kernel) rfl
theorem k_310 : (Cond.code y_T_requireZone b_T_requireZone 3 none) ∈ gw := gw_mem 310 (by decide +kernel) rfl
theorem k_312 : (Cond.methodLink "RoundTrips" 121 y_O_count) ∈ gw := gw_mem 312 (by decide +kernel) rfl
theorem k_313 : (Cond.instanceMethod y_O_count) ∈ gw := gw_mem 313 (by decide +kernel) rfl
theorem k_314 : (Cond.selects "RoundTrips$Odds" y_O_count y_O_count) ∈ gw := gw_mem 314 (by decide +kernel) rfl
theorem k_315 : (Cond.code y_O_count b_O_count 13 none) ∈ gw := gw_mem 315 (by decide +kernel) rfl
theorem k_316 : (Cond.methodLink "RoundTrips$Odds" 19 y_B_personsBetween) ∈ gw := gw_mem 316 (by decide +kernel) rfl
theorem k_317 : (Cond.instanceMethod y_B_personsBetween) ∈ gw := gw_mem 317 (by decide +kernel) rfl
theorem k_318 : (Cond.selects "RoundTrips$Building" y_B_personsBetween y_B_personsBetween) ∈ gw := gw_mem 318 (by decide +kernel) rfl
theorem k_319 : (Cond.code y_B_personsBetween b_B_personsBetween 5 (some FieldType.int)) ∈ gw := gw_mem 319 (by decide +kernel) rfl
theorem k_320 : (Cond.methodLink "RoundTrips$Odds" 25 y_O_power) ∈ gw := gw_mem 320 (by decide +kernel) rfl
theorem k_321 : (Cond.static y_O_power) ∈ gw := gw_mem 321 (by decide +kernel) rfl
theorem k_322 : (Cond.code y_O_power b_O_power 6 (some FieldType.long)) ∈ gw := gw_mem 322 (by decide +kernel) rfl
theorem k_323 : (Cond.methodLink "RoundTrips" 96 y_T_partInLowestTerms) ∈ gw := gw_mem 323 (by decide +kernel) rfl
theorem k_324 : (Cond.static y_T_partInLowestTerms) ∈ gw := gw_mem 324 (by decide +kernel) rfl
theorem k_325 : (Cond.code y_T_partInLowestTerms b_T_partInLowestTerms 7 (some FieldType.long)) ∈ gw := gw_mem 325 (by decide +kernel) rfl
theorem k_326 : (Cond.methodLink "RoundTrips" 190 y_T_commonDivisor) ∈ gw := gw_mem 326 (by decide +kernel) rfl
theorem k_327 : (Cond.static y_T_commonDivisor) ∈ gw := gw_mem 327 (by decide +kernel) rfl
theorem k_328 : (Cond.code y_T_commonDivisor b_T_commonDivisor 11 (some FieldType.long)) ∈ gw := gw_mem 328 (by decide +kernel) rfl
theorem k_329 : (Cond.methodLink "RoundTripsLaw" 84 y_L_highest) ∈ gw := gw_mem 329 (by decide +kernel) rfl
theorem k_330 : (Cond.static y_L_highest) ∈ gw := gw_mem 330 (by decide +kernel) rfl
theorem k_331 : (Cond.codeWith y_L_highest b_L_highest 7 (some FieldType.int) [(0, 13, 16, 13)]) ∈ gw := gw_mem 331 (by decide +kernel) rfl
theorem k_332 : (Cond.methodLink "RoundTripsLaw" 28 y_T_highest) ∈ gw := gw_mem 332 (by decide +kernel) rfl
theorem k_333 : (Cond.instanceMethod y_T_highest) ∈ gw := gw_mem 333 (by decide +kernel) rfl
theorem k_334 : (Cond.selects "RoundTrips" y_T_highest y_T_highest) ∈ gw := gw_mem 334 (by decide +kernel) rfl
theorem k_335 : (Cond.code y_T_highest b_T_highest 5 (some FieldType.long)) ∈ gw := gw_mem 335 (by decide +kernel) rfl
theorem k_336 : (Cond.methodLink "RoundTripsLaw" 87 y_L_trip) ∈ gw := gw_mem 336 (by decide +kernel) rfl
theorem k_337 : (Cond.static y_L_trip) ∈ gw := gw_mem 337 (by decide +kernel) rfl
theorem k_338 : (Cond.codeWith y_L_trip b_L_trip 7 (some FieldType.int) [(0, 13, 16, 13)]) ∈ gw := gw_mem 338 (by decide +kernel) rfl
theorem k_339 : (Cond.methodLink "RoundTripsLaw" 31 y_T_trip) ∈ gw := gw_mem 339 (by decide +kernel) rfl
theorem k_340 : (Cond.instanceMethod y_T_trip) ∈ gw := gw_mem 340 (by decide +kernel) rfl
theorem k_341 : (Cond.selects "RoundTrips" y_T_trip y_T_trip) ∈ gw := gw_mem 341 (by decide +kernel) rfl
theorem k_342 : (Cond.code y_T_trip b_T_trip 6 (some FieldType.long)) ∈ gw := gw_mem 342 (by decide +kernel) rfl
theorem k_343 : (Cond.methodLink "RoundTrips" 103 y_O_tripAbove) ∈ gw := gw_mem 343 (by decide +kernel) rfl
theorem k_344 : (Cond.instanceMethod y_O_tripAbove) ∈ gw := gw_mem 344 (by decide +kernel) rfl
theorem k_345 : (Cond.selects "RoundTrips$Odds" y_O_tripAbove y_O_tripAbove) ∈ gw := gw_mem 345 (by decide +kernel) rfl
theorem k_346 : (Cond.code y_O_tripAbove b_O_tripAbove 6 (some FieldType.long)) ∈ gw := gw_mem 346 (by decide +kernel) rfl
theorem k_347 : (Cond.constantLong "RoundTrips$Odds" 48 2) ∈ gw := gw_mem 347 (by decide +kernel) rfl
theorem k_348 : (Cond.methodLink "RoundTrips" 107 y_O_tripBelow) ∈ gw := gw_mem 348 (by decide +kernel) rfl
theorem k_349 : (Cond.instanceMethod y_O_tripBelow) ∈ gw := gw_mem 349 (by decide +kernel) rfl
theorem k_350 : (Cond.selects "RoundTrips$Odds" y_O_tripBelow y_O_tripBelow) ∈ gw := gw_mem 350 (by decide +kernel) rfl
theorem k_351 : (Cond.code y_O_tripBelow b_O_tripBelow 2 (some FieldType.long)) ∈ gw := gw_mem 351 (by decide +kernel) rfl
theorem k_352 : (Cond.methodLink "RoundTripsLaw" 90 y_L_compare) ∈ gw := gw_mem 352 (by decide +kernel) rfl
theorem k_353 : (Cond.static y_L_compare) ∈ gw := gw_mem 353 (by decide +kernel) rfl
theorem k_354 : (Cond.codeWith y_L_compare b_L_compare 7 (some FieldType.int) [(0, 14, 17, 13)]) ∈ gw := gw_mem 354 (by decide +kernel) rfl
theorem k_355 : (Cond.methodLink "RoundTripsLaw" 34 y_T_compare) ∈ gw := gw_mem 355 (by decide +kernel) rfl
theorem k_356 : (Cond.instanceMethod y_T_compare) ∈ gw := gw_mem 356 (by decide +kernel) rfl
theorem k_357 : (Cond.selects "RoundTrips" y_T_compare y_T_compare) ∈ gw := gw_mem 357 (by decide +kernel) rfl
theorem k_358 : (Cond.code y_T_compare b_T_compare 11 (some FieldType.int)) ∈ gw := gw_mem 358 (by decide +kernel) rfl
theorem k_359 : (Cond.methodLink "RoundTrips" 125 y_T_orderOfFractions) ∈ gw := gw_mem 359 (by decide +kernel) rfl
theorem k_360 : (Cond.static y_T_orderOfFractions) ∈ gw := gw_mem 360 (by decide +kernel) rfl
theorem k_361 : (Cond.code y_T_orderOfFractions b_T_orderOfFractions 26 (some FieldType.int)) ∈ gw := gw_mem 361 (by decide +kernel) rfl
theorem k_362 : (Cond.methodLink "RoundTripsLaw" 93 y_L_carried) ∈ gw := gw_mem 362 (by decide +kernel) rfl
theorem k_363 : (Cond.static y_L_carried) ∈ gw := gw_mem 363 (by decide +kernel) rfl
theorem k_364 : (Cond.codeWith y_L_carried b_L_carried 5 (some FieldType.int) [(0, 9, 12, 13), (0, 9, 16, 15)]) ∈ gw := gw_mem 364 (by decide +kernel) rfl
theorem k_365 : (Cond.methodLink "RoundTripsLaw" 38 y_T_carried) ∈ gw := gw_mem 365 (by decide +kernel) rfl
theorem k_366 : (Cond.instanceMethod y_T_carried) ∈ gw := gw_mem 366 (by decide +kernel) rfl
theorem k_367 : (Cond.selects "RoundTrips" y_T_carried y_T_carried) ∈ gw := gw_mem 367 (by decide +kernel) rfl
theorem k_368 : (Cond.code y_T_carried b_T_carried 4 (some FieldType.long)) ∈ gw := gw_mem 368 (by decide +kernel) rfl
theorem k_369 : (Cond.methodLink "RoundTrips" 129 y_T_requireSomeFloor) ∈ gw := gw_mem 369 (by decide +kernel) rfl
theorem k_371 : (Cond.instanceMethod y_T_requireSomeFloor) ∈ gw := gw_mem 371 (by decide +kernel) rfl
theorem k_372 : (Cond.code y_T_requireSomeFloor b_T_requireSomeFloor 1 none) ∈ gw := gw_mem 372 (by decide +kernel) rfl
theorem k_374 : (Cond.methodLink "RoundTrips" 132 y_O_carriedBy) ∈ gw := gw_mem 374 (by decide +kernel) rfl
theorem k_375 : (Cond.instanceMethod y_O_carriedBy) ∈ gw := gw_mem 375 (by decide +kernel) rfl
theorem k_376 : (Cond.selects "RoundTrips$Odds" y_O_carriedBy y_O_carriedBy) ∈ gw := gw_mem 376 (by decide +kernel) rfl
theorem k_377 : (Cond.code y_O_carriedBy b_O_carriedBy 5 (some FieldType.long)) ∈ gw := gw_mem 377 (by decide +kernel) rfl
theorem k_378 : (Cond.methodLink "RoundTrips$Odds" 59 y_O_tripAbove) ∈ gw := gw_mem 378 (by decide +kernel) rfl
theorem k_379 : (Cond.constantLong "RoundTrips$Odds" 63 300) ∈ gw := gw_mem 379 (by decide +kernel) rfl
theorem k_380 : (Cond.methodLink "RoundTrips$Odds" 65 y_O_tripBelow) ∈ gw := gw_mem 380 (by decide +kernel) rfl
theorem k_381 : (Cond.methodLink "RoundTripsLaw" 96 y_L_cheapest) ∈ gw := gw_mem 381 (by decide +kernel) rfl
theorem k_382 : (Cond.static y_L_cheapest) ∈ gw := gw_mem 382 (by decide +kernel) rfl
theorem k_383 : (Cond.codeWith y_L_cheapest b_L_cheapest 4 (some FieldType.int) [(0, 9, 12, 13), (0, 9, 15, 15)]) ∈ gw := gw_mem 383 (by decide +kernel) rfl
theorem k_384 : (Cond.methodLink "RoundTripsLaw" 42 y_T_cheapest) ∈ gw := gw_mem 384 (by decide +kernel) rfl
theorem k_385 : (Cond.instanceMethod y_T_cheapest) ∈ gw := gw_mem 385 (by decide +kernel) rfl
theorem k_386 : (Cond.selects "RoundTrips" y_T_cheapest y_T_cheapest) ∈ gw := gw_mem 386 (by decide +kernel) rfl
theorem k_387 : (Cond.code y_T_cheapest b_T_cheapest 9 (some FieldType.int)) ∈ gw := gw_mem 387 (by decide +kernel) rfl
theorem k_389 : (Cond.methodLink "RoundTrips" 141 y_T_fewestCars) ∈ gw := gw_mem 389 (by decide +kernel) rfl
theorem k_391 : (Cond.instanceMethod y_T_fewestCars) ∈ gw := gw_mem 391 (by decide +kernel) rfl
theorem k_392 : (Cond.code y_T_fewestCars b_T_fewestCars 4 (some FieldType.int)) ∈ gw := gw_mem 392 (by decide +kernel) rfl
theorem k_393 : (Cond.methodLink "RoundTripsLaw" 100 y_L_split) ∈ gw := gw_mem 393 (by decide +kernel) rfl
theorem k_394 : (Cond.static y_L_split) ∈ gw := gw_mem 394 (by decide +kernel) rfl
theorem k_395 : (Cond.codeWith y_L_split b_L_split 6 (some FieldType.int) [(0, 12, 15, 13), (0, 12, 19, 15)]) ∈ gw := gw_mem 395 (by decide +kernel) rfl
theorem k_396 : (Cond.methodLink "RoundTripsLaw" 46 y_T_split) ∈ gw := gw_mem 396 (by decide +kernel) rfl
theorem k_397 : (Cond.instanceMethod y_T_split) ∈ gw := gw_mem 397 (by decide +kernel) rfl
theorem k_398 : (Cond.selects "RoundTrips" y_T_split y_T_split) ∈ gw := gw_mem 398 (by decide +kernel) rfl
theorem k_399 : (Cond.code y_T_split b_T_split 5 (some FieldType.int)) ∈ gw := gw_mem 399 (by decide +kernel) rfl
theorem k_401 : (Cond.methodLink "RoundTrips" 150 y_S_measureZones) ∈ gw := gw_mem 401 (by decide +kernel) rfl
theorem k_402 : (Cond.instanceMethod y_S_measureZones) ∈ gw := gw_mem 402 (by decide +kernel) rfl
theorem k_403 : (Cond.selects "RoundTrips$Splits" y_S_measureZones y_S_measureZones) ∈ gw := gw_mem 403 (by decide +kernel) rfl
theorem k_404 : (Cond.code y_S_measureZones b_S_measureZones 6 none) ∈ gw := gw_mem 404 (by decide +kernel) rfl
theorem k_405 : (Cond.methodLink "RoundTrips$Splits" 39 y_O_count) ∈ gw := gw_mem 405 (by decide +kernel) rfl
theorem k_406 : (Cond.methodLink "RoundTrips$Splits" 45 y_S_zone) ∈ gw := gw_mem 406 (by decide +kernel) rfl
theorem k_407 : (Cond.static y_S_zone) ∈ gw := gw_mem 407 (by decide +kernel) rfl
theorem k_408 : (Cond.code y_S_zone b_S_zone 2 (some FieldType.int)) ∈ gw := gw_mem 408 (by decide +kernel) rfl
theorem k_409 : (Cond.methodLink "RoundTrips$Splits" 49 y_O_tripAbove) ∈ gw := gw_mem 409 (by decide +kernel) rfl
theorem k_410 : (Cond.methodLink "RoundTrips$Splits" 53 y_O_tripBelow) ∈ gw := gw_mem 410 (by decide +kernel) rfl
theorem k_411 : (Cond.methodLink "RoundTrips" 154 y_S_findBest) ∈ gw := gw_mem 411 (by decide +kernel) rfl
theorem k_412 : (Cond.instanceMethod y_S_findBest) ∈ gw := gw_mem 412 (by decide +kernel) rfl
theorem k_413 : (Cond.selects "RoundTrips$Splits" y_S_findBest y_S_findBest) ∈ gw := gw_mem 413 (by decide +kernel) rfl
theorem k_414 : (Cond.code y_S_findBest b_S_findBest 3 none) ∈ gw := gw_mem 414 (by decide +kernel) rfl
theorem k_415 : (Cond.methodLink "RoundTrips$Splits" 60 y_S_tryZonesFrom) ∈ gw := gw_mem 415 (by decide +kernel) rfl
theorem k_417 : (Cond.instanceMethod y_S_tryZonesFrom) ∈ gw := gw_mem 417 (by decide +kernel) rfl
theorem k_418 : (Cond.code y_S_tryZonesFrom b_S_tryZonesFrom 6 none) ∈ gw := gw_mem 418 (by decide +kernel) rfl
theorem k_419 : (Cond.methodLink "RoundTrips$Splits" 64 y_S_longer) ∈ gw := gw_mem 419 (by decide +kernel) rfl
theorem k_421 : (Cond.instanceMethod y_S_longer) ∈ gw := gw_mem 421 (by decide +kernel) rfl
theorem k_422 : (Cond.code y_S_longer b_S_longer 3 (some FieldType.int)) ∈ gw := gw_mem 422 (by decide +kernel) rfl
theorem k_423 : (Cond.methodLink "RoundTrips$Splits" 71 y_S_order) ∈ gw := gw_mem 423 (by decide +kernel) rfl
theorem k_425 : (Cond.instanceMethod y_S_order) ∈ gw := gw_mem 425 (by decide +kernel) rfl
theorem k_426 : (Cond.code y_S_order b_S_order 3 (some FieldType.int)) ∈ gw := gw_mem 426 (by decide +kernel) rfl
theorem k_428 : (Cond.methodLink "RoundTrips$Splits" 67 y_S_keepIfBetter) ∈ gw := gw_mem 428 (by decide +kernel) rfl
theorem k_430 : (Cond.instanceMethod y_S_keepIfBetter) ∈ gw := gw_mem 430 (by decide +kernel) rfl
theorem k_431 : (Cond.code y_S_keepIfBetter b_S_keepIfBetter 2 none) ∈ gw := gw_mem 431 (by decide +kernel) rfl
theorem k_432 : (Cond.methodLink "RoundTrips$Splits" 74 ⟨"java/lang/System", "arraycopy", "(Ljava/lang/Object;ILjava/lang/Object;II)V"⟩) ∈ gw := gw_mem 432 (by decide +kernel) rfl
theorem k_433 : (Cond.static ⟨"java/lang/System", "arraycopy", "(Ljava/lang/Object;ILjava/lang/Object;II)V"⟩) ∈ gw := gw_mem 433 (by decide +kernel) rfl
theorem k_434 : (Cond.native ⟨"java/lang/System", "arraycopy", "(Ljava/lang/Object;ILjava/lang/Object;II)V"⟩) ∈ gw := gw_mem 434 (by decide +kernel) rfl
theorem k_435 : (Cond.methodLink "RoundTripsLaw" 104 y_L_out) ∈ gw := gw_mem 435 (by decide +kernel) rfl
theorem k_436 : (Cond.static y_L_out) ∈ gw := gw_mem 436 (by decide +kernel) rfl
theorem k_437 : (Cond.codeWith y_L_out b_L_out 4 (some FieldType.int) [(0, 9, 12, 13)]) ∈ gw := gw_mem 437 (by decide +kernel) rfl
theorem k_438 : (Cond.methodLink "RoundTripsLaw" 50 y_T_out) ∈ gw := gw_mem 438 (by decide +kernel) rfl
theorem k_439 : (Cond.instanceMethod y_T_out) ∈ gw := gw_mem 439 (by decide +kernel) rfl
theorem k_440 : (Cond.selects "RoundTrips" y_T_out y_T_out) ∈ gw := gw_mem 440 (by decide +kernel) rfl
theorem k_441 : (Cond.code y_T_out b_T_out 3 (some FieldType.int)) ∈ gw := gw_mem 441 (by decide +kernel) rfl
theorem k_442 : (Cond.methodLink "RoundTrips" 160 y_A_begin) ∈ gw := gw_mem 442 (by decide +kernel) rfl
theorem k_443 : (Cond.instanceMethod y_A_begin) ∈ gw := gw_mem 443 (by decide +kernel) rfl
theorem k_444 : (Cond.selects "RoundTrips$Stairs" y_A_begin y_A_begin) ∈ gw := gw_mem 444 (by decide +kernel) rfl
theorem k_445 : (Cond.code y_A_begin b_A_begin 2 none) ∈ gw := gw_mem 445 (by decide +kernel) rfl
theorem k_446 : (Cond.methodLink "RoundTrips$Stairs" 20 ⟨"java/lang/System", "arraycopy", "(Ljava/lang/Object;ILjava/lang/Object;II)V"⟩) ∈ gw := gw_mem 446 (by decide +kernel) rfl
theorem k_447 : (Cond.methodLink "RoundTrips" 167 y_A_oneSecond) ∈ gw := gw_mem 447 (by decide +kernel) rfl
theorem k_448 : (Cond.instanceMethod y_A_oneSecond) ∈ gw := gw_mem 448 (by decide +kernel) rfl
theorem k_449 : (Cond.selects "RoundTrips$Stairs" y_A_oneSecond y_A_oneSecond) ∈ gw := gw_mem 449 (by decide +kernel) rfl
theorem k_450 : (Cond.code y_A_oneSecond b_A_oneSecond 6 none) ∈ gw := gw_mem 450 (by decide +kernel) rfl
theorem k_451 : (Cond.methodLink "RoundTrips$Stairs" 33 ⟨"java/lang/Math", "min", "(II)I"⟩) ∈ gw := gw_mem 451 (by decide +kernel) rfl
theorem k_452 : (Cond.static ⟨"java/lang/Math", "min", "(II)I"⟩) ∈ gw := gw_mem 452 (by decide +kernel) rfl
theorem k_453 : (Cond.code ⟨"java/lang/Math", "min", "(II)I"⟩ prog_12_method_69_code 2 (some FieldType.int)) ∈ gw := gw_mem 453 (by decide +kernel) rfl
theorem k_454 : (Cond.methodLink "RoundTripsLaw" 107 y_L_there) ∈ gw := gw_mem 454 (by decide +kernel) rfl
theorem k_455 : (Cond.static y_L_there) ∈ gw := gw_mem 455 (by decide +kernel) rfl
theorem k_456 : (Cond.codeWith y_L_there b_L_there 6 (some FieldType.int) [(0, 12, 15, 13)]) ∈ gw := gw_mem 456 (by decide +kernel) rfl
theorem k_457 : (Cond.methodLink "RoundTripsLaw" 53 y_T_there) ∈ gw := gw_mem 457 (by decide +kernel) rfl
theorem k_458 : (Cond.instanceMethod y_T_there) ∈ gw := gw_mem 458 (by decide +kernel) rfl
theorem k_459 : (Cond.selects "RoundTrips" y_T_there y_T_there) ∈ gw := gw_mem 459 (by decide +kernel) rfl
theorem k_460 : (Cond.code y_T_there b_T_there 5 (some FieldType.int)) ∈ gw := gw_mem 460 (by decide +kernel) rfl
theorem k_461 : (Cond.methodLink "RoundTripsLaw" 110 y_L_crowd) ∈ gw := gw_mem 461 (by decide +kernel) rfl
theorem k_462 : (Cond.static y_L_crowd) ∈ gw := gw_mem 462 (by decide +kernel) rfl
theorem k_463 : (Cond.codeWith y_L_crowd b_L_crowd 5 (some FieldType.int) [(0, 10, 13, 13)]) ∈ gw := gw_mem 463 (by decide +kernel) rfl
theorem k_464 : (Cond.methodLink "RoundTripsLaw" 56 y_T_crowd) ∈ gw := gw_mem 464 (by decide +kernel) rfl
theorem k_465 : (Cond.instanceMethod y_T_crowd) ∈ gw := gw_mem 465 (by decide +kernel) rfl
theorem k_466 : (Cond.selects "RoundTrips" y_T_crowd y_T_crowd) ∈ gw := gw_mem 466 (by decide +kernel) rfl
theorem k_467 : (Cond.code y_T_crowd b_T_crowd 5 (some FieldType.int)) ∈ gw := gw_mem 467 (by decide +kernel) rfl
theorem k_468 : (Cond.methodLink "RoundTrips" 173 ⟨"java/lang/Math", "max", "(II)I"⟩) ∈ gw := gw_mem 468 (by decide +kernel) rfl
theorem k_469 : (Cond.static ⟨"java/lang/Math", "max", "(II)I"⟩) ∈ gw := gw_mem 469 (by decide +kernel) rfl
theorem k_470 : (Cond.code ⟨"java/lang/Math", "max", "(II)I"⟩ prog_12_method_65_code 2 (some FieldType.int)) ∈ gw := gw_mem 470 (by decide +kernel) rfl
theorem k_471 : (Cond.classLink "RoundTripsLaw" 60 "RoundTripsModel") ∈ gw := gw_mem 471 (by decide +kernel) rfl
theorem k_472 : (Cond.instantiable "RoundTripsModel" 17) ∈ gw := gw_mem 472 (by decide +kernel) rfl
theorem k_473 : (Cond.methodLink "RoundTripsLaw" 62 y_M_init) ∈ gw := gw_mem 473 (by decide +kernel) rfl
theorem k_474 : (Cond.instanceMethod y_M_init) ∈ gw := gw_mem 474 (by decide +kernel) rfl
theorem k_475 : (Cond.code y_M_init b_M_init 1 none) ∈ gw := gw_mem 475 (by decide +kernel) rfl
theorem k_476 : (Cond.methodLink "RoundTripsModel" 1 ⟨"java/lang/Object", "<init>", "()V"⟩) ∈ gw := gw_mem 476 (by decide +kernel) rfl
theorem k_477 : (Cond.fieldLink "RoundTripsModel" 47 "RoundTripsModel" "thrown" "I") ∈ gw := gw_mem 477 (by decide +kernel) rfl
theorem k_478 : (Cond.fieldLink "RoundTripsModel" 7 "RoundTripsModel" "people" "[I") ∈ gw := gw_mem 478 (by decide +kernel) rfl
theorem k_479 : (Cond.fieldLink "RoundTripsModel" 13 "RoundTripsModel" "heights" "[I") ∈ gw := gw_mem 479 (by decide +kernel) rfl
theorem k_480 : (Cond.fieldLink "RoundTripsModel" 51 "RoundTripsModel" "floors" "I") ∈ gw := gw_mem 480 (by decide +kernel) rfl
theorem k_481 : (Cond.fieldLink "RoundTripsModel" 16 "RoundTripsModel" "rooms" "[I") ∈ gw := gw_mem 481 (by decide +kernel) rfl
theorem k_482 : (Cond.fieldLink "RoundTripsModel" 19 "RoundTripsModel" "speeds" "[I") ∈ gw := gw_mem 482 (by decide +kernel) rfl
theorem k_483 : (Cond.fieldLink "RoundTripsModel" 22 "RoundTripsModel" "doors" "[I") ∈ gw := gw_mem 483 (by decide +kernel) rfl
theorem k_484 : (Cond.fieldLink "RoundTripsModel" 25 "RoundTripsModel" "seconds" "[I") ∈ gw := gw_mem 484 (by decide +kernel) rfl
theorem k_485 : (Cond.fieldLink "RoundTripsModel" 28 "RoundTripsModel" "cents" "[I") ∈ gw := gw_mem 485 (by decide +kernel) rfl
theorem k_486 : (Cond.fieldLink "RoundTripsModel" 67 "RoundTripsModel" "types" "I") ∈ gw := gw_mem 486 (by decide +kernel) rfl
theorem k_487 : (Cond.fieldLink "RoundTripsModel" 78 "RoundTripsModel" "above" "J") ∈ gw := gw_mem 487 (by decide +kernel) rfl
theorem k_488 : (Cond.fieldLink "RoundTripsModel" 82 "RoundTripsModel" "below" "J") ∈ gw := gw_mem 488 (by decide +kernel) rfl
theorem k_489 : (Cond.fieldLink "RoundTripsModel" 31 "RoundTripsModel" "tripAbove" "[J") ∈ gw := gw_mem 489 (by decide +kernel) rfl
theorem k_490 : (Cond.fieldLink "RoundTripsModel" 35 "RoundTripsModel" "tripBelow" "[J") ∈ gw := gw_mem 490 (by decide +kernel) rfl
theorem k_491 : (Cond.fieldLink "RoundTripsModel" 38 "RoundTripsModel" "ends" "[I") ∈ gw := gw_mem 491 (by decide +kernel) rfl
theorem k_492 : (Cond.fieldLink "RoundTripsModel" 41 "RoundTripsModel" "best" "[I") ∈ gw := gw_mem 492 (by decide +kernel) rfl
theorem k_493 : (Cond.fieldLink "RoundTripsModel" 44 "RoundTripsModel" "at" "[I") ∈ gw := gw_mem 493 (by decide +kernel) rfl
theorem k_494 : (Cond.lays "RoundTripsModel" "RoundTripsModel" "thrown" "I") ∈ gw := gw_mem 494 (by decide +kernel) rfl
theorem k_495 : (Cond.soleField "RoundTripsModel" "thrown") ∈ gw := gw_mem 495 (by decide +kernel) rfl
theorem k_496 : (Cond.laysFinal "RoundTripsModel" "RoundTripsModel" "people" "[I") ∈ gw := gw_mem 496 (by decide +kernel) rfl
theorem k_497 : (Cond.soleField "RoundTripsModel" "people") ∈ gw := gw_mem 497 (by decide +kernel) rfl
theorem k_498 : (Cond.laysFinal "RoundTripsModel" "RoundTripsModel" "heights" "[I") ∈ gw := gw_mem 498 (by decide +kernel) rfl
theorem k_499 : (Cond.soleField "RoundTripsModel" "heights") ∈ gw := gw_mem 499 (by decide +kernel) rfl
theorem k_500 : (Cond.lays "RoundTripsModel" "RoundTripsModel" "floors" "I") ∈ gw := gw_mem 500 (by decide +kernel) rfl
theorem k_501 : (Cond.soleField "RoundTripsModel" "floors") ∈ gw := gw_mem 501 (by decide +kernel) rfl
theorem k_502 : (Cond.laysFinal "RoundTripsModel" "RoundTripsModel" "rooms" "[I") ∈ gw := gw_mem 502 (by decide +kernel) rfl
theorem k_503 : (Cond.soleField "RoundTripsModel" "rooms") ∈ gw := gw_mem 503 (by decide +kernel) rfl
theorem k_504 : (Cond.laysFinal "RoundTripsModel" "RoundTripsModel" "speeds" "[I") ∈ gw := gw_mem 504 (by decide +kernel) rfl
theorem k_505 : (Cond.soleField "RoundTripsModel" "speeds") ∈ gw := gw_mem 505 (by decide +kernel) rfl
theorem k_506 : (Cond.laysFinal "RoundTripsModel" "RoundTripsModel" "doors" "[I") ∈ gw := gw_mem 506 (by decide +kernel) rfl
theorem k_507 : (Cond.soleField "RoundTripsModel" "doors") ∈ gw := gw_mem 507 (by decide +kernel) rfl
theorem k_508 : (Cond.laysFinal "RoundTripsModel" "RoundTripsModel" "seconds" "[I") ∈ gw := gw_mem 508 (by decide +kernel) rfl
theorem k_509 : (Cond.soleField "RoundTripsModel" "seconds") ∈ gw := gw_mem 509 (by decide +kernel) rfl
theorem k_510 : (Cond.laysFinal "RoundTripsModel" "RoundTripsModel" "cents" "[I") ∈ gw := gw_mem 510 (by decide +kernel) rfl
theorem k_511 : (Cond.soleField "RoundTripsModel" "cents") ∈ gw := gw_mem 511 (by decide +kernel) rfl
theorem k_512 : (Cond.lays "RoundTripsModel" "RoundTripsModel" "types" "I") ∈ gw := gw_mem 512 (by decide +kernel) rfl
theorem k_513 : (Cond.soleField "RoundTripsModel" "types") ∈ gw := gw_mem 513 (by decide +kernel) rfl
theorem k_514 : (Cond.lays "RoundTripsModel" "RoundTripsModel" "above" "J") ∈ gw := gw_mem 514 (by decide +kernel) rfl
theorem k_515 : (Cond.soleField "RoundTripsModel" "above") ∈ gw := gw_mem 515 (by decide +kernel) rfl
theorem k_516 : (Cond.lays "RoundTripsModel" "RoundTripsModel" "below" "J") ∈ gw := gw_mem 516 (by decide +kernel) rfl
theorem k_517 : (Cond.soleField "RoundTripsModel" "below") ∈ gw := gw_mem 517 (by decide +kernel) rfl
theorem k_518 : (Cond.laysFinal "RoundTripsModel" "RoundTripsModel" "tripAbove" "[J") ∈ gw := gw_mem 518 (by decide +kernel) rfl
theorem k_519 : (Cond.soleField "RoundTripsModel" "tripAbove") ∈ gw := gw_mem 519 (by decide +kernel) rfl
theorem k_520 : (Cond.laysFinal "RoundTripsModel" "RoundTripsModel" "tripBelow" "[J") ∈ gw := gw_mem 520 (by decide +kernel) rfl
theorem k_521 : (Cond.soleField "RoundTripsModel" "tripBelow") ∈ gw := gw_mem 521 (by decide +kernel) rfl
theorem k_522 : (Cond.laysFinal "RoundTripsModel" "RoundTripsModel" "ends" "[I") ∈ gw := gw_mem 522 (by decide +kernel) rfl
theorem k_523 : (Cond.soleField "RoundTripsModel" "ends") ∈ gw := gw_mem 523 (by decide +kernel) rfl
theorem k_524 : (Cond.laysFinal "RoundTripsModel" "RoundTripsModel" "best" "[I") ∈ gw := gw_mem 524 (by decide +kernel) rfl
theorem k_525 : (Cond.soleField "RoundTripsModel" "best") ∈ gw := gw_mem 525 (by decide +kernel) rfl
theorem k_526 : (Cond.laysFinal "RoundTripsModel" "RoundTripsModel" "at" "[I") ∈ gw := gw_mem 526 (by decide +kernel) rfl
theorem k_527 : (Cond.soleField "RoundTripsModel" "at") ∈ gw := gw_mem 527 (by decide +kernel) rfl
theorem k_528 : (Cond.superclass "RoundTripsModel" "java/lang/Object") ∈ gw := gw_mem 528 (by decide +kernel) rfl
theorem k_529 : (Cond.methodLink "RoundTripsLaw" 69 y_M_thrown) ∈ gw := gw_mem 529 (by decide +kernel) rfl
theorem k_530 : (Cond.instanceMethod y_M_thrown) ∈ gw := gw_mem 530 (by decide +kernel) rfl
theorem k_531 : (Cond.selects "RoundTripsModel" y_M_thrown y_M_thrown) ∈ gw := gw_mem 531 (by decide +kernel) rfl
theorem k_532 : (Cond.code y_M_thrown b_M_thrown 1 (some FieldType.int)) ∈ gw := gw_mem 532 (by decide +kernel) rfl
theorem k_533 : (Cond.methodLink "RoundTripsLaw" 68 y_M_floor) ∈ gw := gw_mem 533 (by decide +kernel) rfl
theorem k_534 : (Cond.instanceMethod y_M_floor) ∈ gw := gw_mem 534 (by decide +kernel) rfl
theorem k_535 : (Cond.selects "RoundTripsModel" y_M_floor y_M_floor) ∈ gw := gw_mem 535 (by decide +kernel) rfl
theorem k_536 : (Cond.code y_M_floor b_M_floor 3 (some FieldType.int)) ∈ gw := gw_mem 536 (by decide +kernel) rfl
theorem k_537 : (Cond.methodLink "RoundTripsModel" 54 y_M_isIn) ∈ gw := gw_mem 537 (by decide +kernel) rfl
theorem k_538 : (Cond.static y_M_isIn) ∈ gw := gw_mem 538 (by decide +kernel) rfl
theorem k_539 : (Cond.code y_M_isIn b_M_isIn 3 (some FieldType.boolean)) ∈ gw := gw_mem 539 (by decide +kernel) rfl
theorem k_540 : (Cond.methodLink "RoundTripsModel" 58 y_M_allPersons) ∈ gw := gw_mem 540 (by decide +kernel) rfl
theorem k_542 : (Cond.instanceMethod y_M_allPersons) ∈ gw := gw_mem 542 (by decide +kernel) rfl
theorem k_543 : (Cond.code y_M_allPersons b_M_allPersons 3 (some FieldType.int)) ∈ gw := gw_mem 543 (by decide +kernel) rfl
theorem k_544 : (Cond.methodLink "RoundTripsLaw" 75 y_M_persons) ∈ gw := gw_mem 544 (by decide +kernel) rfl
theorem k_545 : (Cond.instanceMethod y_M_persons) ∈ gw := gw_mem 545 (by decide +kernel) rfl
theorem k_546 : (Cond.selects "RoundTripsModel" y_M_persons y_M_persons) ∈ gw := gw_mem 546 (by decide +kernel) rfl
theorem k_547 : (Cond.code y_M_persons b_M_persons 4 (some FieldType.int)) ∈ gw := gw_mem 547 (by decide +kernel) rfl
theorem k_548 : (Cond.methodLink "RoundTripsModel" 62 y_M_noFloor) ∈ gw := gw_mem 548 (by decide +kernel) rfl
theorem k_550 : (Cond.instanceMethod y_M_noFloor) ∈ gw := gw_mem 550 (by decide +kernel) rfl
theorem k_551 : (Cond.code y_M_noFloor b_M_noFloor 2 (some FieldType.boolean)) ∈ gw := gw_mem 551 (by decide +kernel) rfl
theorem k_552 : (Cond.methodLink "RoundTripsLaw" 79 y_M_type) ∈ gw := gw_mem 552 (by decide +kernel) rfl
theorem k_553 : (Cond.instanceMethod y_M_type) ∈ gw := gw_mem 553 (by decide +kernel) rfl
theorem k_554 : (Cond.selects "RoundTripsModel" y_M_type y_M_type) ∈ gw := gw_mem 554 (by decide +kernel) rfl
theorem k_555 : (Cond.code y_M_type b_M_type 7 (some FieldType.int)) ∈ gw := gw_mem 555 (by decide +kernel) rfl
theorem k_556 : (Cond.constant "RoundTripsModel" 66 100000) ∈ gw := gw_mem 556 (by decide +kernel) rfl
theorem k_557 : (Cond.methodLink "RoundTripsLaw" 83 y_M_stops) ∈ gw := gw_mem 557 (by decide +kernel) rfl
theorem k_558 : (Cond.instanceMethod y_M_stops) ∈ gw := gw_mem 558 (by decide +kernel) rfl
theorem k_559 : (Cond.selects "RoundTripsModel" y_M_stops y_M_stops) ∈ gw := gw_mem 559 (by decide +kernel) rfl
theorem k_560 : (Cond.code y_M_stops b_M_stops 7 (some FieldType.long)) ∈ gw := gw_mem 560 (by decide +kernel) rfl
theorem k_561 : (Cond.methodLink "RoundTripsModel" 98 y_M_noZone) ∈ gw := gw_mem 561 (by decide +kernel) rfl
theorem k_563 : (Cond.instanceMethod y_M_noZone) ∈ gw := gw_mem 563 (by decide +kernel) rfl
theorem k_564 : (Cond.code y_M_noZone b_M_noZone 4 (some FieldType.boolean)) ∈ gw := gw_mem 564 (by decide +kernel) rfl
theorem k_565 : (Cond.methodLink "RoundTripsModel" 70 y_M_zonePersons) ∈ gw := gw_mem 565 (by decide +kernel) rfl
theorem k_567 : (Cond.instanceMethod y_M_zonePersons) ∈ gw := gw_mem 567 (by decide +kernel) rfl
theorem k_568 : (Cond.code y_M_zonePersons b_M_zonePersons 5 (some FieldType.int)) ∈ gw := gw_mem 568 (by decide +kernel) rfl
theorem k_569 : (Cond.methodLink "RoundTripsModel" 74 y_M_power) ∈ gw := gw_mem 569 (by decide +kernel) rfl
theorem k_570 : (Cond.static y_M_power) ∈ gw := gw_mem 570 (by decide +kernel) rfl
theorem k_571 : (Cond.code y_M_power b_M_power 6 (some FieldType.long)) ∈ gw := gw_mem 571 (by decide +kernel) rfl
theorem k_572 : (Cond.methodLink "RoundTripsModel" 89 y_M_stopsOf) ∈ gw := gw_mem 572 (by decide +kernel) rfl
theorem k_574 : (Cond.instanceMethod y_M_stopsOf) ∈ gw := gw_mem 574 (by decide +kernel) rfl
theorem k_575 : (Cond.code y_M_stopsOf b_M_stopsOf 9 (some FieldType.long)) ∈ gw := gw_mem 575 (by decide +kernel) rfl
theorem k_576 : (Cond.methodLink "RoundTripsModel" 85 y_M_lowest) ∈ gw := gw_mem 576 (by decide +kernel) rfl
theorem k_578 : (Cond.instanceMethod y_M_lowest) ∈ gw := gw_mem 578 (by decide +kernel) rfl
theorem k_579 : (Cond.code y_M_lowest b_M_lowest 11 none) ∈ gw := gw_mem 579 (by decide +kernel) rfl
theorem k_580 : (Cond.methodLink "RoundTripsModel" 101 y_M_part) ∈ gw := gw_mem 580 (by decide +kernel) rfl
theorem k_582 : (Cond.instanceMethod y_M_part) ∈ gw := gw_mem 582 (by decide +kernel) rfl
theorem k_583 : (Cond.code y_M_part b_M_part 2 (some FieldType.long)) ∈ gw := gw_mem 583 (by decide +kernel) rfl
theorem k_584 : (Cond.methodLink "RoundTripsLaw" 86 y_M_highest) ∈ gw := gw_mem 584 (by decide +kernel) rfl
theorem k_585 : (Cond.instanceMethod y_M_highest) ∈ gw := gw_mem 585 (by decide +kernel) rfl
theorem k_586 : (Cond.selects "RoundTripsModel" y_M_highest y_M_highest) ∈ gw := gw_mem 586 (by decide +kernel) rfl
theorem k_587 : (Cond.code y_M_highest b_M_highest 7 (some FieldType.long)) ∈ gw := gw_mem 587 (by decide +kernel) rfl
theorem k_588 : (Cond.methodLink "RoundTripsModel" 95 y_M_highestOf) ∈ gw := gw_mem 588 (by decide +kernel) rfl
theorem k_590 : (Cond.instanceMethod y_M_highestOf) ∈ gw := gw_mem 590 (by decide +kernel) rfl
theorem k_591 : (Cond.code y_M_highestOf b_M_highestOf 11 (some FieldType.long)) ∈ gw := gw_mem 591 (by decide +kernel) rfl
theorem k_592 : (Cond.methodLink "RoundTripsLaw" 89 y_M_trip) ∈ gw := gw_mem 592 (by decide +kernel) rfl
theorem k_593 : (Cond.instanceMethod y_M_trip) ∈ gw := gw_mem 593 (by decide +kernel) rfl
theorem k_594 : (Cond.selects "RoundTripsModel" y_M_trip y_M_trip) ∈ gw := gw_mem 594 (by decide +kernel) rfl
theorem k_595 : (Cond.code y_M_trip b_M_trip 5 (some FieldType.long)) ∈ gw := gw_mem 595 (by decide +kernel) rfl
theorem k_596 : (Cond.methodLink "RoundTripsModel" 105 y_M_reckonTrip) ∈ gw := gw_mem 596 (by decide +kernel) rfl
theorem k_598 : (Cond.instanceMethod y_M_reckonTrip) ∈ gw := gw_mem 598 (by decide +kernel) rfl
theorem k_599 : (Cond.code y_M_reckonTrip b_M_reckonTrip 13 none) ∈ gw := gw_mem 599 (by decide +kernel) rfl
theorem k_600 : (Cond.constantLong "RoundTripsModel" 93 2) ∈ gw := gw_mem 600 (by decide +kernel) rfl
theorem k_601 : (Cond.methodLink "RoundTripsLaw" 92 y_M_compare) ∈ gw := gw_mem 601 (by decide +kernel) rfl
theorem k_602 : (Cond.instanceMethod y_M_compare) ∈ gw := gw_mem 602 (by decide +kernel) rfl
theorem k_603 : (Cond.selects "RoundTripsModel" y_M_compare y_M_compare) ∈ gw := gw_mem 603 (by decide +kernel) rfl
theorem k_604 : (Cond.code y_M_compare b_M_compare 9 (some FieldType.int)) ∈ gw := gw_mem 604 (by decide +kernel) rfl
theorem k_605 : (Cond.methodLink "RoundTripsModel" 109 y_M_order) ∈ gw := gw_mem 605 (by decide +kernel) rfl
theorem k_606 : (Cond.static y_M_order) ∈ gw := gw_mem 606 (by decide +kernel) rfl
theorem k_607 : (Cond.code y_M_order b_M_order 21 (some FieldType.int)) ∈ gw := gw_mem 607 (by decide +kernel) rfl
theorem k_608 : (Cond.methodLink "RoundTripsLaw" 95 y_M_carried) ∈ gw := gw_mem 608 (by decide +kernel) rfl
theorem k_609 : (Cond.instanceMethod y_M_carried) ∈ gw := gw_mem 609 (by decide +kernel) rfl
theorem k_610 : (Cond.selects "RoundTripsModel" y_M_carried y_M_carried) ∈ gw := gw_mem 610 (by decide +kernel) rfl
theorem k_611 : (Cond.code y_M_carried b_M_carried 3 (some FieldType.long)) ∈ gw := gw_mem 611 (by decide +kernel) rfl
theorem k_612 : (Cond.methodLink "RoundTripsModel" 115 y_M_carriedBy) ∈ gw := gw_mem 612 (by decide +kernel) rfl
theorem k_614 : (Cond.instanceMethod y_M_carriedBy) ∈ gw := gw_mem 614 (by decide +kernel) rfl
theorem k_615 : (Cond.code y_M_carriedBy b_M_carriedBy 3 (some FieldType.long)) ∈ gw := gw_mem 615 (by decide +kernel) rfl
theorem k_616 : (Cond.constantLong "RoundTripsModel" 113 300) ∈ gw := gw_mem 616 (by decide +kernel) rfl
theorem k_617 : (Cond.methodLink "RoundTripsLaw" 99 y_M_cheapest) ∈ gw := gw_mem 617 (by decide +kernel) rfl
theorem k_618 : (Cond.instanceMethod y_M_cheapest) ∈ gw := gw_mem 618 (by decide +kernel) rfl
theorem k_619 : (Cond.selects "RoundTripsModel" y_M_cheapest y_M_cheapest) ∈ gw := gw_mem 619 (by decide +kernel) rfl
theorem k_620 : (Cond.code y_M_cheapest b_M_cheapest 7 (some FieldType.int)) ∈ gw := gw_mem 620 (by decide +kernel) rfl
theorem k_621 : (Cond.methodLink "RoundTripsLaw" 103 y_M_split) ∈ gw := gw_mem 621 (by decide +kernel) rfl
theorem k_622 : (Cond.instanceMethod y_M_split) ∈ gw := gw_mem 622 (by decide +kernel) rfl
theorem k_623 : (Cond.selects "RoundTripsModel" y_M_split y_M_split) ∈ gw := gw_mem 623 (by decide +kernel) rfl
theorem k_624 : (Cond.code y_M_split b_M_split 8 (some FieldType.int)) ∈ gw := gw_mem 624 (by decide +kernel) rfl
theorem k_625 : (Cond.methodLink "RoundTripsModel" 119 y_M_longest) ∈ gw := gw_mem 625 (by decide +kernel) rfl
theorem k_627 : (Cond.instanceMethod y_M_longest) ∈ gw := gw_mem 627 (by decide +kernel) rfl
theorem k_628 : (Cond.code y_M_longest b_M_longest 6 (some FieldType.int)) ∈ gw := gw_mem 628 (by decide +kernel) rfl
theorem k_629 : (Cond.methodLink "RoundTripsModel" 123 y_M_nextEnds) ∈ gw := gw_mem 629 (by decide +kernel) rfl
theorem k_631 : (Cond.instanceMethod y_M_nextEnds) ∈ gw := gw_mem 631 (by decide +kernel) rfl
theorem k_632 : (Cond.code y_M_nextEnds b_M_nextEnds 4 (some FieldType.boolean)) ∈ gw := gw_mem 632 (by decide +kernel) rfl
theorem k_633 : (Cond.methodLink "RoundTripsLaw" 106 y_M_out) ∈ gw := gw_mem 633 (by decide +kernel) rfl
theorem k_634 : (Cond.instanceMethod y_M_out) ∈ gw := gw_mem 634 (by decide +kernel) rfl
theorem k_635 : (Cond.selects "RoundTripsModel" y_M_out y_M_out) ∈ gw := gw_mem 635 (by decide +kernel) rfl
theorem k_636 : (Cond.code y_M_out b_M_out 3 (some FieldType.int)) ∈ gw := gw_mem 636 (by decide +kernel) rfl
theorem k_637 : (Cond.methodLink "RoundTripsModel" 126 y_M_begin) ∈ gw := gw_mem 637 (by decide +kernel) rfl
theorem k_639 : (Cond.instanceMethod y_M_begin) ∈ gw := gw_mem 639 (by decide +kernel) rfl
theorem k_640 : (Cond.code y_M_begin b_M_begin 2 none) ∈ gw := gw_mem 640 (by decide +kernel) rfl
theorem k_641 : (Cond.methodLink "RoundTripsModel" 129 y_M_inside) ∈ gw := gw_mem 641 (by decide +kernel) rfl
theorem k_643 : (Cond.instanceMethod y_M_inside) ∈ gw := gw_mem 643 (by decide +kernel) rfl
theorem k_644 : (Cond.code y_M_inside b_M_inside 3 (some FieldType.int)) ∈ gw := gw_mem 644 (by decide +kernel) rfl
theorem k_645 : (Cond.methodLink "RoundTripsModel" 132 y_M_second) ∈ gw := gw_mem 645 (by decide +kernel) rfl
theorem k_647 : (Cond.instanceMethod y_M_second) ∈ gw := gw_mem 647 (by decide +kernel) rfl
theorem k_648 : (Cond.code y_M_second b_M_second 4 none) ∈ gw := gw_mem 648 (by decide +kernel) rfl
theorem k_649 : (Cond.methodLink "RoundTripsLaw" 109 y_M_there) ∈ gw := gw_mem 649 (by decide +kernel) rfl
theorem k_650 : (Cond.instanceMethod y_M_there) ∈ gw := gw_mem 650 (by decide +kernel) rfl
theorem k_651 : (Cond.selects "RoundTripsModel" y_M_there y_M_there) ∈ gw := gw_mem 651 (by decide +kernel) rfl
theorem k_652 : (Cond.code y_M_there b_M_there 5 (some FieldType.int)) ∈ gw := gw_mem 652 (by decide +kernel) rfl
theorem k_653 : (Cond.methodLink "RoundTripsLaw" 112 y_M_crowd) ∈ gw := gw_mem 653 (by decide +kernel) rfl
theorem k_654 : (Cond.instanceMethod y_M_crowd) ∈ gw := gw_mem 654 (by decide +kernel) rfl
theorem k_655 : (Cond.selects "RoundTripsModel" y_M_crowd y_M_crowd) ∈ gw := gw_mem 655 (by decide +kernel) rfl
theorem k_656 : (Cond.code y_M_crowd b_M_crowd 4 (some FieldType.int)) ∈ gw := gw_mem 656 (by decide +kernel) rfl
theorem k_657 : (Cond.sameMethod "java/lang/Throwable" "java/lang/Throwable" "fillInStackTrace" "(I)Ljava/lang/Throwable;") ∈ gw := gw_mem 657 (by decide +kernel) rfl
theorem ks_T_requireFloor : Cond.selects R_T y_T_requireFloor y_T_requireFloor ∈ gw := gw_sel (q := (y_T_requireFloor, 6)) 1 (by decide +kernel)
theorem ks_T_countOdds : Cond.selects R_T y_T_countOdds y_T_countOdds ∈ gw := gw_sel (q := (y_T_countOdds, 6)) 2 (by decide +kernel)
theorem ks_T_requireType : Cond.selects R_T y_T_requireType y_T_requireType ∈ gw := gw_sel (q := (y_T_requireType, 6)) 3 (by decide +kernel)
theorem ks_T_requireZone : Cond.selects R_T y_T_requireZone y_T_requireZone ∈ gw := gw_sel (q := (y_T_requireZone, 6)) 4 (by decide +kernel)
theorem ks_T_requireSomeFloor : Cond.selects R_T y_T_requireSomeFloor y_T_requireSomeFloor ∈ gw := gw_sel (q := (y_T_requireSomeFloor, 6)) 5 (by decide +kernel)
theorem ks_T_fewestCars : Cond.selects R_T y_T_fewestCars y_T_fewestCars ∈ gw := gw_sel (q := (y_T_fewestCars, 6)) 6 (by decide +kernel)
theorem ks_S_tryZonesFrom : Cond.selects R_S y_S_tryZonesFrom y_S_tryZonesFrom ∈ gw := gw_sel (q := (y_S_tryZonesFrom, 7)) 7 (by decide +kernel)
theorem ks_S_longer : Cond.selects R_S y_S_longer y_S_longer ∈ gw := gw_sel (q := (y_S_longer, 7)) 8 (by decide +kernel)
theorem ks_S_order : Cond.selects R_S y_S_order y_S_order ∈ gw := gw_sel (q := (y_S_order, 7)) 9 (by decide +kernel)
theorem ks_S_keepIfBetter : Cond.selects R_S y_S_keepIfBetter y_S_keepIfBetter ∈ gw := gw_sel (q := (y_S_keepIfBetter, 7)) 10 (by decide +kernel)
theorem ks_M_allPersons : Cond.selects R_M y_M_allPersons y_M_allPersons ∈ gw := gw_sel (q := (y_M_allPersons, 17)) 11 (by decide +kernel)
theorem ks_M_noFloor : Cond.selects R_M y_M_noFloor y_M_noFloor ∈ gw := gw_sel (q := (y_M_noFloor, 17)) 12 (by decide +kernel)
theorem ks_M_noZone : Cond.selects R_M y_M_noZone y_M_noZone ∈ gw := gw_sel (q := (y_M_noZone, 17)) 13 (by decide +kernel)
theorem ks_M_zonePersons : Cond.selects R_M y_M_zonePersons y_M_zonePersons ∈ gw := gw_sel (q := (y_M_zonePersons, 17)) 14 (by decide +kernel)
theorem ks_M_stopsOf : Cond.selects R_M y_M_stopsOf y_M_stopsOf ∈ gw := gw_sel (q := (y_M_stopsOf, 17)) 15 (by decide +kernel)
theorem ks_M_lowest : Cond.selects R_M y_M_lowest y_M_lowest ∈ gw := gw_sel (q := (y_M_lowest, 17)) 16 (by decide +kernel)
theorem ks_M_part : Cond.selects R_M y_M_part y_M_part ∈ gw := gw_sel (q := (y_M_part, 17)) 17 (by decide +kernel)
theorem ks_M_highestOf : Cond.selects R_M y_M_highestOf y_M_highestOf ∈ gw := gw_sel (q := (y_M_highestOf, 17)) 18 (by decide +kernel)
theorem ks_M_reckonTrip : Cond.selects R_M y_M_reckonTrip y_M_reckonTrip ∈ gw := gw_sel (q := (y_M_reckonTrip, 17)) 19 (by decide +kernel)
theorem ks_M_carriedBy : Cond.selects R_M y_M_carriedBy y_M_carriedBy ∈ gw := gw_sel (q := (y_M_carriedBy, 17)) 20 (by decide +kernel)
theorem ks_M_longest : Cond.selects R_M y_M_longest y_M_longest ∈ gw := gw_sel (q := (y_M_longest, 17)) 21 (by decide +kernel)
theorem ks_M_nextEnds : Cond.selects R_M y_M_nextEnds y_M_nextEnds ∈ gw := gw_sel (q := (y_M_nextEnds, 17)) 22 (by decide +kernel)
theorem ks_M_begin : Cond.selects R_M y_M_begin y_M_begin ∈ gw := gw_sel (q := (y_M_begin, 17)) 23 (by decide +kernel)
theorem ks_M_inside : Cond.selects R_M y_M_inside y_M_inside ∈ gw := gw_sel (q := (y_M_inside, 17)) 24 (by decide +kernel)
theorem ks_M_second : Cond.selects R_M y_M_second y_M_second ∈ gw := gw_sel (q := (y_M_second, 17)) 25 (by decide +kernel)
end
section
/-! WHAT EVERY METHOD IS GIVEN: the classes' numbers and slots, the array classes, the words that are no good words, the texts. -/
abbrev E_arg : String := "java/lang/IllegalArgumentException"
abbrev E_sta : String := "java/lang/IllegalStateException"
abbrev vwTy (cI cL cT : ClassId) : List (ClassId × FieldType) := [(cI, .int), (cL, .long), (cT, .object "RoundTrips$CarType")]
def ct_nest : List Cond := [.methodLinkNest R_T 9 y_B_init R_T, .methodLinkNest R_T 28 y_O_init R_T, .methodLinkNest R_T 42 y_A_init R_T, .methodLinkNest R_S 80 y_T_orderOfFractions R_T, .castable E_arg E_arg, .castable E_sta E_sta]
def ct_str : List (Nat × String) := [(178, "a number is out of its bounds"), (56, "there are 12 floors"), (188, "all floors have more than 200 persons together"), (180, "there is no such floor"), (80, "there are 6 types"), (184, "there is no such type"), (182, "a zone ends below its begin"), (186, "there is no floor"), (138, "persons is below 0"), (148, "there are fewer floors than zones")]
theorem ct_nest_warm {s U : State} (hW : s.WarmedH U.vm) : ∀ w ∈ ct_nest, va_Nw w s → va_Nw w U := by
  intro w hw h
  simp only [ct_nest, List.mem_cons, List.not_mem_nil, or_false] at hw
  rcases hw with rfl | rfl | rfl | rfl | rfl | rfl
  · exact va_Nw.warmM hW h
  · exact va_Nw.warmM hW h
  · exact va_Nw.warmM hW h
  · exact va_Nw.warmM hW h
  · exact va_tabs rfl (rfl : (s.setVm U.vm).vm = U.vm) (by rw [Cond.castable_setVm hW.alike]; exact h)
  · exact va_tabs rfl (rfl : (s.setVm U.vm).vm = U.vm) (by rw [Cond.castable_setVm hW.alike]; exact h)
theorem ct_nest_same {u U : State} (hv : u.vm = U.vm) : ∀ w ∈ ct_nest, va_Nw w u → va_Nw w U := by
  intro w hw h
  simp only [ct_nest, List.mem_cons, List.not_mem_nil, or_false] at hw
  rcases hw with rfl | rfl | rfl | rfl | rfl | rfl <;> exact va_Nw.same rfl hv h
section CTA
variable {dC : Nat → ClassId} {dI : Nat → Nat → Nat} {cI cL cT : ClassId} {sa : Nat → Nat}
def CT (dC : Nat → ClassId) (dI : Nat → Nat → Nat) (cI cL cT : ClassId) (sa : Nat → Nat) (U : State) : Prop :=
  va_K (dC, dI) vwCl (vwTy cI cL cT) U ∧ (∀ w ∈ ct_nest, va_Nw w U) ∧ (∀ q ∈ ct_str, vk_R R_T q.1 q.2 (sa q.1) U) ∧ va_AO "RoundTrips$CarType" U
theorem CT.warm {s U : State} (hW : s.WarmedH U.vm) (h : CT dC dI cI cL cT sa s) : CT dC dI cI cL cT sa U :=
  ⟨va_K.moved hW.alike h.1, fun w hw => ct_nest_warm hW w hw (h.2.1 w hw), fun q hq => vk_R.warm hW (h.2.2.1 q hq), va_AO.moved hW.alike h.2.2.2⟩
theorem CT.call {U : State} {g : JFrame} {mk : MethodId} {a : Array Value} (h : CT dC dI cI cL cT sa U) : CT dC dI cI cL cT sa (U.calling g mk a) :=
  ⟨va_K.moved (u := U) (U := U.calling g mk a) (Vm.Alike.refl U.vm) h.1, fun w hw => ct_nest_same (u := U) (U := U.calling g mk a) rfl w hw (h.2.1 w hw), fun q hq => vk_R.same (u := U) (U := U.calling g mk a) rfl (h.2.2.1 q hq), va_AO.moved (u := U) (U := U.calling g mk a) (Vm.Alike.refl U.vm) h.2.2.2⟩
/-- a method that changes nothing: where it starts -/
def pr (dC : Nat → ClassId) (dI : Nat → Nat → Nat) (cI cL cT : ClassId) (sa : Nat → Nat) (av : List Value) (ws : va_W) : Array Value → State → Prop :=
  va_Pc av (fun U => CT dC dI cI cL cT sa U ∧ va_P (dC, dI) vwCl ws U.heap)
theorem pr_blind {av : List Value} {ws : va_W} : FrameBlind (pr dC dI cI cL cT sa av ws) := fun a U g mk h => ⟨h.1, h.2.1.call, h.2.2⟩
theorem pr_at {s : State} {H : Heap} {av : List Value} {ws : va_W} (hC : CT dC dI cI cL cT sa s) (hP : va_P (dC, dI) vwCl ws H) : ∀ U : State, U.heap = H → s.WarmedH U.vm → pr dC dI cI cL cT sa av ws av.toArray U :=
  fun U hU hW => ⟨rfl, hC.warm hW, by rw [hU]; exact hP⟩
end CTA
section ROA
variable {p : Program} {l : Launch} {e : Env} {R : Room} {s : State} {m : MethodId} {args : Array Value} {below : List Frame} {meth : Method} {c : Code} {H : Heap} {locs : List Loc} {cells slots : Nat} {Q : State → Prop}
variable {pc : Nat} {ls : Array Slot} {rest st0 : List Value} {a : Array Value} {mc ms : Nat}
/-- behind a call that changes nothing -/
theorem ro_calli {post : Int32 → Prop} (hr : va_Run p l e R s m args below meth c H locs cells slots mc ms (F0 m pc ls st0) rest (vp_Si post a) (fun _ => False))
    (kk : ∀ r : Int32, post r → W p l e R s m args below meth c H locs (cells + mc) (slots + ms) Q (F0 m (pc + 3) ls (.int r :: rest))) : W p l e R s m args below meth c H locs cells slots Q (F0 m pc ls st0) := by
  intro T hT X
  obtain ⟨v, st₀, t, T', L, h0, X', hL, e1, e2, ⟨r, hv, hp, hb⟩, st⟩ := hr T hT X
  cases hv
  have hL0 : L = [] := List.eq_nil_iff_forall_not_mem.mpr fun q hq => hL q hq
  subst hL0
  rw [List.append_nil] at X'
  obtain ⟨t2, a1, b1⟩ := kk r hp T' (by rw [e1, hb, h0]) X'
  exact ⟨t2, st t2 a1, b1⟩
theorem ro_calll {post : Int64 → Prop} (hr : va_Run p l e R s m args below meth c H locs cells slots mc ms (F0 m pc ls st0) rest (vp_Sl post a) (fun _ => False))
    (kk : ∀ r : Int64, post r → W p l e R s m args below meth c H locs (cells + mc) (slots + ms) Q (F0 m (pc + 3) ls (.long r :: rest))) : W p l e R s m args below meth c H locs cells slots Q (F0 m pc ls st0) := by
  intro T hT X
  obtain ⟨v, st₀, t, T', L, h0, X', hL, e1, e2, ⟨r, hv, hp, hb⟩, st⟩ := hr T hT X
  cases hv
  have hL0 : L = [] := List.eq_nil_iff_forall_not_mem.mpr fun q hq => hL q hq
  subst hL0
  rw [List.append_nil] at X'
  obtain ⟨t2, a1, b1⟩ := kk r hp T' (by rw [e1, hb, h0]) X'
  exact ⟨t2, st t2 a1, b1⟩
end ROA
section NXC
variable {p : Program} {l : Launch} {e : Env} {R : Room} {s : State} {m : MethodId} {args : Array Value} {below : List Frame} {meth : Method} {c : Code} {H : Heap} {locs : List Loc} {cells slots : Nat} {Q : State → Prop}
variable {cc : ByteArray} {pc : Nat} {ls : Array Slot} {rest : List Value}
theorem nx_inc (hexec : p.tables.exec = Jvm.exec) (hb : c.code = cc) {i nL k a : Nat} {lv lv' : List (Nat × Value)} (hdg : decode cc pc = .ok (.iinc i 1, 3)) (h : lv_has ls nL lv) (hk : lv[k]? = some (i, .int (nI a))) (hn : i < nL) (hl : (i, Value.int (nI (a + 1))) :: lv.filter (fun q => !(q.1 == i) && !(q.1 + 1 == i && q.2.category == 2)) = lv')
    (kk : ∀ ls' : Array Slot, lv_has ls' nL lv' → W p l e R s m args below meth c H locs cells slots Q (F0 m (pc + 3) ls' rest)) : W p l e R s m args below meth c H locs cells slots Q (F0 m pc ls rest) :=
  lv_iinc hexec hb hdg h hk (by rw [← nI_1]; rfl) hn hl kk
end NXC
end
section
section PWO
variable {p : Program} {l : Launch} {e : Env} {R : Room} {s : State} {m : MethodId} {args : Array Value} {below : List Frame} {meth : Method} {c : Code} {H : Heap} {locs : List Loc} {cells slots : Nat} {Q : State → Prop}
set_option maxHeartbeats 4000000 in
set_option maxRecDepth 100000 in
theorem l_O_power (hF : CallFix p m c b_O_power 6 s args gw R_O) {bb ee : Nat} (he : ee ≤ 5) (kend : ∀ ls : Array Slot, lv_has ls 6 [(0, .long (lN bb)), (2, .int (nI ee)), (3, .long (lN (bb ^ ee))), (5, .int (nI ee))] → W p l e R s m args below meth c H locs cells slots Q (F0 m 21 ls [])) : ∀ n i : Nat, ee - i < n → i ≤ ee → ∀ ls : Array Slot, lv_has ls 6 [(0, .long (lN bb)), (2, .int (nI ee)), (3, .long (lN (bb ^ i))), (5, .int (nI i))] → W p l e R s m args below meth c H locs cells slots Q (F0 m 5 ls []) := by
  obtain ⟨hx, hb, hml, hown, hts⟩ := id hF
  intro n
  induction n with
  | zero => intro i hn; omega
  | succ n ih =>
    intro i hn hi ls hl
    refine lv_iload hx hb d_O_power_5 (lv_at hl 3 rfl) ?_
    refine lv_iload_n hx hb d_O_power_7 rfl (lv_at hl 1 rfl) ?_
    refine nx_icmp_ge (tgt := 21) hx hb d_O_power_8 (by decide) (by omega) (by omega) (fun h => ?_) (fun h => ?_)
    · have hie : i = ee := by omega
      subst hie
      exact kend ls hl
    · refine lv_lload_n hx hb d_O_power_11 rfl (lv_at hl 2 rfl) ?_
      refine lv_lload_n hx hb d_O_power_12 rfl (lv_at hl 0 rfl) ?_
      refine nx_lmul hx hb d_O_power_13 ?_
      refine lv_lstore_n (lv' := [(3, .long (lN ((bb ^ i) * bb))), (0, .long (lN bb)), (2, .int (nI ee)), (5, .int (nI i))]) hx hb d_O_power_14 rfl hl (by decide) rfl (fun ls hl => ?_)
      refine nx_inc (lv' := [(5, .int (nI (i + 1))), (3, .long (lN ((bb ^ i) * bb))), (0, .long (lN bb)), (2, .int (nI ee))]) hx hb d_O_power_15 hl (k := 3) rfl (by decide) rfl (fun ls hl => ?_)
      refine lv_goto (tgt := 5) hx hb d_O_power_18 (by decide) ?_
      exact ih (i + 1) (by omega) (by omega) ls (lv_sub hl [2, 3, 1, 0] rfl)
end PWO
set_option maxHeartbeats 4000000 in
set_option maxRecDepth 100000 in
theorem c_O_power (l : Launch) {dC : Nat → ClassId} {dI : Nat → Nat → Nat} {cI cL cT : ClassId} {sa : Nat → Nat} (bb ee : Nat) (he : ee ≤ 5) : Met l y_O_power (Cond.code y_O_power b_O_power 6 (some .long) :: gw) ({ frames := 0, cells := 0, slots := 0, locals := 0 } : Room) (pr dC dI cI cL cT sa [.long (lN bb), .int (nI ee)] []) (vp_Sl (fun r => r = lN (bb ^ ee))) 0 0 (fun _ => False) := by
  refine Met.ofW (cc := b_O_power) (maxL := 6) (ret := (some .long)) (by decide) rfl ?_
  intro p e s m args below meth c s₁ B hml hv
  obtain ⟨rfl, hC, hP⟩ := hv
  have hx := B.exec
  have hb := B.bytes
  have hr := B.returns
  have hts : ∀ w ∈ gw, w.before ([.long (lN bb), .int (nI ee)] : List Value).toArray s = true := fun w hw => atoms_spec (ws := Cond.code y_O_power b_O_power 6 (some .long) :: gw) B.pre w (List.mem_cons_of_mem _ hw)
  have hown : s.vm.findClass R_O = some m.cls := findClass_of_methodNamed B.named
  have hlocks := B.notSynchronized
  have hK := hC.1
  have hfr : 0 ≤ (headSpec (Cond.code y_O_power b_O_power 6 (some .long) :: gw) ({ frames := 0, cells := 0, slots := 0, locals := 0 } : Room)).room.frames := Nat.le_refl _
  have hlo : 0 ≤ (headSpec (Cond.code y_O_power b_O_power 6 (some .long) :: gw) ({ frames := 0, cells := 0, slots := 0, locals := 0 } : Room)).room.locals := Nat.le_refl _
  have hce : 0 ≤ (headSpec (Cond.code y_O_power b_O_power 6 (some .long) :: gw) ({ frames := 0, cells := 0, slots := 0, locals := 0 } : Room)).room.cells := Nat.zero_le _
  have hsl : 0 ≤ (headSpec (Cond.code y_O_power b_O_power 6 (some .long) :: gw) ({ frames := 0, cells := 0, slots := 0, locals := 0 } : Room)).room.slots := Nat.zero_le _
  have hl := lv_entry ([.long (lN bb), .int (nI ee)]) (n := 6) (Nat.le_of_ble_eq_true rfl)
  rw [lg_entry_eq]
  generalize (lg_sl ([.long (lN bb), .int (nI ee)]) ++ List.replicate (6 - (lg_sl ([.long (lN bb), .int (nI ee)])).length) Slot.unset).toArray = ls at hl ⊢
  have hl : lv_has ls 6 [(0, .long (lN bb)), (2, .int (nI ee))] := hl
  refine lv_lconst (v := lN 1) hx hb d_O_power_0 (by decide) ?_
  refine lv_lstore_n (lv' := [(3, .long (lN 1)), (0, .long (lN bb)), (2, .int (nI ee))]) hx hb d_O_power_1 rfl hl (by decide) rfl (fun ls hl => ?_)
  refine lv_iconst (v := nI 0) hx hb d_O_power_2 (by decide) ?_
  refine lv_istore (lv' := [(5, .int (nI 0)), (3, .long (lN 1)), (0, .long (lN bb)), (2, .int (nI ee))]) hx hb d_O_power_3 hl (by decide) rfl (fun ls hl => ?_)
  refine l_O_power ⟨hx, hb, hml, hown, hts⟩ he (fun ls hl => ?_) (ee + 1) 0 (by omega) (by omega) ls (lv_sub hl [2, 3, 1, 0] rfl)
  refine lv_lload_n hx hb d_O_power_21 rfl (lv_at hl 2 rfl) ?_
  exact W.lret hx hb hr (fun t ht hW => ⟨_, rfl, rfl, ht⟩) (fun q h => by cases h) d_O_power_22
section PWM
variable {p : Program} {l : Launch} {e : Env} {R : Room} {s : State} {m : MethodId} {args : Array Value} {below : List Frame} {meth : Method} {c : Code} {H : Heap} {locs : List Loc} {cells slots : Nat} {Q : State → Prop}
set_option maxHeartbeats 4000000 in
set_option maxRecDepth 100000 in
theorem l_M_power (hF : CallFix p m c b_M_power 6 s args gw R_M) {bb ee : Nat} (he : ee ≤ 5) (kend : ∀ ls : Array Slot, lv_has ls 6 [(0, .long (lN bb)), (2, .int (nI ee)), (3, .long (lN (bb ^ ee))), (5, .int (nI ee))] → W p l e R s m args below meth c H locs cells slots Q (F0 m 21 ls [])) : ∀ n i : Nat, ee - i < n → i ≤ ee → ∀ ls : Array Slot, lv_has ls 6 [(0, .long (lN bb)), (2, .int (nI ee)), (3, .long (lN (bb ^ i))), (5, .int (nI i))] → W p l e R s m args below meth c H locs cells slots Q (F0 m 5 ls []) := by
  obtain ⟨hx, hb, hml, hown, hts⟩ := id hF
  intro n
  induction n with
  | zero => intro i hn; omega
  | succ n ih =>
    intro i hn hi ls hl
    refine lv_iload hx hb d_M_power_5 (lv_at hl 3 rfl) ?_
    refine lv_iload_n hx hb d_M_power_7 rfl (lv_at hl 1 rfl) ?_
    refine nx_icmp_ge (tgt := 21) hx hb d_M_power_8 (by decide) (by omega) (by omega) (fun h => ?_) (fun h => ?_)
    · have hie : i = ee := by omega
      subst hie
      exact kend ls hl
    · refine lv_lload_n hx hb d_M_power_11 rfl (lv_at hl 2 rfl) ?_
      refine lv_lload_n hx hb d_M_power_12 rfl (lv_at hl 0 rfl) ?_
      refine nx_lmul hx hb d_M_power_13 ?_
      refine lv_lstore_n (lv' := [(3, .long (lN ((bb ^ i) * bb))), (0, .long (lN bb)), (2, .int (nI ee)), (5, .int (nI i))]) hx hb d_M_power_14 rfl hl (by decide) rfl (fun ls hl => ?_)
      refine nx_inc (lv' := [(5, .int (nI (i + 1))), (3, .long (lN ((bb ^ i) * bb))), (0, .long (lN bb)), (2, .int (nI ee))]) hx hb d_M_power_15 hl (k := 3) rfl (by decide) rfl (fun ls hl => ?_)
      refine lv_goto (tgt := 5) hx hb d_M_power_18 (by decide) ?_
      exact ih (i + 1) (by omega) (by omega) ls (lv_sub hl [2, 3, 1, 0] rfl)
end PWM
set_option maxHeartbeats 4000000 in
set_option maxRecDepth 100000 in
theorem c_M_power (l : Launch) {dC : Nat → ClassId} {dI : Nat → Nat → Nat} {cI cL cT : ClassId} {sa : Nat → Nat} (bb ee : Nat) (he : ee ≤ 5) : Met l y_M_power (Cond.code y_M_power b_M_power 6 (some .long) :: gw) ({ frames := 0, cells := 0, slots := 0, locals := 0 } : Room) (pr dC dI cI cL cT sa [.long (lN bb), .int (nI ee)] []) (vp_Sl (fun r => r = lN (bb ^ ee))) 0 0 (fun _ => False) := by
  refine Met.ofW (cc := b_M_power) (maxL := 6) (ret := (some .long)) (by decide) rfl ?_
  intro p e s m args below meth c s₁ B hml hv
  obtain ⟨rfl, hC, hP⟩ := hv
  have hx := B.exec
  have hb := B.bytes
  have hr := B.returns
  have hts : ∀ w ∈ gw, w.before ([.long (lN bb), .int (nI ee)] : List Value).toArray s = true := fun w hw => atoms_spec (ws := Cond.code y_M_power b_M_power 6 (some .long) :: gw) B.pre w (List.mem_cons_of_mem _ hw)
  have hown : s.vm.findClass R_M = some m.cls := findClass_of_methodNamed B.named
  have hlocks := B.notSynchronized
  have hK := hC.1
  have hfr : 0 ≤ (headSpec (Cond.code y_M_power b_M_power 6 (some .long) :: gw) ({ frames := 0, cells := 0, slots := 0, locals := 0 } : Room)).room.frames := Nat.le_refl _
  have hlo : 0 ≤ (headSpec (Cond.code y_M_power b_M_power 6 (some .long) :: gw) ({ frames := 0, cells := 0, slots := 0, locals := 0 } : Room)).room.locals := Nat.le_refl _
  have hce : 0 ≤ (headSpec (Cond.code y_M_power b_M_power 6 (some .long) :: gw) ({ frames := 0, cells := 0, slots := 0, locals := 0 } : Room)).room.cells := Nat.zero_le _
  have hsl : 0 ≤ (headSpec (Cond.code y_M_power b_M_power 6 (some .long) :: gw) ({ frames := 0, cells := 0, slots := 0, locals := 0 } : Room)).room.slots := Nat.zero_le _
  have hl := lv_entry ([.long (lN bb), .int (nI ee)]) (n := 6) (Nat.le_of_ble_eq_true rfl)
  rw [lg_entry_eq]
  generalize (lg_sl ([.long (lN bb), .int (nI ee)]) ++ List.replicate (6 - (lg_sl ([.long (lN bb), .int (nI ee)])).length) Slot.unset).toArray = ls at hl ⊢
  have hl : lv_has ls 6 [(0, .long (lN bb)), (2, .int (nI ee))] := hl
  refine lv_lconst (v := lN 1) hx hb d_M_power_0 (by decide) ?_
  refine lv_lstore_n (lv' := [(3, .long (lN 1)), (0, .long (lN bb)), (2, .int (nI ee))]) hx hb d_M_power_1 rfl hl (by decide) rfl (fun ls hl => ?_)
  refine lv_iconst (v := nI 0) hx hb d_M_power_2 (by decide) ?_
  refine lv_istore (lv' := [(5, .int (nI 0)), (3, .long (lN 1)), (0, .long (lN bb)), (2, .int (nI ee))]) hx hb d_M_power_3 hl (by decide) rfl (fun ls hl => ?_)
  refine l_M_power ⟨hx, hb, hml, hown, hts⟩ he (fun ls hl => ?_) (ee + 1) 0 (by omega) (by omega) ls (lv_sub hl [2, 3, 1, 0] rfl)
  refine lv_lload_n hx hb d_M_power_21 rfl (lv_at hl 2 rfl) ?_
  exact W.lret hx hb hr (fun t ht hW => ⟨_, rfl, rfl, ht⟩) (fun q h => by cases h) d_M_power_22
end
section
/-! THE WORDS FOR THE STATE: sums over the floors of a zone; the reference's fields. -/
/-- f a + f (a + 1) + .. : n of them -/
def sm (f : Nat → Nat) (a : Nat) : Nat → Nat
  | 0 => 0
  | n + 1 => sm f a n + f (a + n)
/-- over the n floors from a on: the ways in which somebody gets off there, U persons, P places -/
def sp (f : Nat → Nat) (U P a : Nat) : Nat → Nat
  | 0 => 0
  | n + 1 => sp f U P a n + (U ^ P - (U - f (a + n)) ^ P)
/-- over the n floors from a on: their heights, each times the ways in which it is the highest -/
def hp (f h : Nat → Nat) (P a : Nat) : Nat → Nat
  | 0 => 0
  | n + 1 => hp f h P a n + h (a + n) * (sm f a (n + 1) ^ P - sm f a n ^ P)
abbrev mF (q : Nat → Nat) (th : Int32) (F n : Nat) (ab be : Int64) : List Value := [.int th, .ref (q 1), .ref (q 2), .int (nI F), .ref (q 4), .ref (q 5), .ref (q 6), .ref (q 7), .ref (q 8), .int (nI n), .long ab, .long be, .ref (q 12), .ref (q 13), .ref (q 14), .ref (q 15), .ref (q 16)]
theorem sm_mono {f : Nat → Nat} {a n k : Nat} (h : n ≤ k) : sm f a n ≤ sm f a k := by
  induction k with
  | zero => rw [Nat.le_zero.mp h]; exact Nat.le_refl _
  | succ k ih =>
    rcases Nat.lt_or_ge n (k + 1) with q | q
    · exact Nat.le_trans (ih (by omega)) (Nat.le_add_right _ _)
    · rw [show n = k + 1 by omega]; exact Nat.le_refl _
theorem sm_split {f : Nat → Nat} {a n : Nat} : ∀ k : Nat, sm f a (n + k) = sm f a n + sm f (a + n) k := by
  intro k
  induction k with
  | zero => rfl
  | succ k ih =>
    show sm f a (n + k) + f (a + (n + k)) = sm f a n + (sm f (a + n) k + f (a + n + k))
    rw [ih, Nat.add_assoc a n k]
    omega
theorem sm_le {f : Nat → Nat} {a n k : Nat} (h : k < n) : f (a + k) ≤ sm f a n := by
  have h1 : sm f a (k + 1) ≤ sm f a n := sm_mono h
  have h2 : sm f a (k + 1) = sm f a k + f (a + k) := rfl
  omega
/-- a boolean's int -/
noncomputable def bI (c : Prop) : Int32 := haveI := Classical.propDecidable c; if c then nI 1 else nI 0
theorem bI_t {c : Prop} (h : c) : bI c = nI 1 := by simp [bI, h]
theorem bI_f {c : Prop} (h : ¬ c) : bI c = nI 0 := by simp [bI, h]
/-- there is such a floor, such a type -/
def okFl (F : Nat) (v : Int32) : Prop := 1 ≤ v.toInt ∧ v.toInt ≤ (F : Int)
def okTy (n : Nat) (v : Int32) : Prop := 0 ≤ v.toInt ∧ v.toInt < (n : Int)
section NXD
variable {p : Program} {l : Launch} {e : Env} {R : Room} {s : State} {m : MethodId} {args : Array Value} {below : List Frame} {meth : Method} {c : Code} {H : Heap} {locs : List Loc} {cells slots : Nat} {Q : State → Prop}
variable {cc : ByteArray} {pc : Nat} {ls : Array Slot} {rest : List Value}
theorem nx_b_ne (hexec : p.tables.exec = Jvm.exec) (hb : c.code = cc) {b : Prop} {off : Int} {tgt : Nat} (hdg : decode cc pc = .ok (.ifCond .ne off, 3)) (ht : (pc : Int) + off = (tgt : Int)) (kt : b → W p l e R s m args below meth c H locs cells slots Q (F0 m tgt ls rest)) (kf : ¬ b → W p l e R s m args below meth c H locs cells slots Q (F0 m (pc + 3) ls rest)) : W p l e R s m args below meth c H locs cells slots Q (F0 m pc ls (.int (bI b) :: rest)) :=
  lv_if_ne hexec hb hdg ht (fun q => kt (Classical.byContradiction fun h => q (by rw [bI_f h]; decide))) (fun q => kf (fun h => by rw [bI_t h] at q; exact absurd q (by decide)))
theorem nx_b_eq (hexec : p.tables.exec = Jvm.exec) (hb : c.code = cc) {b : Prop} {off : Int} {tgt : Nat} (hdg : decode cc pc = .ok (.ifCond .eq off, 3)) (ht : (pc : Int) + off = (tgt : Int)) (kt : ¬ b → W p l e R s m args below meth c H locs cells slots Q (F0 m tgt ls rest)) (kf : b → W p l e R s m args below meth c H locs cells slots Q (F0 m (pc + 3) ls rest)) : W p l e R s m args below meth c H locs cells slots Q (F0 m pc ls (.int (bI b) :: rest)) :=
  lv_if_eq hexec hb hdg ht (fun q => kt (fun h => by rw [bI_t h] at q; exact absurd q (by decide))) (fun q => kf (Classical.byContradiction fun h => q (by rw [bI_f h]; decide)))
end NXD
end
section
section
variable {p : Program} {l : Launch} {e : Env} {R : Room} {s : State} {m : MethodId} {args : Array Value} {below : List Frame} {meth : Method} {c : Code} {H : Heap} {locs : List Loc} {cells slots : Nat} {Q : State → Prop}
variable {dC : Nat → ClassId} {dI : Nat → Nat → Nat} {cI cL cT : ClassId} {sa : Nat → Nat}
set_option maxHeartbeats 4000000 in
set_option maxRecDepth 100000 in
theorem l_B_personsBetween (hF : CallFix p m c b_B_personsBetween 5 s args gw R_B) (hK : va_K (dC, dI) vwCl (vwTy cI cL cT) s) {g : Nat → Nat} {F E : Nat} {pp : Nat → Nat} {fr to n : Nat} (hn : to + 1 = fr + n) (ht : to ≤ 12) (hP : va_P (dC, dI) vwCl [(g 1, .inr (0, [.ref (g 2), .ref (g 3), .int (nI F), .int (nI E)])), (g 2, .inl (cI, 13, .inl (fun j => nI (pp j))))] H) (kend : ∀ ls : Array Slot, lv_has ls 5 [(0, .ref (g 1)), (1, .int (nI fr)), (2, .int (nI to)), (3, .int (nI (sm pp fr n))), (4, .int (nI (fr + n)))] → W p l e R s m args below meth c H locs cells slots Q (F0 m 27 ls [])) : ∀ j k : Nat, n - k < j → k ≤ n → ∀ ls : Array Slot, lv_has ls 5 [(0, .ref (g 1)), (1, .int (nI fr)), (2, .int (nI to)), (3, .int (nI (sm pp fr k))), (4, .int (nI (fr + k)))] → W p l e R s m args below meth c H locs cells slots Q (F0 m 5 ls []) := by
  obtain ⟨hx, hb, hml, hown, hts⟩ := id hF
  intro j
  induction j with
  | zero => intro k hj; omega
  | succ j ih =>
    intro k hj hk ls hl
    refine lv_iload hx hb d_B_personsBetween_5 (lv_at hl 4 rfl) ?_
    refine lv_iload_n hx hb d_B_personsBetween_7 rfl (lv_at hl 2 rfl) ?_
    refine nx_icmp_gt (tgt := 27) hx hb d_B_personsBetween_8 (by decide) (by omega) (by omega) (fun h => ?_) (fun h => ?_)
    · have hke : k = n := by omega
      subst hke
      exact kend ls hl
    · refine lv_iload_n hx hb d_B_personsBetween_11 rfl (lv_at hl 3 rfl) ?_
      refine lv_aload_n hx hb d_B_personsBetween_12 rfl (lv_at hl 0 rfl) ?_
      refine va_get (D := (dC, dI)) (ci := 0) (v := .ref (g 2)) (C := R_B) (T := F_B) (N := 4) hx hb hts i_B hown hK hP 0 rfl rfl 0 (by decide) (hts _ k_29) (fun _ h9 => h9) rfl d_B_personsBetween_13 ?_
      refine lv_iload hx hb d_B_personsBetween_16 (lv_at hl 4 rfl) ?_
      refine nx_iald hx hb hK hP 1 0 rfl rfl (k := fr + k) (v := nI (pp (fr + k))) (by omega) (by decide) rfl d_B_personsBetween_18 ?_
      refine nx_iadd hx hb d_B_personsBetween_19 ?_
      refine lv_istore_n (lv' := [(3, .int (nI ((sm pp fr k) + (pp (fr + k))))), (0, .ref (g 1)), (1, .int (nI fr)), (2, .int (nI to)), (4, .int (nI (fr + k)))]) hx hb d_B_personsBetween_20 rfl hl (by decide) rfl (fun ls hl => ?_)
      refine nx_inc (lv' := [(4, .int (nI (fr + k + 1))), (3, .int (nI ((sm pp fr k) + (pp (fr + k))))), (0, .ref (g 1)), (1, .int (nI fr)), (2, .int (nI to))]) hx hb d_B_personsBetween_21 hl (k := 4) rfl (by decide) rfl (fun ls hl => ?_)
      refine lv_goto (tgt := 5) hx hb d_B_personsBetween_24 (by decide) ?_
      exact ih (k + 1) (by omega) (by omega) ls (lv_sub hl [2, 3, 4, 1, 0] rfl)
end
set_option maxHeartbeats 4000000 in
set_option maxRecDepth 100000 in
theorem c_B_personsBetween (l : Launch) {dC : Nat → ClassId} {dI : Nat → Nat → Nat} {cI cL cT : ClassId} {sa : Nat → Nat} (g : Nat → Nat) (F E : Nat) (pp : Nat → Nat) (fr to n : Nat) (hn : to + 1 = fr + n) (ht : to ≤ 12) : Met l y_B_personsBetween (Cond.code y_B_personsBetween b_B_personsBetween 5 (some .int) :: gw) ({ frames := 0, cells := 0, slots := 0, locals := 0 } : Room) (pr dC dI cI cL cT sa [.ref (g 1), .int (nI fr), .int (nI to)] [(g 1, .inr (0, [.ref (g 2), .ref (g 3), .int (nI F), .int (nI E)])), (g 2, .inl (cI, 13, .inl (fun j => nI (pp j))))]) (vp_Si (fun r => r = nI (sm pp fr n))) 0 0 (fun _ => False) := by
  refine Met.ofW (cc := b_B_personsBetween) (maxL := 5) (ret := (some .int)) (by decide) rfl ?_
  intro p e s m args below meth c s₁ B hml hv
  obtain ⟨rfl, hC, hP⟩ := hv
  have hx := B.exec
  have hb := B.bytes
  have hr := B.returns
  have hts : ∀ w ∈ gw, w.before ([.ref (g 1), .int (nI fr), .int (nI to)] : List Value).toArray s = true := fun w hw => atoms_spec (ws := Cond.code y_B_personsBetween b_B_personsBetween 5 (some .int) :: gw) B.pre w (List.mem_cons_of_mem _ hw)
  have hown : s.vm.findClass R_B = some m.cls := findClass_of_methodNamed B.named
  have hlocks := B.notSynchronized
  have hK := hC.1
  have hfr : 0 ≤ (headSpec (Cond.code y_B_personsBetween b_B_personsBetween 5 (some .int) :: gw) ({ frames := 0, cells := 0, slots := 0, locals := 0 } : Room)).room.frames := Nat.le_refl _
  have hlo : 0 ≤ (headSpec (Cond.code y_B_personsBetween b_B_personsBetween 5 (some .int) :: gw) ({ frames := 0, cells := 0, slots := 0, locals := 0 } : Room)).room.locals := Nat.le_refl _
  have hce : 0 ≤ (headSpec (Cond.code y_B_personsBetween b_B_personsBetween 5 (some .int) :: gw) ({ frames := 0, cells := 0, slots := 0, locals := 0 } : Room)).room.cells := Nat.zero_le _
  have hsl : 0 ≤ (headSpec (Cond.code y_B_personsBetween b_B_personsBetween 5 (some .int) :: gw) ({ frames := 0, cells := 0, slots := 0, locals := 0 } : Room)).room.slots := Nat.zero_le _
  have hl := lv_entry ([.ref (g 1), .int (nI fr), .int (nI to)]) (n := 5) (Nat.le_of_ble_eq_true rfl)
  rw [lg_entry_eq]
  generalize (lg_sl ([.ref (g 1), .int (nI fr), .int (nI to)]) ++ List.replicate (5 - (lg_sl ([.ref (g 1), .int (nI fr), .int (nI to)])).length) Slot.unset).toArray = ls at hl ⊢
  have hl : lv_has ls 5 [(0, .ref (g 1)), (1, .int (nI fr)), (2, .int (nI to))] := hl
  refine lv_iconst (v := nI 0) hx hb d_B_personsBetween_0 (by decide) ?_
  refine lv_istore_n (lv' := [(3, .int (nI 0)), (0, .ref (g 1)), (1, .int (nI fr)), (2, .int (nI to))]) hx hb d_B_personsBetween_1 rfl hl (by decide) rfl (fun ls hl => ?_)
  refine lv_iload_n hx hb d_B_personsBetween_2 rfl (lv_at hl 2 rfl) ?_
  refine lv_istore (lv' := [(4, .int (nI fr)), (3, .int (nI 0)), (0, .ref (g 1)), (1, .int (nI fr)), (2, .int (nI to))]) hx hb d_B_personsBetween_3 hl (by decide) rfl (fun ls hl => ?_)
  refine l_B_personsBetween ⟨hx, hb, hml, hown, hts⟩ hK hn ht hP (fun ls hl => ?_) (n + 1) 0 (by omega) (by omega) ls (lv_sub hl [2, 3, 4, 1, 0] rfl)
  refine lv_iload_n hx hb d_B_personsBetween_27 rfl (lv_at hl 3 rfl) ?_
  exact W.iret hx hb hr (fun t ht hW => ⟨_, rfl, rfl, ht⟩) (fun q h => by cases h) d_B_personsBetween_28
section
variable {p : Program} {l : Launch} {e : Env} {R : Room} {s : State} {m : MethodId} {args : Array Value} {below : List Frame} {meth : Method} {c : Code} {H : Heap} {locs : List Loc} {cells slots : Nat} {Q : State → Prop}
variable {dC : Nat → ClassId} {dI : Nat → Nat → Nat} {cI cL cT : ClassId} {sa : Nat → Nat}
set_option maxHeartbeats 4000000 in
set_option maxRecDepth 100000 in
theorem l_M_zonePersons (hF : CallFix p m c b_M_zonePersons 5 s args gw R_M) (hK : va_K (dC, dI) vwCl (vwTy cI cL cT) s) {q : Nat → Nat} {th : Int32} {F nt : Nat} {ab be : Int64} {pp : Nat → Nat} {fr to n : Nat} (hn : to + 1 = fr + n) (ht : to ≤ 12) (hP : va_P (dC, dI) vwCl [(q 0, .inr (6, (mF q th F nt ab be))), (q 1, .inl (cI, 13, .inl (fun j => nI (pp j))))] H) (kend : ∀ ls : Array Slot, lv_has ls 5 [(0, .ref (q 0)), (1, .int (nI fr)), (2, .int (nI to)), (3, .int (nI (sm pp fr n))), (4, .int (nI (fr + n)))] → W p l e R s m args below meth c H locs cells slots Q (F0 m 27 ls [])) : ∀ j k : Nat, n - k < j → k ≤ n → ∀ ls : Array Slot, lv_has ls 5 [(0, .ref (q 0)), (1, .int (nI fr)), (2, .int (nI to)), (3, .int (nI (sm pp fr k))), (4, .int (nI (fr + k)))] → W p l e R s m args below meth c H locs cells slots Q (F0 m 5 ls []) := by
  obtain ⟨hx, hb, hml, hown, hts⟩ := id hF
  intro j
  induction j with
  | zero => intro k hj; omega
  | succ j ih =>
    intro k hj hk ls hl
    refine lv_iload hx hb d_M_zonePersons_5 (lv_at hl 4 rfl) ?_
    refine lv_iload_n hx hb d_M_zonePersons_7 rfl (lv_at hl 2 rfl) ?_
    refine nx_icmp_gt (tgt := 27) hx hb d_M_zonePersons_8 (by decide) (by omega) (by omega) (fun h => ?_) (fun h => ?_)
    · have hke : k = n := by omega
      subst hke
      exact kend ls hl
    · refine lv_iload_n hx hb d_M_zonePersons_11 rfl (lv_at hl 3 rfl) ?_
      refine lv_aload_n hx hb d_M_zonePersons_12 rfl (lv_at hl 0 rfl) ?_
      refine va_get (D := (dC, dI)) (ci := 6) (v := .ref (q 1)) (C := R_M) (T := F_M) (N := 17) hx hb hts i_M hown hK hP 0 rfl rfl 1 (by decide) (hts _ k_478) (fun _ h9 => h9) rfl d_M_zonePersons_13 ?_
      refine lv_iload hx hb d_M_zonePersons_16 (lv_at hl 4 rfl) ?_
      refine nx_iald hx hb hK hP 1 0 rfl rfl (k := fr + k) (v := nI (pp (fr + k))) (by omega) (by decide) rfl d_M_zonePersons_18 ?_
      refine nx_iadd hx hb d_M_zonePersons_19 ?_
      refine lv_istore_n (lv' := [(3, .int (nI ((sm pp fr k) + (pp (fr + k))))), (0, .ref (q 0)), (1, .int (nI fr)), (2, .int (nI to)), (4, .int (nI (fr + k)))]) hx hb d_M_zonePersons_20 rfl hl (by decide) rfl (fun ls hl => ?_)
      refine nx_inc (lv' := [(4, .int (nI (fr + k + 1))), (3, .int (nI ((sm pp fr k) + (pp (fr + k))))), (0, .ref (q 0)), (1, .int (nI fr)), (2, .int (nI to))]) hx hb d_M_zonePersons_21 hl (k := 4) rfl (by decide) rfl (fun ls hl => ?_)
      refine lv_goto (tgt := 5) hx hb d_M_zonePersons_24 (by decide) ?_
      exact ih (k + 1) (by omega) (by omega) ls (lv_sub hl [2, 3, 4, 1, 0] rfl)
end
set_option maxHeartbeats 4000000 in
set_option maxRecDepth 100000 in
theorem c_M_zonePersons (l : Launch) {dC : Nat → ClassId} {dI : Nat → Nat → Nat} {cI cL cT : ClassId} {sa : Nat → Nat} (q : Nat → Nat) (th : Int32) (F nt : Nat) (ab be : Int64) (pp : Nat → Nat) (fr to n : Nat) (hn : to + 1 = fr + n) (ht : to ≤ 12) : Met l y_M_zonePersons (Cond.code y_M_zonePersons b_M_zonePersons 5 (some .int) :: gw) ({ frames := 0, cells := 0, slots := 0, locals := 0 } : Room) (pr dC dI cI cL cT sa [.ref (q 0), .int (nI fr), .int (nI to)] [(q 0, .inr (6, (mF q th F nt ab be))), (q 1, .inl (cI, 13, .inl (fun j => nI (pp j))))]) (vp_Si (fun r => r = nI (sm pp fr n))) 0 0 (fun _ => False) := by
  refine Met.ofW (cc := b_M_zonePersons) (maxL := 5) (ret := (some .int)) (by decide) rfl ?_
  intro p e s m args below meth c s₁ B hml hv
  obtain ⟨rfl, hC, hP⟩ := hv
  have hx := B.exec
  have hb := B.bytes
  have hr := B.returns
  have hts : ∀ w ∈ gw, w.before ([.ref (q 0), .int (nI fr), .int (nI to)] : List Value).toArray s = true := fun w hw => atoms_spec (ws := Cond.code y_M_zonePersons b_M_zonePersons 5 (some .int) :: gw) B.pre w (List.mem_cons_of_mem _ hw)
  have hown : s.vm.findClass R_M = some m.cls := findClass_of_methodNamed B.named
  have hlocks := B.notSynchronized
  have hK := hC.1
  have hfr : 0 ≤ (headSpec (Cond.code y_M_zonePersons b_M_zonePersons 5 (some .int) :: gw) ({ frames := 0, cells := 0, slots := 0, locals := 0 } : Room)).room.frames := Nat.le_refl _
  have hlo : 0 ≤ (headSpec (Cond.code y_M_zonePersons b_M_zonePersons 5 (some .int) :: gw) ({ frames := 0, cells := 0, slots := 0, locals := 0 } : Room)).room.locals := Nat.le_refl _
  have hce : 0 ≤ (headSpec (Cond.code y_M_zonePersons b_M_zonePersons 5 (some .int) :: gw) ({ frames := 0, cells := 0, slots := 0, locals := 0 } : Room)).room.cells := Nat.zero_le _
  have hsl : 0 ≤ (headSpec (Cond.code y_M_zonePersons b_M_zonePersons 5 (some .int) :: gw) ({ frames := 0, cells := 0, slots := 0, locals := 0 } : Room)).room.slots := Nat.zero_le _
  have hl := lv_entry ([.ref (q 0), .int (nI fr), .int (nI to)]) (n := 5) (Nat.le_of_ble_eq_true rfl)
  rw [lg_entry_eq]
  generalize (lg_sl ([.ref (q 0), .int (nI fr), .int (nI to)]) ++ List.replicate (5 - (lg_sl ([.ref (q 0), .int (nI fr), .int (nI to)])).length) Slot.unset).toArray = ls at hl ⊢
  have hl : lv_has ls 5 [(0, .ref (q 0)), (1, .int (nI fr)), (2, .int (nI to))] := hl
  refine lv_iconst (v := nI 0) hx hb d_M_zonePersons_0 (by decide) ?_
  refine lv_istore_n (lv' := [(3, .int (nI 0)), (0, .ref (q 0)), (1, .int (nI fr)), (2, .int (nI to))]) hx hb d_M_zonePersons_1 rfl hl (by decide) rfl (fun ls hl => ?_)
  refine lv_iload_n hx hb d_M_zonePersons_2 rfl (lv_at hl 2 rfl) ?_
  refine lv_istore (lv' := [(4, .int (nI fr)), (3, .int (nI 0)), (0, .ref (q 0)), (1, .int (nI fr)), (2, .int (nI to))]) hx hb d_M_zonePersons_3 hl (by decide) rfl (fun ls hl => ?_)
  refine l_M_zonePersons ⟨hx, hb, hml, hown, hts⟩ hK hn ht hP (fun ls hl => ?_) (n + 1) 0 (by omega) (by omega) ls (lv_sub hl [2, 3, 4, 1, 0] rfl)
  refine lv_iload_n hx hb d_M_zonePersons_27 rfl (lv_at hl 3 rfl) ?_
  exact W.iret hx hb hr (fun t ht hW => ⟨_, rfl, rfl, ht⟩) (fun q h => by cases h) d_M_zonePersons_28
section
variable {p : Program} {l : Launch} {e : Env} {R : Room} {s : State} {m : MethodId} {args : Array Value} {below : List Frame} {meth : Method} {c : Code} {H : Heap} {locs : List Loc} {cells slots : Nat} {Q : State → Prop}
variable {dC : Nat → ClassId} {dI : Nat → Nat → Nat} {cI cL cT : ClassId} {sa : Nat → Nat}
set_option maxHeartbeats 4000000 in
set_option maxRecDepth 100000 in
theorem l_M_allPersons (hF : CallFix p m c b_M_allPersons 3 s args gw R_M) (hK : va_K (dC, dI) vwCl (vwTy cI cL cT) s) {q : Nat → Nat} {th : Int32} {F nt : Nat} {ab be : Int64} {pp : Nat → Nat} (hF12 : F ≤ 12) (hP : va_P (dC, dI) vwCl [(q 0, .inr (6, (mF q th F nt ab be))), (q 1, .inl (cI, 13, .inl (fun j => nI (pp j))))] H) (kend : ∀ ls : Array Slot, lv_has ls 3 [(0, .ref (q 0)), (1, .int (nI (sm pp 1 F))), (2, .int (nI (1 + F)))] → W p l e R s m args below meth c H locs cells slots Q (F0 m 27 ls [])) : ∀ j k : Nat, F - k < j → k ≤ F → ∀ ls : Array Slot, lv_has ls 3 [(0, .ref (q 0)), (1, .int (nI (sm pp 1 k))), (2, .int (nI (1 + k)))] → W p l e R s m args below meth c H locs cells slots Q (F0 m 4 ls []) := by
  obtain ⟨hx, hb, hml, hown, hts⟩ := id hF
  intro j
  induction j with
  | zero => intro k hj; omega
  | succ j ih =>
    intro k hj hk ls hl
    refine lv_iload_n hx hb d_M_allPersons_4 rfl (lv_at hl 2 rfl) ?_
    refine lv_aload_n hx hb d_M_allPersons_5 rfl (lv_at hl 0 rfl) ?_
    refine va_get (D := (dC, dI)) (ci := 6) (v := .int (nI F)) (C := R_M) (T := F_M) (N := 17) hx hb hts i_M hown hK hP 0 rfl rfl 3 (by decide) (hts _ k_480) (fun _ h9 => h9) rfl d_M_allPersons_6 ?_
    refine nx_icmp_gt (tgt := 27) hx hb d_M_allPersons_9 (by decide) (by omega) (by omega) (fun h => ?_) (fun h => ?_)
    · have hke : k = F := by omega
      subst hke
      exact kend ls hl
    · refine lv_iload_n hx hb d_M_allPersons_12 rfl (lv_at hl 1 rfl) ?_
      refine lv_aload_n hx hb d_M_allPersons_13 rfl (lv_at hl 0 rfl) ?_
      refine va_get (D := (dC, dI)) (ci := 6) (v := .ref (q 1)) (C := R_M) (T := F_M) (N := 17) hx hb hts i_M hown hK hP 0 rfl rfl 1 (by decide) (hts _ k_478) (fun _ h9 => h9) rfl d_M_allPersons_14 ?_
      refine lv_iload_n hx hb d_M_allPersons_17 rfl (lv_at hl 2 rfl) ?_
      refine nx_iald hx hb hK hP 1 0 rfl rfl (k := 1 + k) (v := nI (pp (1 + k))) (by omega) (by decide) rfl d_M_allPersons_18 ?_
      refine nx_iadd hx hb d_M_allPersons_19 ?_
      refine lv_istore_n (lv' := [(1, .int (nI ((sm pp 1 k) + (pp (1 + k))))), (0, .ref (q 0)), (2, .int (nI (1 + k)))]) hx hb d_M_allPersons_20 rfl hl (by decide) rfl (fun ls hl => ?_)
      refine nx_inc (lv' := [(2, .int (nI (1 + k + 1))), (1, .int (nI ((sm pp 1 k) + (pp (1 + k))))), (0, .ref (q 0))]) hx hb d_M_allPersons_21 hl (k := 2) rfl (by decide) rfl (fun ls hl => ?_)
      refine lv_goto (tgt := 4) hx hb d_M_allPersons_24 (by decide) ?_
      exact ih (k + 1) (by omega) (by omega) ls (lv_sub hl [2, 1, 0] rfl)
end
set_option maxHeartbeats 4000000 in
set_option maxRecDepth 100000 in
theorem c_M_allPersons (l : Launch) {dC : Nat → ClassId} {dI : Nat → Nat → Nat} {cI cL cT : ClassId} {sa : Nat → Nat} (q : Nat → Nat) (th : Int32) (F nt : Nat) (ab be : Int64) (pp : Nat → Nat) (hF12 : F ≤ 12) : Met l y_M_allPersons (Cond.code y_M_allPersons b_M_allPersons 3 (some .int) :: gw) ({ frames := 0, cells := 0, slots := 0, locals := 0 } : Room) (pr dC dI cI cL cT sa [.ref (q 0)] [(q 0, .inr (6, (mF q th F nt ab be))), (q 1, .inl (cI, 13, .inl (fun j => nI (pp j))))]) (vp_Si (fun r => r = nI (sm pp 1 F))) 0 0 (fun _ => False) := by
  refine Met.ofW (cc := b_M_allPersons) (maxL := 3) (ret := (some .int)) (by decide) rfl ?_
  intro p e s m args below meth c s₁ B hml hv
  obtain ⟨rfl, hC, hP⟩ := hv
  have hx := B.exec
  have hb := B.bytes
  have hr := B.returns
  have hts : ∀ w ∈ gw, w.before ([.ref (q 0)] : List Value).toArray s = true := fun w hw => atoms_spec (ws := Cond.code y_M_allPersons b_M_allPersons 3 (some .int) :: gw) B.pre w (List.mem_cons_of_mem _ hw)
  have hown : s.vm.findClass R_M = some m.cls := findClass_of_methodNamed B.named
  have hlocks := B.notSynchronized
  have hK := hC.1
  have hfr : 0 ≤ (headSpec (Cond.code y_M_allPersons b_M_allPersons 3 (some .int) :: gw) ({ frames := 0, cells := 0, slots := 0, locals := 0 } : Room)).room.frames := Nat.le_refl _
  have hlo : 0 ≤ (headSpec (Cond.code y_M_allPersons b_M_allPersons 3 (some .int) :: gw) ({ frames := 0, cells := 0, slots := 0, locals := 0 } : Room)).room.locals := Nat.le_refl _
  have hce : 0 ≤ (headSpec (Cond.code y_M_allPersons b_M_allPersons 3 (some .int) :: gw) ({ frames := 0, cells := 0, slots := 0, locals := 0 } : Room)).room.cells := Nat.zero_le _
  have hsl : 0 ≤ (headSpec (Cond.code y_M_allPersons b_M_allPersons 3 (some .int) :: gw) ({ frames := 0, cells := 0, slots := 0, locals := 0 } : Room)).room.slots := Nat.zero_le _
  have hl := lv_entry ([.ref (q 0)]) (n := 3) (Nat.le_of_ble_eq_true rfl)
  rw [lg_entry_eq]
  generalize (lg_sl ([.ref (q 0)]) ++ List.replicate (3 - (lg_sl ([.ref (q 0)])).length) Slot.unset).toArray = ls at hl ⊢
  have hl : lv_has ls 3 [(0, .ref (q 0))] := hl
  refine lv_iconst (v := nI 0) hx hb d_M_allPersons_0 (by decide) ?_
  refine lv_istore_n (lv' := [(1, .int (nI 0)), (0, .ref (q 0))]) hx hb d_M_allPersons_1 rfl hl (by decide) rfl (fun ls hl => ?_)
  refine lv_iconst (v := nI 1) hx hb d_M_allPersons_2 (by decide) ?_
  refine lv_istore_n (lv' := [(2, .int (nI 1)), (1, .int (nI 0)), (0, .ref (q 0))]) hx hb d_M_allPersons_3 rfl hl (by decide) rfl (fun ls hl => ?_)
  refine l_M_allPersons ⟨hx, hb, hml, hown, hts⟩ hK hF12 hP (fun ls hl => ?_) (F + 1) 0 (by omega) (by omega) ls (lv_sub hl [2, 1, 0] rfl)
  refine lv_iload_n hx hb d_M_allPersons_27 rfl (lv_at hl 1 rfl) ?_
  exact W.iret hx hb hr (fun t ht hW => ⟨_, rfl, rfl, ht⟩) (fun q h => by cases h) d_M_allPersons_28
section
variable {p : Program} {l : Launch} {e : Env} {R : Room} {s : State} {m : MethodId} {args : Array Value} {below : List Frame} {meth : Method} {c : Code} {H : Heap} {locs : List Loc} {cells slots : Nat} {Q : State → Prop}
variable {dC : Nat → ClassId} {dI : Nat → Nat → Nat} {cI cL cT : ClassId} {sa : Nat → Nat}
set_option maxHeartbeats 4000000 in
set_option maxRecDepth 100000 in
theorem l_M_inside (hF : CallFix p m c b_M_inside 3 s args gw R_M) (hK : va_K (dC, dI) vwCl (vwTy cI cL cT) s) {q : Nat → Nat} {th : Int32} {F nt : Nat} {ab be : Int64} {aa : Nat → Nat} (hF12 : F ≤ 12) (hP : va_P (dC, dI) vwCl [(q 0, .inr (6, (mF q th F nt ab be))), (q 16, .inl (cI, 13, .inl (fun j => nI (aa j))))] H) (kend : ∀ ls : Array Slot, lv_has ls 3 [(0, .ref (q 0)), (1, .int (nI (sm aa 1 F))), (2, .int (nI (1 + F)))] → W p l e R s m args below meth c H locs cells slots Q (F0 m 27 ls [])) : ∀ j k : Nat, F - k < j → k ≤ F → ∀ ls : Array Slot, lv_has ls 3 [(0, .ref (q 0)), (1, .int (nI (sm aa 1 k))), (2, .int (nI (1 + k)))] → W p l e R s m args below meth c H locs cells slots Q (F0 m 4 ls []) := by
  obtain ⟨hx, hb, hml, hown, hts⟩ := id hF
  intro j
  induction j with
  | zero => intro k hj; omega
  | succ j ih =>
    intro k hj hk ls hl
    refine lv_iload_n hx hb d_M_inside_4 rfl (lv_at hl 2 rfl) ?_
    refine lv_aload_n hx hb d_M_inside_5 rfl (lv_at hl 0 rfl) ?_
    refine va_get (D := (dC, dI)) (ci := 6) (v := .int (nI F)) (C := R_M) (T := F_M) (N := 17) hx hb hts i_M hown hK hP 0 rfl rfl 3 (by decide) (hts _ k_480) (fun _ h9 => h9) rfl d_M_inside_6 ?_
    refine nx_icmp_gt (tgt := 27) hx hb d_M_inside_9 (by decide) (by omega) (by omega) (fun h => ?_) (fun h => ?_)
    · have hke : k = F := by omega
      subst hke
      exact kend ls hl
    · refine lv_iload_n hx hb d_M_inside_12 rfl (lv_at hl 1 rfl) ?_
      refine lv_aload_n hx hb d_M_inside_13 rfl (lv_at hl 0 rfl) ?_
      refine va_get (D := (dC, dI)) (ci := 6) (v := .ref (q 16)) (C := R_M) (T := F_M) (N := 17) hx hb hts i_M hown hK hP 0 rfl rfl 16 (by decide) (hts _ k_493) (fun _ h9 => h9) rfl d_M_inside_14 ?_
      refine lv_iload_n hx hb d_M_inside_17 rfl (lv_at hl 2 rfl) ?_
      refine nx_iald hx hb hK hP 1 0 rfl rfl (k := 1 + k) (v := nI (aa (1 + k))) (by omega) (by decide) rfl d_M_inside_18 ?_
      refine nx_iadd hx hb d_M_inside_19 ?_
      refine lv_istore_n (lv' := [(1, .int (nI ((sm aa 1 k) + (aa (1 + k))))), (0, .ref (q 0)), (2, .int (nI (1 + k)))]) hx hb d_M_inside_20 rfl hl (by decide) rfl (fun ls hl => ?_)
      refine nx_inc (lv' := [(2, .int (nI (1 + k + 1))), (1, .int (nI ((sm aa 1 k) + (aa (1 + k))))), (0, .ref (q 0))]) hx hb d_M_inside_21 hl (k := 2) rfl (by decide) rfl (fun ls hl => ?_)
      refine lv_goto (tgt := 4) hx hb d_M_inside_24 (by decide) ?_
      exact ih (k + 1) (by omega) (by omega) ls (lv_sub hl [2, 1, 0] rfl)
end
set_option maxHeartbeats 4000000 in
set_option maxRecDepth 100000 in
theorem c_M_inside (l : Launch) {dC : Nat → ClassId} {dI : Nat → Nat → Nat} {cI cL cT : ClassId} {sa : Nat → Nat} (q : Nat → Nat) (th : Int32) (F nt : Nat) (ab be : Int64) (aa : Nat → Nat) (hF12 : F ≤ 12) : Met l y_M_inside (Cond.code y_M_inside b_M_inside 3 (some .int) :: gw) ({ frames := 0, cells := 0, slots := 0, locals := 0 } : Room) (pr dC dI cI cL cT sa [.ref (q 0)] [(q 0, .inr (6, (mF q th F nt ab be))), (q 16, .inl (cI, 13, .inl (fun j => nI (aa j))))]) (vp_Si (fun r => r = nI (sm aa 1 F))) 0 0 (fun _ => False) := by
  refine Met.ofW (cc := b_M_inside) (maxL := 3) (ret := (some .int)) (by decide) rfl ?_
  intro p e s m args below meth c s₁ B hml hv
  obtain ⟨rfl, hC, hP⟩ := hv
  have hx := B.exec
  have hb := B.bytes
  have hr := B.returns
  have hts : ∀ w ∈ gw, w.before ([.ref (q 0)] : List Value).toArray s = true := fun w hw => atoms_spec (ws := Cond.code y_M_inside b_M_inside 3 (some .int) :: gw) B.pre w (List.mem_cons_of_mem _ hw)
  have hown : s.vm.findClass R_M = some m.cls := findClass_of_methodNamed B.named
  have hlocks := B.notSynchronized
  have hK := hC.1
  have hfr : 0 ≤ (headSpec (Cond.code y_M_inside b_M_inside 3 (some .int) :: gw) ({ frames := 0, cells := 0, slots := 0, locals := 0 } : Room)).room.frames := Nat.le_refl _
  have hlo : 0 ≤ (headSpec (Cond.code y_M_inside b_M_inside 3 (some .int) :: gw) ({ frames := 0, cells := 0, slots := 0, locals := 0 } : Room)).room.locals := Nat.le_refl _
  have hce : 0 ≤ (headSpec (Cond.code y_M_inside b_M_inside 3 (some .int) :: gw) ({ frames := 0, cells := 0, slots := 0, locals := 0 } : Room)).room.cells := Nat.zero_le _
  have hsl : 0 ≤ (headSpec (Cond.code y_M_inside b_M_inside 3 (some .int) :: gw) ({ frames := 0, cells := 0, slots := 0, locals := 0 } : Room)).room.slots := Nat.zero_le _
  have hl := lv_entry ([.ref (q 0)]) (n := 3) (Nat.le_of_ble_eq_true rfl)
  rw [lg_entry_eq]
  generalize (lg_sl ([.ref (q 0)]) ++ List.replicate (3 - (lg_sl ([.ref (q 0)])).length) Slot.unset).toArray = ls at hl ⊢
  have hl : lv_has ls 3 [(0, .ref (q 0))] := hl
  refine lv_iconst (v := nI 0) hx hb d_M_inside_0 (by decide) ?_
  refine lv_istore_n (lv' := [(1, .int (nI 0)), (0, .ref (q 0))]) hx hb d_M_inside_1 rfl hl (by decide) rfl (fun ls hl => ?_)
  refine lv_iconst (v := nI 1) hx hb d_M_inside_2 (by decide) ?_
  refine lv_istore_n (lv' := [(2, .int (nI 1)), (1, .int (nI 0)), (0, .ref (q 0))]) hx hb d_M_inside_3 rfl hl (by decide) rfl (fun ls hl => ?_)
  refine l_M_inside ⟨hx, hb, hml, hown, hts⟩ hK hF12 hP (fun ls hl => ?_) (F + 1) 0 (by omega) (by omega) ls (lv_sub hl [2, 1, 0] rfl)
  refine lv_iload_n hx hb d_M_inside_27 rfl (lv_at hl 1 rfl) ?_
  exact W.iret hx hb hr (fun t ht hW => ⟨_, rfl, rfl, ht⟩) (fun q h => by cases h) d_M_inside_28
set_option maxHeartbeats 4000000 in
set_option maxRecDepth 100000 in
theorem c_S_zone (l : Launch) {dC : Nat → ClassId} {dI : Nat → Nat → Nat} {cI cL cT : ClassId} {sa : Nat → Nat} (fr to : Nat)  : Met l y_S_zone (Cond.code y_S_zone b_S_zone 2 (some .int) :: gw) ({ frames := 0, cells := 0, slots := 0, locals := 0 } : Room) (pr dC dI cI cL cT sa [.int (nI fr), .int (nI to)] []) (vp_Si (fun r => r = nI (fr * 13 + to))) 0 0 (fun _ => False) := by
  refine Met.ofW (cc := b_S_zone) (maxL := 2) (ret := (some .int)) (by decide) rfl ?_
  intro p e s m args below meth c s₁ B hml hv
  obtain ⟨rfl, hC, hP⟩ := hv
  have hx := B.exec
  have hb := B.bytes
  have hr := B.returns
  have hts : ∀ w ∈ gw, w.before ([.int (nI fr), .int (nI to)] : List Value).toArray s = true := fun w hw => atoms_spec (ws := Cond.code y_S_zone b_S_zone 2 (some .int) :: gw) B.pre w (List.mem_cons_of_mem _ hw)
  have hown : s.vm.findClass R_S = some m.cls := findClass_of_methodNamed B.named
  have hlocks := B.notSynchronized
  have hK := hC.1
  have hfr : 0 ≤ (headSpec (Cond.code y_S_zone b_S_zone 2 (some .int) :: gw) ({ frames := 0, cells := 0, slots := 0, locals := 0 } : Room)).room.frames := Nat.le_refl _
  have hlo : 0 ≤ (headSpec (Cond.code y_S_zone b_S_zone 2 (some .int) :: gw) ({ frames := 0, cells := 0, slots := 0, locals := 0 } : Room)).room.locals := Nat.le_refl _
  have hce : 0 ≤ (headSpec (Cond.code y_S_zone b_S_zone 2 (some .int) :: gw) ({ frames := 0, cells := 0, slots := 0, locals := 0 } : Room)).room.cells := Nat.zero_le _
  have hsl : 0 ≤ (headSpec (Cond.code y_S_zone b_S_zone 2 (some .int) :: gw) ({ frames := 0, cells := 0, slots := 0, locals := 0 } : Room)).room.slots := Nat.zero_le _
  have hl := lv_entry ([.int (nI fr), .int (nI to)]) (n := 2) (Nat.le_of_ble_eq_true rfl)
  rw [lg_entry_eq]
  generalize (lg_sl ([.int (nI fr), .int (nI to)]) ++ List.replicate (2 - (lg_sl ([.int (nI fr), .int (nI to)])).length) Slot.unset).toArray = ls at hl ⊢
  have hl : lv_has ls 2 [(0, .int (nI fr)), (1, .int (nI to))] := hl
  refine lv_iload_n hx hb d_S_zone_0 rfl (lv_at hl 0 rfl) ?_
  refine lv_bipush (v := nI 13) hx hb d_S_zone_1 (by decide) ?_
  refine nx_imul hx hb d_S_zone_3 ?_
  refine lv_iload_n hx hb d_S_zone_4 rfl (lv_at hl 1 rfl) ?_
  refine nx_iadd hx hb d_S_zone_5 ?_
  exact W.iret hx hb hr (fun t ht hW => ⟨_, rfl, rfl, ht⟩) (fun q h => by cases h) d_S_zone_6
set_option maxHeartbeats 4000000 in
set_option maxRecDepth 100000 in
theorem c_M_isIn (l : Launch) {dC : Nat → ClassId} {dI : Nat → Nat → Nat} {cI cL cT : ClassId} {sa : Nat → Nat} (v0 lo0 hi0 : Int32) (lo hi : Int) (e1 : lo0.toInt = lo) (e2 : hi0.toInt = hi) : Met l y_M_isIn (Cond.code y_M_isIn b_M_isIn 3 (some .boolean) :: gw) ({ frames := 0, cells := 0, slots := 0, locals := 0 } : Room) (pr dC dI cI cL cT sa [.int v0, .int lo0, .int hi0] []) (vp_Si (fun r => r = bI (lo ≤ v0.toInt ∧ v0.toInt ≤ hi))) 0 0 (fun _ => False) := by
  refine Met.ofW (cc := b_M_isIn) (maxL := 3) (ret := (some .boolean)) (by decide) rfl ?_
  intro p e s m args below meth c s₁ B hml hv
  obtain ⟨rfl, hC, hP⟩ := hv
  have hx := B.exec
  have hb := B.bytes
  have hr := B.returns
  have hts : ∀ w ∈ gw, w.before ([.int v0, .int lo0, .int hi0] : List Value).toArray s = true := fun w hw => atoms_spec (ws := Cond.code y_M_isIn b_M_isIn 3 (some .boolean) :: gw) B.pre w (List.mem_cons_of_mem _ hw)
  have hown : s.vm.findClass R_M = some m.cls := findClass_of_methodNamed B.named
  have hlocks := B.notSynchronized
  have hK := hC.1
  have hfr : 0 ≤ (headSpec (Cond.code y_M_isIn b_M_isIn 3 (some .boolean) :: gw) ({ frames := 0, cells := 0, slots := 0, locals := 0 } : Room)).room.frames := Nat.le_refl _
  have hlo : 0 ≤ (headSpec (Cond.code y_M_isIn b_M_isIn 3 (some .boolean) :: gw) ({ frames := 0, cells := 0, slots := 0, locals := 0 } : Room)).room.locals := Nat.le_refl _
  have hce : 0 ≤ (headSpec (Cond.code y_M_isIn b_M_isIn 3 (some .boolean) :: gw) ({ frames := 0, cells := 0, slots := 0, locals := 0 } : Room)).room.cells := Nat.zero_le _
  have hsl : 0 ≤ (headSpec (Cond.code y_M_isIn b_M_isIn 3 (some .boolean) :: gw) ({ frames := 0, cells := 0, slots := 0, locals := 0 } : Room)).room.slots := Nat.zero_le _
  have hl := lv_entry ([.int v0, .int lo0, .int hi0]) (n := 3) (Nat.le_of_ble_eq_true rfl)
  rw [lg_entry_eq]
  generalize (lg_sl ([.int v0, .int lo0, .int hi0]) ++ List.replicate (3 - (lg_sl ([.int v0, .int lo0, .int hi0])).length) Slot.unset).toArray = ls at hl ⊢
  have hl : lv_has ls 3 [(0, .int v0), (1, .int lo0), (2, .int hi0)] := hl
  refine lv_iload_n hx hb d_M_isIn_0 rfl (lv_at hl 0 rfl) ?_
  refine lv_iload_n hx hb d_M_isIn_1 rfl (lv_at hl 1 rfl) ?_
  refine lv_icmp_lt (tgt := 14) hx hb d_M_isIn_2 (by decide) (fun h1 => ?_) (fun h1 => ?_)
  · refine lv_iconst (v := nI 0) hx hb d_M_isIn_14 (by decide) ?_
    exact W.zret hx hb hr (v := nI 0) (by decide) (fun t ht hW => ⟨_, rfl, (bI_f (fun q => by have := Int32.lt_iff_toInt_lt.mp h1; omega)).symm, ht⟩) (fun q h => by cases h) d_M_isIn_15
  · refine lv_iload_n hx hb d_M_isIn_5 rfl (lv_at hl 0 rfl) ?_
    refine lv_iload_n hx hb d_M_isIn_6 rfl (lv_at hl 2 rfl) ?_
    refine lv_icmp_gt (tgt := 14) hx hb d_M_isIn_7 (by decide) (fun h2 => ?_) (fun h2 => ?_)
    · refine lv_iconst (v := nI 0) hx hb d_M_isIn_14 (by decide) ?_
      exact W.zret hx hb hr (v := nI 0) (by decide) (fun t ht hW => ⟨_, rfl, (bI_f (fun q => by have := Int32.lt_iff_toInt_lt.mp h2; omega)).symm, ht⟩) (fun q h => by cases h) d_M_isIn_15
    · refine lv_iconst (v := nI 1) hx hb d_M_isIn_10 (by decide) ?_
      refine lv_goto (tgt := 15) hx hb d_M_isIn_11 (by decide) ?_
      exact W.zret hx hb hr (v := nI 1) (by decide) (fun t ht hW => ⟨_, rfl, (bI_t (by have := mt Int32.lt_iff_toInt_lt.mpr h1; have := mt Int32.lt_iff_toInt_lt.mpr h2; omega)).symm, ht⟩) (fun q h => by cases h) d_M_isIn_15
set_option maxHeartbeats 4000000 in
set_option maxRecDepth 100000 in
theorem c_M_noFloor (l : Launch) {dC : Nat → ClassId} {dI : Nat → Nat → Nat} {cI cL cT : ClassId} {sa : Nat → Nat} (q : Nat → Nat) (th : Int32) (F nt : Nat) (ab be : Int64) (v0 : Int32) (hF12 : F ≤ 12) : Met l y_M_noFloor (Cond.code y_M_noFloor b_M_noFloor 2 (some .boolean) :: gw) ({ frames := 1, cells := 0, slots := 0, locals := 22 } : Room) (pr dC dI cI cL cT sa [.ref (q 0), .int v0] [(q 0, .inr (6, (mF q th F nt ab be)))]) (vp_Si (fun r => r = bI (¬ okFl F v0))) 0 0 (fun _ => False) := by
  refine Met.ofW (cc := b_M_noFloor) (maxL := 2) (ret := (some .boolean)) (by decide) rfl ?_
  intro p e s m args below meth c s₁ B hml hv
  obtain ⟨rfl, hC, hP⟩ := hv
  have hx := B.exec
  have hb := B.bytes
  have hr := B.returns
  have hts : ∀ w ∈ gw, w.before ([.ref (q 0), .int v0] : List Value).toArray s = true := fun w hw => atoms_spec (ws := Cond.code y_M_noFloor b_M_noFloor 2 (some .boolean) :: gw) B.pre w (List.mem_cons_of_mem _ hw)
  have hown : s.vm.findClass R_M = some m.cls := findClass_of_methodNamed B.named
  have hlocks := B.notSynchronized
  have hK := hC.1
  have hfr : 1 ≤ (headSpec (Cond.code y_M_noFloor b_M_noFloor 2 (some .boolean) :: gw) ({ frames := 1, cells := 0, slots := 0, locals := 22 } : Room)).room.frames := Nat.le_refl _
  have hlo : 22 ≤ (headSpec (Cond.code y_M_noFloor b_M_noFloor 2 (some .boolean) :: gw) ({ frames := 1, cells := 0, slots := 0, locals := 22 } : Room)).room.locals := Nat.le_refl _
  have hce : 0 ≤ (headSpec (Cond.code y_M_noFloor b_M_noFloor 2 (some .boolean) :: gw) ({ frames := 1, cells := 0, slots := 0, locals := 22 } : Room)).room.cells := Nat.zero_le _
  have hsl : 0 ≤ (headSpec (Cond.code y_M_noFloor b_M_noFloor 2 (some .boolean) :: gw) ({ frames := 1, cells := 0, slots := 0, locals := 22 } : Room)).room.slots := Nat.zero_le _
  have hl := lv_entry ([.ref (q 0), .int v0]) (n := 2) (Nat.le_of_ble_eq_true rfl)
  rw [lg_entry_eq]
  generalize (lg_sl ([.ref (q 0), .int v0]) ++ List.replicate (2 - (lg_sl ([.ref (q 0), .int v0])).length) Slot.unset).toArray = ls at hl ⊢
  have hl : lv_has ls 2 [(0, .ref (q 0)), (1, .int v0)] := hl
  refine lv_iload_n hx hb d_M_noFloor_0 rfl (lv_at hl 1 rfl) ?_
  refine lv_iconst (v := nI 1) hx hb d_M_noFloor_1 (by decide) ?_
  refine lv_aload_n hx hb d_M_noFloor_2 rfl (lv_at hl 0 rfl) ?_
  refine va_get (D := (dC, dI)) (ci := 6) (v := .int (nI F)) (C := R_M) (T := F_M) (N := 17) hx hb hts i_M hown hK hP 0 rfl rfl 3 (by decide) (hts _ k_480) (fun _ h9 => h9) rfl d_M_noFloor_3 ?_
  refine ro_calli (va_runS (As := [.int v0, .int (nI 1), .int (nI F)]) (rest := []) ⟨hx, hb, hml, hown, hts⟩ (c_M_isIn l v0 (nI 1) (nI F) 1 F (nI_toInt (by decide)) (nI_toInt (by omega))) (cwS 3 hts (gw_S k_539 k_537 k_538 k_6) rfl rfl rfl (by decide +kernel) ⟨Nat.le_trans (Nat.le_of_ble_eq_true rfl) hfr, Nat.le_trans (Nat.le_of_ble_eq_true rfl) hlo⟩) ⟨pr_blind, pr_at hC (fun k q h => by simp at h)⟩ rfl rfl hl.1 rfl (lv_room (Nat.le_of_ble_eq_true rfl)) d_M_noFloor_6 ⟨hce, hsl⟩) (fun r9 h9 => ?_)
  subst h9
  refine nx_b_ne (tgt := 16) hx hb d_M_noFloor_9 (by decide) (fun h1 => ?_) (fun h1 => ?_)
  · refine lv_iconst (v := nI 0) hx hb d_M_noFloor_16 (by decide) ?_
    exact W.zret hx hb hr (v := nI 0) (by decide) (fun t ht hW => ⟨_, rfl, (bI_f (fun q => q h1)).symm, ht⟩) (fun q h => by cases h) d_M_noFloor_17
  · refine lv_iconst (v := nI 1) hx hb d_M_noFloor_12 (by decide) ?_
    refine lv_goto (tgt := 17) hx hb d_M_noFloor_13 (by decide) ?_
    exact W.zret hx hb hr (v := nI 1) (by decide) (fun t ht hW => ⟨_, rfl, (bI_t h1).symm, ht⟩) (fun q h => by cases h) d_M_noFloor_17
set_option maxHeartbeats 4000000 in
set_option maxRecDepth 100000 in
theorem c_M_noZone (l : Launch) {dC : Nat → ClassId} {dI : Nat → Nat → Nat} {cI cL cT : ClassId} {sa : Nat → Nat} (q : Nat → Nat) (th : Int32) (F nt : Nat) (ab be : Int64) (ty fr to : Int32) (hF12 : F ≤ 12) (hn6 : nt ≤ 6) : Met l y_M_noZone (Cond.code y_M_noZone b_M_noZone 4 (some .boolean) :: gw) ({ frames := 2, cells := 0, slots := 0, locals := 43 } : Room) (pr dC dI cI cL cT sa [.ref (q 0), .int ty, .int fr, .int to] [(q 0, .inr (6, (mF q th F nt ab be)))]) (vp_Si (fun r => r = bI (¬ (okTy nt ty ∧ okFl F fr ∧ okFl F to ∧ fr.toInt ≤ to.toInt)))) 0 0 (fun _ => False) := by
  refine Met.ofW (cc := b_M_noZone) (maxL := 4) (ret := (some .boolean)) (by decide) rfl ?_
  intro p e s m args below meth c s₁ B hml hv
  obtain ⟨rfl, hC, hP⟩ := hv
  have hx := B.exec
  have hb := B.bytes
  have hr := B.returns
  have hts : ∀ w ∈ gw, w.before ([.ref (q 0), .int ty, .int fr, .int to] : List Value).toArray s = true := fun w hw => atoms_spec (ws := Cond.code y_M_noZone b_M_noZone 4 (some .boolean) :: gw) B.pre w (List.mem_cons_of_mem _ hw)
  have hown : s.vm.findClass R_M = some m.cls := findClass_of_methodNamed B.named
  have hlocks := B.notSynchronized
  have hK := hC.1
  have hfr : 2 ≤ (headSpec (Cond.code y_M_noZone b_M_noZone 4 (some .boolean) :: gw) ({ frames := 2, cells := 0, slots := 0, locals := 43 } : Room)).room.frames := Nat.le_refl _
  have hlo : 43 ≤ (headSpec (Cond.code y_M_noZone b_M_noZone 4 (some .boolean) :: gw) ({ frames := 2, cells := 0, slots := 0, locals := 43 } : Room)).room.locals := Nat.le_refl _
  have hce : 0 ≤ (headSpec (Cond.code y_M_noZone b_M_noZone 4 (some .boolean) :: gw) ({ frames := 2, cells := 0, slots := 0, locals := 43 } : Room)).room.cells := Nat.zero_le _
  have hsl : 0 ≤ (headSpec (Cond.code y_M_noZone b_M_noZone 4 (some .boolean) :: gw) ({ frames := 2, cells := 0, slots := 0, locals := 43 } : Room)).room.slots := Nat.zero_le _
  have hl := lv_entry ([.ref (q 0), .int ty, .int fr, .int to]) (n := 4) (Nat.le_of_ble_eq_true rfl)
  rw [lg_entry_eq]
  generalize (lg_sl ([.ref (q 0), .int ty, .int fr, .int to]) ++ List.replicate (4 - (lg_sl ([.ref (q 0), .int ty, .int fr, .int to])).length) Slot.unset).toArray = ls at hl ⊢
  have hl : lv_has ls 4 [(0, .ref (q 0)), (1, .int ty), (2, .int fr), (3, .int to)] := hl
  refine lv_iload_n hx hb d_M_noZone_0 rfl (lv_at hl 1 rfl) ?_
  refine lv_iconst (v := nI 0) hx hb d_M_noZone_1 (by decide) ?_
  refine lv_aload_n hx hb d_M_noZone_2 rfl (lv_at hl 0 rfl) ?_
  refine va_get (D := (dC, dI)) (ci := 6) (v := .int (nI nt)) (C := R_M) (T := F_M) (N := 17) hx hb hts i_M hown hK hP 0 rfl rfl 9 (by decide) (hts _ k_486) (fun _ h9 => h9) rfl d_M_noZone_3 ?_
  refine lv_iconst (v := nI 1) hx hb d_M_noZone_6 (by decide) ?_
  refine lv_isub hx hb d_M_noZone_7 ?_
  refine ro_calli (va_runS (As := [.int ty, .int (nI 0), .int (nI nt - nI 1)]) (rest := []) ⟨hx, hb, hml, hown, hts⟩ (c_M_isIn l ty (nI 0) (nI nt - nI 1) 0 ((nt : Int) - 1) (nI_toInt (by decide)) (by rw [pk_sub_toInt (by omega) (by decide)]; rfl)) (cwS 3 hts (gw_S k_539 k_537 k_538 k_6) rfl rfl rfl (by decide +kernel) ⟨Nat.le_trans (Nat.le_of_ble_eq_true rfl) hfr, Nat.le_trans (Nat.le_of_ble_eq_true rfl) hlo⟩) ⟨pr_blind, pr_at hC (fun k q h => by simp at h)⟩ rfl rfl hl.1 rfl (lv_room (Nat.le_of_ble_eq_true rfl)) d_M_noZone_8 ⟨hce, hsl⟩) (fun r9 h9 => ?_)
  subst h9
  refine nx_b_eq (tgt := 35) hx hb d_M_noZone_11 (by decide) (fun h1 => ?_) (fun h1 => ?_)
  · refine lv_iconst (v := nI 1) hx hb d_M_noZone_35 (by decide) ?_
    refine lv_goto (tgt := 40) hx hb d_M_noZone_36 (by decide) ?_
    exact W.zret hx hb hr (v := nI 1) (by decide) (fun t ht hW => ⟨_, rfl, (bI_t (fun q => h1 (by have := q.1; unfold okTy at this; omega))).symm, ht⟩) (fun q h => by cases h) d_M_noZone_40
  · refine lv_aload_n hx hb d_M_noZone_14 rfl (lv_at hl 0 rfl) ?_
    refine lv_iload_n hx hb d_M_noZone_15 rfl (lv_at hl 2 rfl) ?_
    refine ro_calli (va_runV (As := [.int fr]) (rest := []) ⟨hx, hb, hml, hown, hts⟩ (c_M_noFloor l q th F nt ab be fr hF12) (cwV 1 hts (gw_V k_551 k_548 k_550 ks_M_noFloor k_6) rfl rfl rfl (by decide +kernel) ⟨Nat.le_trans (Nat.le_of_ble_eq_true rfl) hfr, Nat.le_trans (Nat.le_of_ble_eq_true rfl) hlo⟩) ⟨pr_blind, va_recv hK hP (ci := 6) (q0 := 0) rfl rfl, pr_at hC (hP.sub (ws' := [(q 0, .inr (6, (mF q th F nt ab be)))]) [0] rfl)⟩ rfl rfl hl.1 rfl (lv_room (Nat.le_of_ble_eq_true rfl)) d_M_noZone_16 ⟨hce, hsl⟩) (fun r9 h9 => ?_)
    subst h9
    refine nx_b_ne (tgt := 35) hx hb d_M_noZone_19 (by decide) (fun h2 => ?_) (fun h2 => ?_)
    · refine lv_iconst (v := nI 1) hx hb d_M_noZone_35 (by decide) ?_
      refine lv_goto (tgt := 40) hx hb d_M_noZone_36 (by decide) ?_
      exact W.zret hx hb hr (v := nI 1) (by decide) (fun t ht hW => ⟨_, rfl, (bI_t (fun q => h2 q.2.1)).symm, ht⟩) (fun q h => by cases h) d_M_noZone_40
    · refine lv_aload_n hx hb d_M_noZone_22 rfl (lv_at hl 0 rfl) ?_
      refine lv_iload_n hx hb d_M_noZone_23 rfl (lv_at hl 3 rfl) ?_
      refine ro_calli (va_runV (As := [.int to]) (rest := []) ⟨hx, hb, hml, hown, hts⟩ (c_M_noFloor l q th F nt ab be to hF12) (cwV 1 hts (gw_V k_551 k_548 k_550 ks_M_noFloor k_6) rfl rfl rfl (by decide +kernel) ⟨Nat.le_trans (Nat.le_of_ble_eq_true rfl) hfr, Nat.le_trans (Nat.le_of_ble_eq_true rfl) hlo⟩) ⟨pr_blind, va_recv hK hP (ci := 6) (q0 := 0) rfl rfl, pr_at hC (hP.sub (ws' := [(q 0, .inr (6, (mF q th F nt ab be)))]) [0] rfl)⟩ rfl rfl hl.1 rfl (lv_room (Nat.le_of_ble_eq_true rfl)) d_M_noZone_24 ⟨hce, hsl⟩) (fun r9 h9 => ?_)
      subst h9
      refine nx_b_ne (tgt := 35) hx hb d_M_noZone_27 (by decide) (fun h3 => ?_) (fun h3 => ?_)
      · refine lv_iconst (v := nI 1) hx hb d_M_noZone_35 (by decide) ?_
        refine lv_goto (tgt := 40) hx hb d_M_noZone_36 (by decide) ?_
        exact W.zret hx hb hr (v := nI 1) (by decide) (fun t ht hW => ⟨_, rfl, (bI_t (fun q => h3 q.2.2.1)).symm, ht⟩) (fun q h => by cases h) d_M_noZone_40
      · refine lv_iload_n hx hb d_M_noZone_30 rfl (lv_at hl 3 rfl) ?_
        refine lv_iload_n hx hb d_M_noZone_31 rfl (lv_at hl 2 rfl) ?_
        refine lv_icmp_ge (tgt := 39) hx hb d_M_noZone_32 (by decide) (fun h4 => ?_) (fun h4 => ?_)
        · refine lv_iconst (v := nI 0) hx hb d_M_noZone_39 (by decide) ?_
          exact W.zret hx hb hr (v := nI 0) (by decide) (fun t ht hW => ⟨_, rfl, (bI_f (fun q => q ⟨by unfold okTy; omega, Classical.not_not.mp h2, Classical.not_not.mp h3, Int32.le_iff_toInt_le.mp h4⟩)).symm, ht⟩) (fun q h => by cases h) d_M_noZone_40
        · refine lv_iconst (v := nI 1) hx hb d_M_noZone_35 (by decide) ?_
          refine lv_goto (tgt := 40) hx hb d_M_noZone_36 (by decide) ?_
          exact W.zret hx hb hr (v := nI 1) (by decide) (fun t ht hW => ⟨_, rfl, (bI_t (fun q => h4 (Int32.le_iff_toInt_le.mpr q.2.2.2))).symm, ht⟩) (fun q h => by cases h) d_M_noZone_40
set_option maxHeartbeats 4000000 in
set_option maxRecDepth 100000 in
theorem c_M_thrown (l : Launch) {dC : Nat → ClassId} {dI : Nat → Nat → Nat} {cI cL cT : ClassId} {sa : Nat → Nat} (q : Nat → Nat) (th : Int32) (F nt : Nat) (ab be : Int64)  : Met l y_M_thrown (Cond.code y_M_thrown b_M_thrown 1 (some .int) :: gw) ({ frames := 0, cells := 0, slots := 0, locals := 0 } : Room) (pr dC dI cI cL cT sa [.ref (q 0)] [(q 0, .inr (6, (mF q th F nt ab be)))]) (vp_Si (fun r => r = th)) 0 0 (fun _ => False) := by
  refine Met.ofW (cc := b_M_thrown) (maxL := 1) (ret := (some .int)) (by decide) rfl ?_
  intro p e s m args below meth c s₁ B hml hv
  obtain ⟨rfl, hC, hP⟩ := hv
  have hx := B.exec
  have hb := B.bytes
  have hr := B.returns
  have hts : ∀ w ∈ gw, w.before ([.ref (q 0)] : List Value).toArray s = true := fun w hw => atoms_spec (ws := Cond.code y_M_thrown b_M_thrown 1 (some .int) :: gw) B.pre w (List.mem_cons_of_mem _ hw)
  have hown : s.vm.findClass R_M = some m.cls := findClass_of_methodNamed B.named
  have hlocks := B.notSynchronized
  have hK := hC.1
  have hfr : 0 ≤ (headSpec (Cond.code y_M_thrown b_M_thrown 1 (some .int) :: gw) ({ frames := 0, cells := 0, slots := 0, locals := 0 } : Room)).room.frames := Nat.le_refl _
  have hlo : 0 ≤ (headSpec (Cond.code y_M_thrown b_M_thrown 1 (some .int) :: gw) ({ frames := 0, cells := 0, slots := 0, locals := 0 } : Room)).room.locals := Nat.le_refl _
  have hce : 0 ≤ (headSpec (Cond.code y_M_thrown b_M_thrown 1 (some .int) :: gw) ({ frames := 0, cells := 0, slots := 0, locals := 0 } : Room)).room.cells := Nat.zero_le _
  have hsl : 0 ≤ (headSpec (Cond.code y_M_thrown b_M_thrown 1 (some .int) :: gw) ({ frames := 0, cells := 0, slots := 0, locals := 0 } : Room)).room.slots := Nat.zero_le _
  have hl := lv_entry ([.ref (q 0)]) (n := 1) (Nat.le_of_ble_eq_true rfl)
  rw [lg_entry_eq]
  generalize (lg_sl ([.ref (q 0)]) ++ List.replicate (1 - (lg_sl ([.ref (q 0)])).length) Slot.unset).toArray = ls at hl ⊢
  have hl : lv_has ls 1 [(0, .ref (q 0))] := hl
  refine lv_aload_n hx hb d_M_thrown_0 rfl (lv_at hl 0 rfl) ?_
  refine va_get (D := (dC, dI)) (ci := 6) (v := .int th) (C := R_M) (T := F_M) (N := 17) hx hb hts i_M hown hK hP 0 rfl rfl 0 (by decide) (hts _ k_477) (fun _ h9 => h9) rfl d_M_thrown_1 ?_
  exact W.iret hx hb hr (fun t ht hW => ⟨_, rfl, rfl, ht⟩) (fun q h => by cases h) d_M_thrown_4
set_option maxHeartbeats 4000000 in
set_option maxRecDepth 100000 in
theorem c_M_part (l : Launch) {dC : Nat → ClassId} {dI : Nat → Nat → Nat} {cI cL cT : ClassId} {sa : Nat → Nat} (q : Nat → Nat) (th : Int32) (F nt : Nat) (ab be : Int64) (pt : Nat) (hpt : pt ≤ 1) : Met l y_M_part (Cond.code y_M_part b_M_part 2 (some .long) :: gw) ({ frames := 0, cells := 0, slots := 0, locals := 0 } : Room) (pr dC dI cI cL cT sa [.ref (q 0), .int (nI pt)] [(q 0, .inr (6, (mF q th F nt ab be)))]) (vp_Sl (fun r => r = if pt = 0 then ab else be)) 0 0 (fun _ => False) := by
  refine Met.ofW (cc := b_M_part) (maxL := 2) (ret := (some .long)) (by decide) rfl ?_
  intro p e s m args below meth c s₁ B hml hv
  obtain ⟨rfl, hC, hP⟩ := hv
  have hx := B.exec
  have hb := B.bytes
  have hr := B.returns
  have hts : ∀ w ∈ gw, w.before ([.ref (q 0), .int (nI pt)] : List Value).toArray s = true := fun w hw => atoms_spec (ws := Cond.code y_M_part b_M_part 2 (some .long) :: gw) B.pre w (List.mem_cons_of_mem _ hw)
  have hown : s.vm.findClass R_M = some m.cls := findClass_of_methodNamed B.named
  have hlocks := B.notSynchronized
  have hK := hC.1
  have hfr : 0 ≤ (headSpec (Cond.code y_M_part b_M_part 2 (some .long) :: gw) ({ frames := 0, cells := 0, slots := 0, locals := 0 } : Room)).room.frames := Nat.le_refl _
  have hlo : 0 ≤ (headSpec (Cond.code y_M_part b_M_part 2 (some .long) :: gw) ({ frames := 0, cells := 0, slots := 0, locals := 0 } : Room)).room.locals := Nat.le_refl _
  have hce : 0 ≤ (headSpec (Cond.code y_M_part b_M_part 2 (some .long) :: gw) ({ frames := 0, cells := 0, slots := 0, locals := 0 } : Room)).room.cells := Nat.zero_le _
  have hsl : 0 ≤ (headSpec (Cond.code y_M_part b_M_part 2 (some .long) :: gw) ({ frames := 0, cells := 0, slots := 0, locals := 0 } : Room)).room.slots := Nat.zero_le _
  have hl := lv_entry ([.ref (q 0), .int (nI pt)]) (n := 2) (Nat.le_of_ble_eq_true rfl)
  rw [lg_entry_eq]
  generalize (lg_sl ([.ref (q 0), .int (nI pt)]) ++ List.replicate (2 - (lg_sl ([.ref (q 0), .int (nI pt)])).length) Slot.unset).toArray = ls at hl ⊢
  have hl : lv_has ls 2 [(0, .ref (q 0)), (1, .int (nI pt))] := hl
  refine lv_iload_n hx hb d_M_part_0 rfl (lv_at hl 1 rfl) ?_
  refine nx_if_ne (tgt := 11) hx hb d_M_part_1 (by decide) (by omega) (fun h1 => ?_) (fun h1 => ?_)
  · refine lv_aload_n hx hb d_M_part_11 rfl (lv_at hl 0 rfl) ?_
    refine va_get (D := (dC, dI)) (ci := 6) (v := .long be) (C := R_M) (T := F_M) (N := 17) hx hb hts i_M hown hK hP 0 rfl rfl 11 (by decide) (hts _ k_488) (fun _ h9 => h9) rfl d_M_part_12 ?_
    exact W.lret hx hb hr (fun t ht hW => ⟨_, rfl, by rw [if_neg (by omega)], ht⟩) (fun q h => by cases h) d_M_part_15
  · refine lv_aload_n hx hb d_M_part_4 rfl (lv_at hl 0 rfl) ?_
    refine va_get (D := (dC, dI)) (ci := 6) (v := .long ab) (C := R_M) (T := F_M) (N := 17) hx hb hts i_M hown hK hP 0 rfl rfl 10 (by decide) (hts _ k_487) (fun _ h9 => h9) rfl d_M_part_5 ?_
    refine lv_goto (tgt := 15) hx hb d_M_part_8 (by decide) ?_
    exact W.lret hx hb hr (fun t ht hW => ⟨_, rfl, by rw [if_pos h1], ht⟩) (fun q h => by cases h) d_M_part_15
end
section
section
variable {p : Program} {l : Launch} {e : Env} {R : Room} {s : State} {m : MethodId} {args : Array Value} {below : List Frame} {meth : Method} {c : Code} {H : Heap} {locs : List Loc} {cells slots : Nat} {Q : State → Prop}
variable {dC : Nat → ClassId} {dI : Nat → Nat → Nat} {cI cL cT : ClassId} {sa : Nat → Nat}
set_option maxHeartbeats 4000000 in
set_option maxRecDepth 100000 in
theorem l_M_stopsOf (hF : CallFix p m c b_M_stopsOf 9 s args gw R_M) (hC : CT dC dI cI cL cT sa s) {q : Nat → Nat} {th : Int32} {F nt : Nat} {ab be : Int64} {pp : Nat → Nat} {fr to n U P : Nat} (hn : to + 1 = fr + n) (ht : to ≤ 12) (hU : ∀ k, k < n → pp (fr + k) ≤ U) (hU2 : U ≤ 200) (hP5 : P ≤ 5) (hfr : 1 ≤ R.frames) (hlo : 25 ≤ R.locals) (hce : cells ≤ R.cells) (hsl : slots ≤ R.slots) (hP : va_P (dC, dI) vwCl [(q 0, .inr (6, (mF q th F nt ab be))), (q 1, .inl (cI, 13, .inl (fun j => nI (pp j))))] H) (kend : ∀ ls : Array Slot, lv_has ls 9 [(0, .ref (q 0)), (1, .int (nI P)), (2, .int (nI fr)), (3, .int (nI to)), (4, .long (lN U)), (6, .long (lN (sp pp U P fr n))), (8, .int (nI (fr + n)))] → W p l e R s m args below meth c H locs cells slots Q (F0 m 54 ls [])) : ∀ j k : Nat, n - k < j → k ≤ n → ∀ ls : Array Slot, lv_has ls 9 [(0, .ref (q 0)), (1, .int (nI P)), (2, .int (nI fr)), (3, .int (nI to)), (4, .long (lN U)), (6, .long (lN (sp pp U P fr k))), (8, .int (nI (fr + k)))] → W p l e R s m args below meth c H locs cells slots Q (F0 m 15 ls []) := by
  obtain ⟨hx, hb, hml, hown, hts⟩ := id hF
  have hK := hC.1
  intro j
  induction j with
  | zero => intro k hj; omega
  | succ j ih =>
    intro k hj hk ls hl
    refine lv_iload hx hb d_M_stopsOf_15 (lv_at hl 6 rfl) ?_
    refine lv_iload_n hx hb d_M_stopsOf_17 rfl (lv_at hl 3 rfl) ?_
    refine nx_icmp_gt (tgt := 54) hx hb d_M_stopsOf_18 (by decide) (by omega) (by omega) (fun h => ?_) (fun h => ?_)
    · have hke : k = n := by omega
      subst hke
      exact kend ls hl
    · have hpk := hU k (by omega)
      refine lv_lload hx hb d_M_stopsOf_21 (lv_at hl 5 rfl) ?_
      refine lv_lload hx hb d_M_stopsOf_23 (lv_at hl 4 rfl) ?_
      refine lv_iload_n hx hb d_M_stopsOf_25 rfl (lv_at hl 1 rfl) ?_
      refine ro_calll (va_runS (As := [.long (lN U), .int (nI P)]) (rest := [.long (lN (sp pp U P fr k))]) ⟨hx, hb, hml, hown, hts⟩ (c_M_power l U P hP5) (cwS 2 hts (gw_S k_571 k_569 k_570 k_6) rfl rfl rfl (by decide +kernel) ⟨Nat.le_trans (Nat.le_of_ble_eq_true rfl) hfr, Nat.le_trans (Nat.le_of_ble_eq_true rfl) hlo⟩) ⟨pr_blind, pr_at hC (fun k q h => by simp at h)⟩ rfl rfl hl.1 rfl (lv_room (Nat.le_of_ble_eq_true rfl)) d_M_stopsOf_26 ⟨hce, hsl⟩) (fun r9 h9 => ?_)
      subst h9
      refine nx_ladd hx hb d_M_stopsOf_29 ?_
      refine lv_lload hx hb d_M_stopsOf_30 (lv_at hl 4 rfl) ?_
      refine lv_aload_n hx hb d_M_stopsOf_32 rfl (lv_at hl 0 rfl) ?_
      refine va_get (D := (dC, dI)) (ci := 6) (v := .ref (q 1)) (C := R_M) (T := F_M) (N := 17) hx hb hts i_M hown hK hP 0 rfl rfl 1 (by decide) (hts _ k_478) (fun _ h9 => h9) rfl d_M_stopsOf_33 ?_
      refine lv_iload hx hb d_M_stopsOf_36 (lv_at hl 6 rfl) ?_
      refine nx_iald hx hb hK hP 1 0 rfl rfl (k := fr + k) (v := nI (pp (fr + k))) (by omega) (by decide) rfl d_M_stopsOf_38 ?_
      refine nx_i2l hx hb d_M_stopsOf_39 (by omega) ?_
      refine nx_lsub hx hb d_M_stopsOf_40 (by omega) ?_
      refine lv_iload_n hx hb d_M_stopsOf_41 rfl (lv_at hl 1 rfl) ?_
      refine ro_calll (va_runS (As := [.long (lN (U - (pp (fr + k)))), .int (nI P)]) (rest := [.long (lN ((sp pp U P fr k) + (U ^ P)))]) ⟨hx, hb, hml, hown, hts⟩ (c_M_power l (U - pp (fr + k)) P hP5) (cwS 2 hts (gw_S k_571 k_569 k_570 k_6) rfl rfl rfl (by decide +kernel) ⟨Nat.le_trans (Nat.le_of_ble_eq_true rfl) hfr, Nat.le_trans (Nat.le_of_ble_eq_true rfl) hlo⟩) ⟨pr_blind, pr_at hC (fun k q h => by simp at h)⟩ rfl rfl hl.1 rfl (lv_room (Nat.le_of_ble_eq_true rfl)) d_M_stopsOf_42 ⟨hce, hsl⟩) (fun r9 h9 => ?_)
      subst h9
      have hle : (U - pp (fr + k)) ^ P ≤ U ^ P := Nat.pow_le_pow_left (Nat.sub_le _ _) _
      refine nx_lsub hx hb d_M_stopsOf_45 (by omega) ?_
      refine lv_lstore (lv' := [(6, .long (lN (((sp pp U P fr k) + (U ^ P)) - ((U - pp (fr + k)) ^ P)))), (0, .ref (q 0)), (1, .int (nI P)), (2, .int (nI fr)), (3, .int (nI to)), (4, .long (lN U)), (8, .int (nI (fr + k)))]) hx hb d_M_stopsOf_46 hl (by decide) rfl (fun ls hl => ?_)
      rw [Nat.add_sub_assoc hle] at hl
      refine nx_inc (lv' := [(8, .int (nI (fr + k + 1))), (6, .long (lN (sp pp U P fr k + (U ^ P - (U - pp (fr + k)) ^ P)))), (0, .ref (q 0)), (1, .int (nI P)), (2, .int (nI fr)), (3, .int (nI to)), (4, .long (lN U))]) hx hb d_M_stopsOf_48 hl (k := 6) rfl (by decide) rfl (fun ls hl => ?_)
      refine lv_goto (tgt := 15) hx hb d_M_stopsOf_51 (by decide) ?_
      exact ih (k + 1) (by omega) (by omega) ls (lv_sub hl [2, 3, 4, 5, 6, 1, 0] rfl)
end
set_option maxHeartbeats 4000000 in
set_option maxRecDepth 100000 in
theorem c_M_stopsOf (l : Launch) {dC : Nat → ClassId} {dI : Nat → Nat → Nat} {cI cL cT : ClassId} {sa : Nat → Nat} (q : Nat → Nat) (th : Int32) (F nt : Nat) (ab be : Int64) (pp : Nat → Nat) (fr to n P : Nat) (hn : to + 1 = fr + n) (ht : to ≤ 12) (hU2 : sm pp fr n ≤ 200) (hP5 : P ≤ 5) : Met l y_M_stopsOf (Cond.code y_M_stopsOf b_M_stopsOf 9 (some .long) :: gw) ({ frames := 1, cells := 0, slots := 0, locals := 25 } : Room) (pr dC dI cI cL cT sa [.ref (q 0), .int (nI P), .int (nI fr), .int (nI to)] [(q 0, .inr (6, (mF q th F nt ab be))), (q 1, .inl (cI, 13, .inl (fun j => nI (pp j))))]) (vp_Sl (fun r => r = lN (sp pp (sm pp fr n) P fr n))) 0 0 (fun _ => False) := by
  refine Met.ofW (cc := b_M_stopsOf) (maxL := 9) (ret := (some .long)) (by decide) rfl ?_
  intro p e s m args below meth c s₁ B hml hv
  obtain ⟨rfl, hC, hP⟩ := hv
  have hx := B.exec
  have hb := B.bytes
  have hr := B.returns
  have hts : ∀ w ∈ gw, w.before ([.ref (q 0), .int (nI P), .int (nI fr), .int (nI to)] : List Value).toArray s = true := fun w hw => atoms_spec (ws := Cond.code y_M_stopsOf b_M_stopsOf 9 (some .long) :: gw) B.pre w (List.mem_cons_of_mem _ hw)
  have hown : s.vm.findClass R_M = some m.cls := findClass_of_methodNamed B.named
  have hlocks := B.notSynchronized
  have hK := hC.1
  have hfr : 1 ≤ (headSpec (Cond.code y_M_stopsOf b_M_stopsOf 9 (some .long) :: gw) ({ frames := 1, cells := 0, slots := 0, locals := 25 } : Room)).room.frames := Nat.le_refl _
  have hlo : 25 ≤ (headSpec (Cond.code y_M_stopsOf b_M_stopsOf 9 (some .long) :: gw) ({ frames := 1, cells := 0, slots := 0, locals := 25 } : Room)).room.locals := Nat.le_refl _
  have hce : 0 ≤ (headSpec (Cond.code y_M_stopsOf b_M_stopsOf 9 (some .long) :: gw) ({ frames := 1, cells := 0, slots := 0, locals := 25 } : Room)).room.cells := Nat.zero_le _
  have hsl : 0 ≤ (headSpec (Cond.code y_M_stopsOf b_M_stopsOf 9 (some .long) :: gw) ({ frames := 1, cells := 0, slots := 0, locals := 25 } : Room)).room.slots := Nat.zero_le _
  have hl := lv_entry ([.ref (q 0), .int (nI P), .int (nI fr), .int (nI to)]) (n := 9) (Nat.le_of_ble_eq_true rfl)
  rw [lg_entry_eq]
  generalize (lg_sl ([.ref (q 0), .int (nI P), .int (nI fr), .int (nI to)]) ++ List.replicate (9 - (lg_sl ([.ref (q 0), .int (nI P), .int (nI fr), .int (nI to)])).length) Slot.unset).toArray = ls at hl ⊢
  have hl : lv_has ls 9 [(0, .ref (q 0)), (1, .int (nI P)), (2, .int (nI fr)), (3, .int (nI to))] := hl
  refine lv_aload_n hx hb d_M_stopsOf_0 rfl (lv_at hl 0 rfl) ?_
  refine lv_iload_n hx hb d_M_stopsOf_1 rfl (lv_at hl 2 rfl) ?_
  refine lv_iload_n hx hb d_M_stopsOf_2 rfl (lv_at hl 3 rfl) ?_
  refine ro_calli (va_runV (As := [.int (nI fr), .int (nI to)]) (rest := []) ⟨hx, hb, hml, hown, hts⟩ (c_M_zonePersons l q th F nt ab be pp fr to n hn ht) (cwV 2 hts (gw_V k_568 k_565 k_567 ks_M_zonePersons k_6) rfl rfl rfl (by decide +kernel) ⟨Nat.le_trans (Nat.le_of_ble_eq_true rfl) hfr, Nat.le_trans (Nat.le_of_ble_eq_true rfl) hlo⟩) ⟨pr_blind, va_recv hK hP (ci := 6) (q0 := 0) rfl rfl, pr_at hC (hP.sub (ws' := [(q 0, .inr (6, (mF q th F nt ab be))), (q 1, .inl (cI, 13, .inl (fun j => nI (pp j))))]) [0, 1] rfl)⟩ rfl rfl hl.1 rfl (lv_room (Nat.le_of_ble_eq_true rfl)) d_M_stopsOf_3 ⟨hce, hsl⟩) (fun r9 h9 => ?_)
  subst h9
  refine nx_i2l hx hb d_M_stopsOf_6 (by omega) ?_
  refine lv_lstore (lv' := [(4, .long (lN (sm pp fr n))), (0, .ref (q 0)), (1, .int (nI P)), (2, .int (nI fr)), (3, .int (nI to))]) hx hb d_M_stopsOf_7 hl (by decide) rfl (fun ls hl => ?_)
  refine lv_lconst (v := lN 0) hx hb d_M_stopsOf_9 (by decide) ?_
  refine lv_lstore (lv' := [(6, .long (lN 0)), (4, .long (lN (sm pp fr n))), (0, .ref (q 0)), (1, .int (nI P)), (2, .int (nI fr)), (3, .int (nI to))]) hx hb d_M_stopsOf_10 hl (by decide) rfl (fun ls hl => ?_)
  refine lv_iload_n hx hb d_M_stopsOf_12 rfl (lv_at hl 4 rfl) ?_
  refine lv_istore (lv' := [(8, .int (nI fr)), (6, .long (lN 0)), (4, .long (lN (sm pp fr n))), (0, .ref (q 0)), (1, .int (nI P)), (2, .int (nI fr)), (3, .int (nI to))]) hx hb d_M_stopsOf_13 hl (by decide) rfl (fun ls hl => ?_)
  refine l_M_stopsOf ⟨hx, hb, hml, hown, hts⟩ hC hn ht (fun k hk => sm_le hk) hU2 hP5 hfr hlo hce hsl hP (fun ls hl => ?_) (n + 1) 0 (by omega) (by omega) ls (lv_sub hl [3, 4, 5, 6, 2, 1, 0] rfl)
  refine lv_lload hx hb d_M_stopsOf_54 (lv_at hl 5 rfl) ?_
  exact W.lret hx hb hr (fun t ht hW => ⟨_, rfl, rfl, ht⟩) (fun q h => by cases h) d_M_stopsOf_56
section
variable {p : Program} {l : Launch} {e : Env} {R : Room} {s : State} {m : MethodId} {args : Array Value} {below : List Frame} {meth : Method} {c : Code} {H : Heap} {locs : List Loc} {cells slots : Nat} {Q : State → Prop}
variable {dC : Nat → ClassId} {dI : Nat → Nat → Nat} {cI cL cT : ClassId} {sa : Nat → Nat}
set_option maxHeartbeats 4000000 in
set_option maxRecDepth 100000 in
theorem l_M_highestOf (hF : CallFix p m c b_M_highestOf 11 s args gw R_M) (hC : CT dC dI cI cL cT sa s) {q : Nat → Nat} {th : Int32} {F nt : Nat} {ab be : Int64} {pp hh : Nat → Nat} {fr to n P : Nat} (hn : to + 1 = fr + n) (ht : to ≤ 12) (hpp : ∀ k, k < n → pp (fr + k) ≤ 200) (hhh : ∀ k, k < n → hh (fr + k) ≤ 1200) (hP5 : P ≤ 5) (hfr : 1 ≤ R.frames) (hlo : 25 ≤ R.locals) (hce : cells ≤ R.cells) (hsl : slots ≤ R.slots) (hP : va_P (dC, dI) vwCl [(q 0, .inr (6, (mF q th F nt ab be))), (q 1, .inl (cI, 13, .inl (fun j => nI (pp j)))), (q 2, .inl (cI, 13, .inl (fun j => nI (hh j))))] H) (kend : ∀ ls : Array Slot, lv_has ls 11 [(0, .ref (q 0)), (1, .int (nI P)), (2, .int (nI fr)), (3, .int (nI to)), (4, .long (lN (hp pp hh P fr n))), (6, .long (lN (sm pp fr n))), (8, .int (nI (fr + n)))] → W p l e R s m args below meth c H locs cells slots Q (F0 m 65 ls [])) : ∀ j k : Nat, n - k < j → k ≤ n → ∀ ls : Array Slot, lv_has ls 11 [(0, .ref (q 0)), (1, .int (nI P)), (2, .int (nI fr)), (3, .int (nI to)), (4, .long (lN (hp pp hh P fr k))), (6, .long (lN (sm pp fr k))), (8, .int (nI (fr + k)))] → W p l e R s m args below meth c H locs cells slots Q (F0 m 9 ls []) := by
  obtain ⟨hx, hb, hml, hown, hts⟩ := id hF
  have hK := hC.1
  intro j
  induction j with
  | zero => intro k hj; omega
  | succ j ih =>
    intro k hj hk ls hl
    refine lv_iload hx hb d_M_highestOf_9 (lv_at hl 6 rfl) ?_
    refine lv_iload_n hx hb d_M_highestOf_11 rfl (lv_at hl 3 rfl) ?_
    refine nx_icmp_gt (tgt := 65) hx hb d_M_highestOf_12 (by decide) (by omega) (by omega) (fun h => ?_) (fun h => ?_)
    · have hke : k = n := by omega
      subst hke
      exact kend ls hl
    · have hpk := hpp k (by omega)
      have hhk := hhh k (by omega)
      refine lv_lload hx hb d_M_highestOf_15 (lv_at hl 5 rfl) ?_
      refine lv_aload_n hx hb d_M_highestOf_17 rfl (lv_at hl 0 rfl) ?_
      refine va_get (D := (dC, dI)) (ci := 6) (v := .ref (q 1)) (C := R_M) (T := F_M) (N := 17) hx hb hts i_M hown hK hP 0 rfl rfl 1 (by decide) (hts _ k_478) (fun _ h9 => h9) rfl d_M_highestOf_18 ?_
      refine lv_iload hx hb d_M_highestOf_21 (lv_at hl 6 rfl) ?_
      refine nx_iald hx hb hK hP 1 0 rfl rfl (k := fr + k) (v := nI (pp (fr + k))) (by omega) (by decide) rfl d_M_highestOf_23 ?_
      refine nx_i2l hx hb d_M_highestOf_24 (by omega) ?_
      refine nx_ladd hx hb d_M_highestOf_25 ?_
      refine lv_lstore (lv' := [(9, .long (lN ((sm pp fr k) + (pp (fr + k))))), (0, .ref (q 0)), (1, .int (nI P)), (2, .int (nI fr)), (3, .int (nI to)), (4, .long (lN (hp pp hh P fr k))), (6, .long (lN (sm pp fr k))), (8, .int (nI (fr + k)))]) hx hb d_M_highestOf_26 hl (by decide) rfl (fun ls hl => ?_)
      refine lv_lload hx hb d_M_highestOf_28 (lv_at hl 5 rfl) ?_
      refine lv_aload_n hx hb d_M_highestOf_30 rfl (lv_at hl 1 rfl) ?_
      refine va_get (D := (dC, dI)) (ci := 6) (v := .ref (q 2)) (C := R_M) (T := F_M) (N := 17) hx hb hts i_M hown hK hP 0 rfl rfl 2 (by decide) (hts _ k_479) (fun _ h9 => h9) rfl d_M_highestOf_31 ?_
      refine lv_iload hx hb d_M_highestOf_34 (lv_at hl 7 rfl) ?_
      refine nx_iald hx hb hK hP 2 0 rfl rfl (k := fr + k) (v := nI (hh (fr + k))) (by omega) (by decide) rfl d_M_highestOf_36 ?_
      refine nx_i2l hx hb d_M_highestOf_37 (by omega) ?_
      refine lv_lload hx hb d_M_highestOf_38 (lv_at hl 0 rfl) ?_
      refine lv_iload_n hx hb d_M_highestOf_40 rfl (lv_at hl 2 rfl) ?_
      refine ro_calll (va_runS (As := [.long (lN ((sm pp fr k) + (pp (fr + k)))), .int (nI P)]) (rest := [.long (lN (hh (fr + k))), .long (lN (hp pp hh P fr k))]) ⟨hx, hb, hml, hown, hts⟩ (c_M_power l (sm pp fr k + pp (fr + k)) P hP5) (cwS 2 hts (gw_S k_571 k_569 k_570 k_6) rfl rfl rfl (by decide +kernel) ⟨Nat.le_trans (Nat.le_of_ble_eq_true rfl) hfr, Nat.le_trans (Nat.le_of_ble_eq_true rfl) hlo⟩) ⟨pr_blind, pr_at hC (fun k q h => by simp at h)⟩ rfl rfl hl.1 rfl (lv_room (Nat.le_of_ble_eq_true rfl)) d_M_highestOf_41 ⟨hce, hsl⟩) (fun r9 h9 => ?_)
      subst h9
      refine lv_lload hx hb d_M_highestOf_44 (lv_at hl 6 rfl) ?_
      refine lv_iload_n hx hb d_M_highestOf_46 rfl (lv_at hl 2 rfl) ?_
      refine ro_calll (va_runS (As := [.long (lN (sm pp fr k)), .int (nI P)]) (rest := [.long (lN ((sm pp fr k + pp (fr + k)) ^ P)), .long (lN (hh (fr + k))), .long (lN (hp pp hh P fr k))]) ⟨hx, hb, hml, hown, hts⟩ (c_M_power l (sm pp fr k) P hP5) (cwS 2 hts (gw_S k_571 k_569 k_570 k_6) rfl rfl rfl (by decide +kernel) ⟨Nat.le_trans (Nat.le_of_ble_eq_true rfl) hfr, Nat.le_trans (Nat.le_of_ble_eq_true rfl) hlo⟩) ⟨pr_blind, pr_at hC (fun k q h => by simp at h)⟩ rfl rfl hl.1 rfl (lv_room (Nat.le_of_ble_eq_true rfl)) d_M_highestOf_47 ⟨hce, hsl⟩) (fun r9 h9 => ?_)
      subst h9
      have hle : sm pp fr k ^ P ≤ (sm pp fr k + pp (fr + k)) ^ P := Nat.pow_le_pow_left (Nat.le_add_right _ _) _
      refine nx_lsub hx hb d_M_highestOf_50 hle ?_
      refine nx_lmul hx hb d_M_highestOf_51 ?_
      refine nx_ladd hx hb d_M_highestOf_52 ?_
      refine lv_lstore (lv' := [(4, .long (lN ((hp pp hh P fr k) + ((hh (fr + k)) * (((sm pp fr k + pp (fr + k)) ^ P) - (sm pp fr k ^ P)))))), (9, .long (lN ((sm pp fr k) + (pp (fr + k))))), (0, .ref (q 0)), (1, .int (nI P)), (2, .int (nI fr)), (3, .int (nI to)), (6, .long (lN (sm pp fr k))), (8, .int (nI (fr + k)))]) hx hb d_M_highestOf_53 hl (by decide) rfl (fun ls hl => ?_)
      refine lv_lload hx hb d_M_highestOf_55 (lv_at hl 1 rfl) ?_
      refine lv_lstore (lv' := [(6, .long (lN ((sm pp fr k) + (pp (fr + k))))), (4, .long (lN ((hp pp hh P fr k) + ((hh (fr + k)) * (((sm pp fr k + pp (fr + k)) ^ P) - (sm pp fr k ^ P)))))), (9, .long (lN ((sm pp fr k) + (pp (fr + k))))), (0, .ref (q 0)), (1, .int (nI P)), (2, .int (nI fr)), (3, .int (nI to)), (8, .int (nI (fr + k)))]) hx hb d_M_highestOf_57 hl (by decide) rfl (fun ls hl => ?_)
      refine nx_inc (lv' := [(8, .int (nI (fr + k + 1))), (6, .long (lN ((sm pp fr k) + (pp (fr + k))))), (4, .long (lN ((hp pp hh P fr k) + ((hh (fr + k)) * (((sm pp fr k + pp (fr + k)) ^ P) - (sm pp fr k ^ P)))))), (9, .long (lN ((sm pp fr k) + (pp (fr + k))))), (0, .ref (q 0)), (1, .int (nI P)), (2, .int (nI fr)), (3, .int (nI to))]) hx hb d_M_highestOf_59 hl (k := 7) rfl (by decide) rfl (fun ls hl => ?_)
      refine lv_goto (tgt := 9) hx hb d_M_highestOf_62 (by decide) ?_
      exact ih (k + 1) (by omega) (by omega) ls (lv_sub hl [4, 5, 6, 7, 2, 1, 0] rfl)
end
set_option maxHeartbeats 4000000 in
set_option maxRecDepth 100000 in
theorem c_M_highestOf (l : Launch) {dC : Nat → ClassId} {dI : Nat → Nat → Nat} {cI cL cT : ClassId} {sa : Nat → Nat} (q : Nat → Nat) (th : Int32) (F nt : Nat) (ab be : Int64) (pp hh : Nat → Nat) (fr to n P : Nat) (hn : to + 1 = fr + n) (ht : to ≤ 12) (hpp : ∀ k, k < n → pp (fr + k) ≤ 200) (hhh : ∀ k, k < n → hh (fr + k) ≤ 1200) (hP5 : P ≤ 5) : Met l y_M_highestOf (Cond.code y_M_highestOf b_M_highestOf 11 (some .long) :: gw) ({ frames := 1, cells := 0, slots := 0, locals := 25 } : Room) (pr dC dI cI cL cT sa [.ref (q 0), .int (nI P), .int (nI fr), .int (nI to)] [(q 0, .inr (6, (mF q th F nt ab be))), (q 1, .inl (cI, 13, .inl (fun j => nI (pp j)))), (q 2, .inl (cI, 13, .inl (fun j => nI (hh j))))]) (vp_Sl (fun r => r = lN (hp pp hh P fr n))) 0 0 (fun _ => False) := by
  refine Met.ofW (cc := b_M_highestOf) (maxL := 11) (ret := (some .long)) (by decide) rfl ?_
  intro p e s m args below meth c s₁ B hml hv
  obtain ⟨rfl, hC, hP⟩ := hv
  have hx := B.exec
  have hb := B.bytes
  have hr := B.returns
  have hts : ∀ w ∈ gw, w.before ([.ref (q 0), .int (nI P), .int (nI fr), .int (nI to)] : List Value).toArray s = true := fun w hw => atoms_spec (ws := Cond.code y_M_highestOf b_M_highestOf 11 (some .long) :: gw) B.pre w (List.mem_cons_of_mem _ hw)
  have hown : s.vm.findClass R_M = some m.cls := findClass_of_methodNamed B.named
  have hlocks := B.notSynchronized
  have hK := hC.1
  have hfr : 1 ≤ (headSpec (Cond.code y_M_highestOf b_M_highestOf 11 (some .long) :: gw) ({ frames := 1, cells := 0, slots := 0, locals := 25 } : Room)).room.frames := Nat.le_refl _
  have hlo : 25 ≤ (headSpec (Cond.code y_M_highestOf b_M_highestOf 11 (some .long) :: gw) ({ frames := 1, cells := 0, slots := 0, locals := 25 } : Room)).room.locals := Nat.le_refl _
  have hce : 0 ≤ (headSpec (Cond.code y_M_highestOf b_M_highestOf 11 (some .long) :: gw) ({ frames := 1, cells := 0, slots := 0, locals := 25 } : Room)).room.cells := Nat.zero_le _
  have hsl : 0 ≤ (headSpec (Cond.code y_M_highestOf b_M_highestOf 11 (some .long) :: gw) ({ frames := 1, cells := 0, slots := 0, locals := 25 } : Room)).room.slots := Nat.zero_le _
  have hl := lv_entry ([.ref (q 0), .int (nI P), .int (nI fr), .int (nI to)]) (n := 11) (Nat.le_of_ble_eq_true rfl)
  rw [lg_entry_eq]
  generalize (lg_sl ([.ref (q 0), .int (nI P), .int (nI fr), .int (nI to)]) ++ List.replicate (11 - (lg_sl ([.ref (q 0), .int (nI P), .int (nI fr), .int (nI to)])).length) Slot.unset).toArray = ls at hl ⊢
  have hl : lv_has ls 11 [(0, .ref (q 0)), (1, .int (nI P)), (2, .int (nI fr)), (3, .int (nI to))] := hl
  refine lv_lconst (v := lN 0) hx hb d_M_highestOf_0 (by decide) ?_
  refine lv_lstore (lv' := [(4, .long (lN 0)), (0, .ref (q 0)), (1, .int (nI P)), (2, .int (nI fr)), (3, .int (nI to))]) hx hb d_M_highestOf_1 hl (by decide) rfl (fun ls hl => ?_)
  refine lv_lconst (v := lN 0) hx hb d_M_highestOf_3 (by decide) ?_
  refine lv_lstore (lv' := [(6, .long (lN 0)), (4, .long (lN 0)), (0, .ref (q 0)), (1, .int (nI P)), (2, .int (nI fr)), (3, .int (nI to))]) hx hb d_M_highestOf_4 hl (by decide) rfl (fun ls hl => ?_)
  refine lv_iload_n hx hb d_M_highestOf_6 rfl (lv_at hl 4 rfl) ?_
  refine lv_istore (lv' := [(8, .int (nI fr)), (6, .long (lN 0)), (4, .long (lN 0)), (0, .ref (q 0)), (1, .int (nI P)), (2, .int (nI fr)), (3, .int (nI to))]) hx hb d_M_highestOf_7 hl (by decide) rfl (fun ls hl => ?_)
  refine l_M_highestOf ⟨hx, hb, hml, hown, hts⟩ hC hn ht hpp hhh hP5 hfr hlo hce hsl hP (fun ls hl => ?_) (n + 1) 0 (by omega) (by omega) ls (lv_sub hl [3, 4, 5, 6, 2, 1, 0] rfl)
  refine lv_lload hx hb d_M_highestOf_65 (lv_at hl 4 rfl) ?_
  exact W.lret hx hb hr (fun t ht hW => ⟨_, rfl, rfl, ht⟩) (fun q h => by cases h) d_M_highestOf_67
end
section
/-! SIGNS: -1, 0, 1 as ints. -/
def kI (x : Int) : Int32 := Int32.ofInt x
theorem kI_neg {x : Int} (h : x = 1 ∨ x = -1) : -(kI x) = kI (-x) := by rcases h with rfl | rfl <;> decide
theorem kI_0 : kI 0 = nI 0 := by decide
theorem kI_1 : kI 1 = nI 1 := by decide
theorem pm_neg {x : Int} (h : x = 1 ∨ x = -1) : -x = 1 ∨ -x = -1 := by omega
/-- the reference's way with two fractions: what one turn of it answers, or leaves to the next one -/
theorem ma_zero0 {a b c d : Nat} (h : a / b = c / d) (he : a % b = 0) (hf : c % d = 0) : ma_cmp (a * d) (c * b) = 0 := by
  have := ma_cmp_turn h
  rw [he, hf, ma_cmp_eq (by rw [Nat.mul_zero, Nat.mul_zero])] at this
  omega
theorem ma_zero1 {a b c d : Nat} (hb : 0 < b) (h : a / b = c / d) (he : a % b = 0) (hf : c % d ≠ 0) : ma_cmp (a * d) (c * b) = -1 := by
  have := ma_cmp_turn h
  rw [he, ma_cmp_gt (by rw [Nat.mul_zero]; exact Nat.mul_pos hb (Nat.pos_of_ne_zero hf))] at this
  omega
theorem ma_zero2 {a b c d : Nat} (hd : 0 < d) (h : a / b = c / d) (he : a % b ≠ 0) (hf : c % d = 0) : ma_cmp (a * d) (c * b) = 1 := by
  have := ma_cmp_turn h
  rw [hf, ma_cmp_lt (by rw [Nat.mul_zero]; exact Nat.mul_pos hd (Nat.pos_of_ne_zero he))] at this
  omega
theorem ma_sub_mod {a b : Nat} : a - a / b * b = a % b := by
  have := Nat.div_add_mod a b
  rw [Nat.mul_comm] at this
  omega
end
section
section
variable {p : Program} {l : Launch} {e : Env} {R : Room} {s : State} {m : MethodId} {args : Array Value} {below : List Frame} {meth : Method} {c : Code} {H : Heap} {locs : List Loc} {cells slots : Nat} {Q : State → Prop}
set_option maxHeartbeats 4000000 in
set_option maxRecDepth 100000 in
theorem l_T_oof_end (hF : CallFix p m c b_T_orderOfFractions 26 s args gw R_T) {a b cx d i : Nat} {z X : Int} (hb6 : b < 2 ^ 63) (hd6 : d < 2 ^ 63) (hz : z = 1 ∨ z = -1) (hX : (if b = 0 then (if d = 0 then 0 else z) else -z) = X) (k79 : ∀ ls : Array Slot, W p l e R s m args below meth c H locs cells slots Q (F0 m 79 ls [.int (kI X)])) (k147 : ∀ ls : Array Slot, W p l e R s m args below meth c H locs cells slots Q (F0 m 147 ls [.int (kI X)])) (k151 : ∀ ls : Array Slot, W p l e R s m args below meth c H locs cells slots Q (F0 m 151 ls [.int (kI X)])) : ∀ ls : Array Slot, lv_has ls 26 [(8, .long (lN a)), (10, .long (lN b)), (12, .long (lN cx)), (14, .long (lN d)), (16, .int (kI z)), (17, .int (nI i))] → W p l e R s m args below meth c H locs cells slots Q (F0 m 127 ls []) := by
  obtain ⟨hx, hb, hml, hown, hts⟩ := id hF
  intro ls hl
  refine lv_lload hx hb d_T_orderOfFractions_127 (lv_at hl 1 rfl) ?_
  refine lv_lconst (v := lN 0) hx hb d_T_orderOfFractions_129 (by decide) ?_
  refine nx_lcn_ne (tgt := 148) hx hb d_T_orderOfFractions_130 d_T_orderOfFractions_131 (by decide) (by omega) (by decide) (fun h1 => ?_) (fun h1 => ?_)
  · refine lv_iload hx hb d_T_orderOfFractions_148 (lv_at hl 4 rfl) ?_
    refine lv_ineg hx hb d_T_orderOfFractions_150 ?_
    rw [kI_neg hz]
    rw [if_neg h1] at hX
    rw [hX]
    exact k151 ls
  · rw [if_pos h1] at hX
    refine lv_lload hx hb d_T_orderOfFractions_134 (lv_at hl 3 rfl) ?_
    refine lv_lconst (v := lN 0) hx hb d_T_orderOfFractions_136 (by decide) ?_
    refine nx_lcn_ne (tgt := 145) hx hb d_T_orderOfFractions_137 d_T_orderOfFractions_138 (by decide) (by omega) (by decide) (fun h2 => ?_) (fun h2 => ?_)
    · rw [if_neg h2] at hX
      subst hX
      refine lv_iload hx hb d_T_orderOfFractions_145 (lv_at hl 4 rfl) ?_
      exact k147 ls
    · rw [if_pos h2] at hX
      subst hX
      refine lv_iconst (v := nI 0) hx hb d_T_orderOfFractions_141 (by decide) ?_
      refine lv_goto (tgt := 147) hx hb d_T_orderOfFractions_142 (by decide) ?_
      exact k147 ls
set_option maxHeartbeats 4000000 in
set_option maxRecDepth 100000 in
theorem l_T_oof (hF : CallFix p m c b_T_orderOfFractions 26 s args gw R_T) {X : Int} (k79 : ∀ ls : Array Slot, W p l e R s m args below meth c H locs cells slots Q (F0 m 79 ls [.int (kI X)])) (k147 : ∀ ls : Array Slot, W p l e R s m args below meth c H locs cells slots Q (F0 m 147 ls [.int (kI X)])) (k151 : ∀ ls : Array Slot, W p l e R s m args below meth c H locs cells slots Q (F0 m 151 ls [.int (kI X)])) : ∀ (n i a b cx d : Nat) (z : Int), i + n = 100 → a < 2 ^ 63 → b < 2 ^ 63 → cx < 2 ^ 63 → d < 2 ^ 63 → (z = 1 ∨ z = -1) → ma_oo n a b cx d z = X → ∀ ls : Array Slot, lv_has ls 26 [(8, .long (lN a)), (10, .long (lN b)), (12, .long (lN cx)), (14, .long (lN d)), (16, .int (kI z)), (17, .int (nI i))] → W p l e R s m args below meth c H locs cells slots Q (F0 m 20 ls []) := by
  obtain ⟨hx, hb, hml, hown, hts⟩ := id hF
  intro n
  induction n with
  | zero =>
    intro i a b cx d z hi ha6 hb6 hc6 hd6 hz hX ls hl
    refine lv_iload hx hb d_T_orderOfFractions_20 (lv_at hl 5 rfl) ?_
    refine lv_bipush (v := nI 100) hx hb d_T_orderOfFractions_22 (by decide) ?_
    refine nx_icmp_ge (tgt := 127) hx hb d_T_orderOfFractions_24 (by decide) (by omega) (by omega) (fun h => ?_) (fun h => ?_)
    · exact l_T_oof_end hF hb6 hd6 hz hX k79 k147 k151 ls hl
    · exact absurd h (by omega)
  | succ n ih =>
    intro i a b cx d z hi ha6 hb6 hc6 hd6 hz hX ls hl
    rw [ma_oo] at hX
    refine lv_iload hx hb d_T_orderOfFractions_20 (lv_at hl 5 rfl) ?_
    refine lv_bipush (v := nI 100) hx hb d_T_orderOfFractions_22 (by decide) ?_
    refine nx_icmp_ge (tgt := 127) hx hb d_T_orderOfFractions_24 (by decide) (by omega) (by omega) (fun h => ?_) (fun h => ?_)
    · exact absurd h (by omega)
    · refine lv_lload hx hb d_T_orderOfFractions_27 (lv_at hl 1 rfl) ?_
      refine lv_lconst (v := lN 0) hx hb d_T_orderOfFractions_29 (by decide) ?_
      refine nx_lcn_eq (tgt := 127) hx hb d_T_orderOfFractions_30 d_T_orderOfFractions_31 (by decide) (by omega) (by decide) (fun h1 => ?_) (fun h1 => ?_)
      · rw [if_pos (Or.inl h1)] at hX
        exact l_T_oof_end hF hb6 hd6 hz hX k79 k147 k151 ls hl
      · refine lv_lload hx hb d_T_orderOfFractions_34 (lv_at hl 3 rfl) ?_
        refine lv_lconst (v := lN 0) hx hb d_T_orderOfFractions_36 (by decide) ?_
        refine nx_lcn_eq (tgt := 127) hx hb d_T_orderOfFractions_37 d_T_orderOfFractions_38 (by decide) (by omega) (by decide) (fun h2 => ?_) (fun h2 => ?_)
        · rw [if_pos (Or.inr h2)] at hX
          exact l_T_oof_end hF hb6 hd6 hz hX k79 k147 k151 ls hl
        · rw [if_neg (by omega)] at hX
          have q1 : a / b < 2 ^ 63 := Nat.lt_of_le_of_lt (Nat.div_le_self a b) ha6
          have q2 : cx / d < 2 ^ 63 := Nat.lt_of_le_of_lt (Nat.div_le_self cx d) hc6
          refine lv_lload hx hb d_T_orderOfFractions_41 (lv_at hl 0 rfl) ?_
          refine lv_lload hx hb d_T_orderOfFractions_43 (lv_at hl 1 rfl) ?_
          refine nx_ldiv hx hb d_T_orderOfFractions_45 ha6 (by omega) hb6 ?_
          refine lv_lstore (lv' := [(18, .long (lN (a / b))), (8, .long (lN a)), (10, .long (lN b)), (12, .long (lN cx)), (14, .long (lN d)), (16, .int (kI z)), (17, .int (nI i))]) hx hb d_T_orderOfFractions_46 hl (by decide) rfl (fun ls hl => ?_)
          refine lv_lload hx hb d_T_orderOfFractions_48 (lv_at hl 3 rfl) ?_
          refine lv_lload hx hb d_T_orderOfFractions_50 (lv_at hl 4 rfl) ?_
          refine nx_ldiv hx hb d_T_orderOfFractions_52 hc6 (by omega) hd6 ?_
          refine lv_lstore (lv' := [(20, .long (lN (cx / d))), (18, .long (lN (a / b))), (8, .long (lN a)), (10, .long (lN b)), (12, .long (lN cx)), (14, .long (lN d)), (16, .int (kI z)), (17, .int (nI i))]) hx hb d_T_orderOfFractions_53 hl (by decide) rfl (fun ls hl => ?_)
          refine lv_lload hx hb d_T_orderOfFractions_55 (lv_at hl 1 rfl) ?_
          refine lv_lload hx hb d_T_orderOfFractions_57 (lv_at hl 0 rfl) ?_
          refine nx_lcn_eq (tgt := 80) hx hb d_T_orderOfFractions_59 d_T_orderOfFractions_60 (by decide) q1 q2 (fun h3 => ?_) (fun h3 => ?_)
          · rw [if_pos h3] at hX
            refine lv_lload hx hb d_T_orderOfFractions_80 (lv_at hl 2 rfl) ?_
            refine lv_lload hx hb d_T_orderOfFractions_82 (lv_at hl 1 rfl) ?_
            refine lv_lload hx hb d_T_orderOfFractions_84 (lv_at hl 3 rfl) ?_
            refine nx_lmul hx hb d_T_orderOfFractions_86 ?_
            refine nx_lsub hx hb d_T_orderOfFractions_87 (Nat.div_mul_le_self a b) ?_
            refine lv_lstore (lv' := [(22, .long (lN (a - ((a / b) * b)))), (20, .long (lN (cx / d))), (18, .long (lN (a / b))), (8, .long (lN a)), (10, .long (lN b)), (12, .long (lN cx)), (14, .long (lN d)), (16, .int (kI z)), (17, .int (nI i))]) hx hb d_T_orderOfFractions_88 hl (by decide) rfl (fun ls hl => ?_)
            rw [ma_sub_mod] at hl
            refine lv_lload hx hb d_T_orderOfFractions_90 (lv_at hl 5 rfl) ?_
            refine lv_lload hx hb d_T_orderOfFractions_92 (lv_at hl 1 rfl) ?_
            refine lv_lload hx hb d_T_orderOfFractions_94 (lv_at hl 6 rfl) ?_
            refine nx_lmul hx hb d_T_orderOfFractions_96 ?_
            refine nx_lsub hx hb d_T_orderOfFractions_97 (Nat.div_mul_le_self cx d) ?_
            refine lv_lstore (lv' := [(24, .long (lN (cx - ((cx / d) * d)))), (22, .long (lN (a % b))), (20, .long (lN (cx / d))), (18, .long (lN (a / b))), (8, .long (lN a)), (10, .long (lN b)), (12, .long (lN cx)), (14, .long (lN d)), (16, .int (kI z)), (17, .int (nI i))]) hx hb d_T_orderOfFractions_98 hl (by decide) rfl (fun ls hl => ?_)
            rw [ma_sub_mod] at hl
            refine lv_lload hx hb d_T_orderOfFractions_100 (lv_at hl 5 rfl) ?_
            refine lv_lstore (lv' := [(8, .long (lN b)), (24, .long (lN (cx % d))), (22, .long (lN (a % b))), (20, .long (lN (cx / d))), (18, .long (lN (a / b))), (10, .long (lN b)), (12, .long (lN cx)), (14, .long (lN d)), (16, .int (kI z)), (17, .int (nI i))]) hx hb d_T_orderOfFractions_102 hl (by decide) rfl (fun ls hl => ?_)
            refine lv_lload hx hb d_T_orderOfFractions_104 (lv_at hl 2 rfl) ?_
            refine lv_lstore (lv' := [(10, .long (lN (a % b))), (8, .long (lN b)), (24, .long (lN (cx % d))), (22, .long (lN (a % b))), (20, .long (lN (cx / d))), (18, .long (lN (a / b))), (12, .long (lN cx)), (14, .long (lN d)), (16, .int (kI z)), (17, .int (nI i))]) hx hb d_T_orderOfFractions_106 hl (by decide) rfl (fun ls hl => ?_)
            refine lv_lload hx hb d_T_orderOfFractions_108 (lv_at hl 7 rfl) ?_
            refine lv_lstore (lv' := [(12, .long (lN d)), (10, .long (lN (a % b))), (8, .long (lN b)), (24, .long (lN (cx % d))), (22, .long (lN (a % b))), (20, .long (lN (cx / d))), (18, .long (lN (a / b))), (14, .long (lN d)), (16, .int (kI z)), (17, .int (nI i))]) hx hb d_T_orderOfFractions_110 hl (by decide) rfl (fun ls hl => ?_)
            refine lv_lload hx hb d_T_orderOfFractions_112 (lv_at hl 3 rfl) ?_
            refine lv_lstore (lv' := [(14, .long (lN (cx % d))), (12, .long (lN d)), (10, .long (lN (a % b))), (8, .long (lN b)), (24, .long (lN (cx % d))), (22, .long (lN (a % b))), (20, .long (lN (cx / d))), (18, .long (lN (a / b))), (16, .int (kI z)), (17, .int (nI i))]) hx hb d_T_orderOfFractions_114 hl (by decide) rfl (fun ls hl => ?_)
            refine lv_iload hx hb d_T_orderOfFractions_116 (lv_at hl 8 rfl) ?_
            refine lv_ineg hx hb d_T_orderOfFractions_118 ?_
            rw [kI_neg hz]
            refine lv_istore (lv' := [(16, .int (kI (-z))), (14, .long (lN (cx % d))), (12, .long (lN d)), (10, .long (lN (a % b))), (8, .long (lN b)), (24, .long (lN (cx % d))), (22, .long (lN (a % b))), (20, .long (lN (cx / d))), (18, .long (lN (a / b))), (17, .int (nI i))]) hx hb d_T_orderOfFractions_119 hl (by decide) rfl (fun ls hl => ?_)
            refine nx_inc (lv' := [(17, .int (nI (i + 1))), (16, .int (kI (-z))), (14, .long (lN (cx % d))), (12, .long (lN d)), (10, .long (lN (a % b))), (8, .long (lN b)), (24, .long (lN (cx % d))), (22, .long (lN (a % b))), (20, .long (lN (cx / d))), (18, .long (lN (a / b)))]) hx hb d_T_orderOfFractions_121 hl (k := 9) rfl (by decide) rfl (fun ls hl => ?_)
            refine lv_goto (tgt := 20) hx hb d_T_orderOfFractions_124 (by decide) ?_
            have r1 := Nat.mod_lt a (Nat.pos_of_ne_zero h1)
            have r2 := Nat.mod_lt cx (Nat.pos_of_ne_zero h2)
            exact ih (i + 1) b (a % b) d (cx % d) (-z) (by omega) hb6 (by omega) hd6 (by omega) (pm_neg hz) hX ls (lv_sub hl [5, 4, 3, 2, 1, 0] rfl)
          · rw [if_neg h3] at hX
            refine lv_lload hx hb d_T_orderOfFractions_63 (lv_at hl 1 rfl) ?_
            refine lv_lload hx hb d_T_orderOfFractions_65 (lv_at hl 0 rfl) ?_
            refine nx_lcn_ge (tgt := 77) hx hb d_T_orderOfFractions_67 d_T_orderOfFractions_68 (by decide) q1 q2 (fun h4 => ?_) (fun h4 => ?_)
            · rw [if_neg (by omega)] at hX
              subst hX
              refine lv_iload hx hb d_T_orderOfFractions_77 (lv_at hl 6 rfl) ?_
              exact k79 ls
            · rw [if_pos h4] at hX
              subst hX
              refine lv_iload hx hb d_T_orderOfFractions_71 (lv_at hl 6 rfl) ?_
              refine lv_ineg hx hb d_T_orderOfFractions_73 ?_
              rw [kI_neg hz]
              refine lv_goto (tgt := 79) hx hb d_T_orderOfFractions_74 (by decide) ?_
              exact k79 ls
end
set_option maxHeartbeats 4000000 in
set_option maxRecDepth 100000 in
theorem c_T_orderOfFractions (l : Launch) {dC : Nat → ClassId} {dI : Nat → Nat → Nat} {cI cL cT : ClassId} {sa : Nat → Nat} (a0 b0 c0 d0 : Nat) (ha6 : a0 < 2 ^ 63) (hb6 : b0 < 2 ^ 50) (hc6 : c0 < 2 ^ 63) (hd6 : d0 < 2 ^ 50) (hb1 : 0 < b0) (hd1 : 0 < d0) : Met l y_T_orderOfFractions (Cond.code y_T_orderOfFractions b_T_orderOfFractions 26 (some .int) :: gw) ({ frames := 0, cells := 0, slots := 0, locals := 0 } : Room) (pr dC dI cI cL cT sa [.long (lN a0), .long (lN b0), .long (lN c0), .long (lN d0)] []) (vp_Si (fun r => r = kI (ma_cmp (a0 * d0) (c0 * b0)))) 0 0 (fun _ => False) := by
  refine Met.ofW (cc := b_T_orderOfFractions) (maxL := 26) (ret := (some .int)) (by decide) rfl ?_
  intro p e s m args below meth c s₁ B hml hv
  obtain ⟨rfl, hC, hP⟩ := hv
  have hx := B.exec
  have hb := B.bytes
  have hr := B.returns
  have hts : ∀ w ∈ gw, w.before ([.long (lN a0), .long (lN b0), .long (lN c0), .long (lN d0)] : List Value).toArray s = true := fun w hw => atoms_spec (ws := Cond.code y_T_orderOfFractions b_T_orderOfFractions 26 (some .int) :: gw) B.pre w (List.mem_cons_of_mem _ hw)
  have hown : s.vm.findClass R_T = some m.cls := findClass_of_methodNamed B.named
  have hlocks := B.notSynchronized
  have hK := hC.1
  have hfr : 0 ≤ (headSpec (Cond.code y_T_orderOfFractions b_T_orderOfFractions 26 (some .int) :: gw) ({ frames := 0, cells := 0, slots := 0, locals := 0 } : Room)).room.frames := Nat.le_refl _
  have hlo : 0 ≤ (headSpec (Cond.code y_T_orderOfFractions b_T_orderOfFractions 26 (some .int) :: gw) ({ frames := 0, cells := 0, slots := 0, locals := 0 } : Room)).room.locals := Nat.le_refl _
  have hce : 0 ≤ (headSpec (Cond.code y_T_orderOfFractions b_T_orderOfFractions 26 (some .int) :: gw) ({ frames := 0, cells := 0, slots := 0, locals := 0 } : Room)).room.cells := Nat.zero_le _
  have hsl : 0 ≤ (headSpec (Cond.code y_T_orderOfFractions b_T_orderOfFractions 26 (some .int) :: gw) ({ frames := 0, cells := 0, slots := 0, locals := 0 } : Room)).room.slots := Nat.zero_le _
  have hl := lv_entry ([.long (lN a0), .long (lN b0), .long (lN c0), .long (lN d0)]) (n := 26) (Nat.le_of_ble_eq_true rfl)
  rw [lg_entry_eq]
  generalize (lg_sl ([.long (lN a0), .long (lN b0), .long (lN c0), .long (lN d0)]) ++ List.replicate (26 - (lg_sl ([.long (lN a0), .long (lN b0), .long (lN c0), .long (lN d0)])).length) Slot.unset).toArray = ls at hl ⊢
  have hl : lv_has ls 26 [(0, .long (lN a0)), (2, .long (lN b0)), (4, .long (lN c0)), (6, .long (lN d0))] := hl
  refine lv_lload_n hx hb d_T_orderOfFractions_0 rfl (lv_at hl 0 rfl) ?_
  refine lv_lstore (lv' := [(8, .long (lN a0)), (0, .long (lN a0)), (2, .long (lN b0)), (4, .long (lN c0)), (6, .long (lN d0))]) hx hb d_T_orderOfFractions_1 hl (by decide) rfl (fun ls hl => ?_)
  refine lv_lload_n hx hb d_T_orderOfFractions_3 rfl (lv_at hl 2 rfl) ?_
  refine lv_lstore (lv' := [(10, .long (lN b0)), (8, .long (lN a0)), (0, .long (lN a0)), (2, .long (lN b0)), (4, .long (lN c0)), (6, .long (lN d0))]) hx hb d_T_orderOfFractions_4 hl (by decide) rfl (fun ls hl => ?_)
  refine lv_lload hx hb d_T_orderOfFractions_6 (lv_at hl 4 rfl) ?_
  refine lv_lstore (lv' := [(12, .long (lN c0)), (10, .long (lN b0)), (8, .long (lN a0)), (0, .long (lN a0)), (2, .long (lN b0)), (4, .long (lN c0)), (6, .long (lN d0))]) hx hb d_T_orderOfFractions_8 hl (by decide) rfl (fun ls hl => ?_)
  refine lv_lload hx hb d_T_orderOfFractions_10 (lv_at hl 6 rfl) ?_
  refine lv_lstore (lv' := [(14, .long (lN d0)), (12, .long (lN c0)), (10, .long (lN b0)), (8, .long (lN a0)), (0, .long (lN a0)), (2, .long (lN b0)), (4, .long (lN c0)), (6, .long (lN d0))]) hx hb d_T_orderOfFractions_12 hl (by decide) rfl (fun ls hl => ?_)
  refine lv_iconst (v := nI 1) hx hb d_T_orderOfFractions_14 (by decide) ?_
  rw [← kI_1]
  refine lv_istore (lv' := [(16, .int (kI 1)), (14, .long (lN d0)), (12, .long (lN c0)), (10, .long (lN b0)), (8, .long (lN a0)), (0, .long (lN a0)), (2, .long (lN b0)), (4, .long (lN c0)), (6, .long (lN d0))]) hx hb d_T_orderOfFractions_15 hl (by decide) rfl (fun ls hl => ?_)
  refine lv_iconst (v := nI 0) hx hb d_T_orderOfFractions_17 (by decide) ?_
  refine lv_istore (lv' := [(17, .int (nI 0)), (16, .int (kI 1)), (14, .long (lN d0)), (12, .long (lN c0)), (10, .long (lN b0)), (8, .long (lN a0)), (0, .long (lN a0)), (2, .long (lN b0)), (4, .long (lN c0)), (6, .long (lN d0))]) hx hb d_T_orderOfFractions_18 hl (by decide) rfl (fun ls hl => ?_)
  have hX : ma_oo 100 a0 b0 c0 d0 1 = ma_cmp (a0 * d0) (c0 * b0) := by rw [ma_oo_cmp 100 a0 b0 c0 d0 1 (ma_ok_of hb6 (by decide)) (by omega) (by omega), Int.one_mul]
  refine l_T_oof ⟨hx, hb, hml, hown, hts⟩ (fun ls => ?_) (fun ls => ?_) (fun ls => ?_) 100 0 a0 b0 c0 d0 1 (by omega) ha6 (by omega) hc6 (by omega) (Or.inl rfl) hX ls (lv_sub hl [5, 4, 3, 2, 1, 0] rfl)
  · exact W.iret hx hb hr (fun t ht hW => ⟨_, rfl, rfl, ht⟩) (fun q h => by cases h) d_T_orderOfFractions_79
  · exact W.iret hx hb hr (fun t ht hW => ⟨_, rfl, rfl, ht⟩) (fun q h => by cases h) d_T_orderOfFractions_147
  · exact W.iret hx hb hr (fun t ht hW => ⟨_, rfl, rfl, ht⟩) (fun q h => by cases h) d_T_orderOfFractions_151
end
section
section
variable {p : Program} {l : Launch} {e : Env} {R : Room} {s : State} {m : MethodId} {args : Array Value} {below : List Frame} {meth : Method} {c : Code} {H : Heap} {locs : List Loc} {cells slots : Nat} {Q : State → Prop}
set_option maxHeartbeats 4000000 in
set_option maxRecDepth 100000 in
theorem l_M_order (hF : CallFix p m c b_M_order 21 s args gw R_M) {X : Int} (k86 : ∀ ls : Array Slot, W p l e R s m args below meth c H locs cells slots Q (F0 m 86 ls [.int (kI X)])) (k133 : ∀ ls : Array Slot, W p l e R s m args below meth c H locs cells slots Q (F0 m 133 ls [.int (kI X)])) : ∀ (n a b cx d : Nat) (z : Int), b < n → a < 2 ^ 63 → b < 2 ^ 63 → cx < 2 ^ 63 → d < 2 ^ 63 → 0 < b → 0 < d → (z = 1 ∨ z = -1) → z * ma_cmp (a * d) (cx * b) = X → ∀ ls : Array Slot, lv_has ls 21 [(8, .long (lN a)), (10, .long (lN b)), (12, .long (lN cx)), (14, .long (lN d)), (16, .int (kI z))] → W p l e R s m args below meth c H locs cells slots Q (F0 m 17 ls []) := by
  obtain ⟨hx, hb, hml, hown, hts⟩ := id hF
  intro n
  induction n with
  | zero => intro a b cx d z hn; omega
  | succ n ih =>
    intro a b cx d z hn ha6 hb6 hc6 hd6 hb0 hd0 hz hX ls hl
    have q1 : a / b < 2 ^ 63 := Nat.lt_of_le_of_lt (Nat.div_le_self a b) ha6
    have q2 : cx / d < 2 ^ 63 := Nat.lt_of_le_of_lt (Nat.div_le_self cx d) hc6
    have r1 := Nat.mod_lt a hb0
    have r2 := Nat.mod_lt cx hd0
    refine lv_lload hx hb d_M_order_17 (lv_at hl 0 rfl) ?_
    refine lv_lload hx hb d_M_order_19 (lv_at hl 1 rfl) ?_
    refine nx_ldiv hx hb d_M_order_21 ha6 hb0 hb6 ?_
    refine lv_lload hx hb d_M_order_22 (lv_at hl 2 rfl) ?_
    refine lv_lload hx hb d_M_order_24 (lv_at hl 3 rfl) ?_
    refine nx_ldiv hx hb d_M_order_26 hc6 hd0 hd6 ?_
    refine nx_lcn_ne (tgt := 111) hx hb d_M_order_27 d_M_order_28 (by decide) q1 q2 (fun h1 => ?_) (fun h1 => ?_)
    · refine lv_lload hx hb d_M_order_111 (lv_at hl 0 rfl) ?_
      refine lv_lload hx hb d_M_order_113 (lv_at hl 1 rfl) ?_
      refine nx_ldiv hx hb d_M_order_115 ha6 hb0 hb6 ?_
      refine lv_lload hx hb d_M_order_116 (lv_at hl 2 rfl) ?_
      refine lv_lload hx hb d_M_order_118 (lv_at hl 3 rfl) ?_
      refine nx_ldiv hx hb d_M_order_120 hc6 hd0 hd6 ?_
      refine nx_lcn_ge (tgt := 131) hx hb d_M_order_121 d_M_order_122 (by decide) q1 q2 (fun h2 => ?_) (fun h2 => ?_)
      · rw [ma_cmp_gt (ma_whole_lt hd0 hb0 (by omega)), Int.mul_one] at hX
        subst hX
        refine lv_iload hx hb d_M_order_131 (lv_at hl 4 rfl) ?_
        exact k133 ls
      · rw [ma_cmp_lt (ma_whole_lt hb0 hd0 h2)] at hX
        refine lv_iload hx hb d_M_order_125 (lv_at hl 4 rfl) ?_
        refine lv_ineg hx hb d_M_order_127 ?_
        rw [kI_neg hz]
        rw [show -z = X by omega]
        refine lv_goto (tgt := 133) hx hb d_M_order_128 (by decide) ?_
        exact k133 ls
    · refine lv_lload hx hb d_M_order_31 (lv_at hl 0 rfl) ?_
      refine lv_lload hx hb d_M_order_33 (lv_at hl 1 rfl) ?_
      refine nx_lrem hx hb d_M_order_35 ha6 hb0 hb6 ?_
      refine lv_lstore (lv' := [(17, .long (lN (a % b))), (8, .long (lN a)), (10, .long (lN b)), (12, .long (lN cx)), (14, .long (lN d)), (16, .int (kI z))]) hx hb d_M_order_36 hl (by decide) rfl (fun ls hl => ?_)
      refine lv_lload hx hb d_M_order_38 (lv_at hl 3 rfl) ?_
      refine lv_lload hx hb d_M_order_40 (lv_at hl 4 rfl) ?_
      refine nx_lrem hx hb d_M_order_42 hc6 hd0 hd6 ?_
      refine lv_lstore (lv' := [(19, .long (lN (cx % d))), (17, .long (lN (a % b))), (8, .long (lN a)), (10, .long (lN b)), (12, .long (lN cx)), (14, .long (lN d)), (16, .int (kI z))]) hx hb d_M_order_43 hl (by decide) rfl (fun ls hl => ?_)
      refine lv_lload hx hb d_M_order_45 (lv_at hl 1 rfl) ?_
      refine lv_lconst (v := lN 0) hx hb d_M_order_47 (by decide) ?_
      refine nx_lcn_eq (tgt := 59) hx hb d_M_order_48 d_M_order_49 (by decide) (by omega) (by decide) (fun h3 => ?_) (fun h3 => ?_)
      · refine lv_lload hx hb d_M_order_59 (lv_at hl 1 rfl) ?_
        refine lv_lload hx hb d_M_order_61 (lv_at hl 0 rfl) ?_
        refine nx_lcn_ne (tgt := 71) hx hb d_M_order_63 d_M_order_64 (by decide) (by omega) (by omega) (fun h5 => ?_) (fun h5 => ?_)
        · refine lv_lload hx hb d_M_order_71 (lv_at hl 1 rfl) ?_
          refine lv_lconst (v := lN 0) hx hb d_M_order_73 (by decide) ?_
          refine nx_lcn_ne (tgt := 84) hx hb d_M_order_74 d_M_order_75 (by decide) (by omega) (by decide) (fun h6 => ?_) (fun h6 => ?_)
          · have h7 : cx % d = 0 := by omega
            rw [ma_zero2 hd0 h1 h6 h7, Int.mul_one] at hX
            subst hX
            refine lv_iload hx hb d_M_order_84 (lv_at hl 6 rfl) ?_
            exact k86 ls
          · rw [ma_zero1 hb0 h1 h6 (by omega)] at hX
            refine lv_iload hx hb d_M_order_78 (lv_at hl 6 rfl) ?_
            refine lv_ineg hx hb d_M_order_80 ?_
            rw [kI_neg hz]
            rw [show -z = X by omega]
            refine lv_goto (tgt := 86) hx hb d_M_order_81 (by decide) ?_
            exact k86 ls
        · rw [ma_zero0 h1 (by omega) (by omega), Int.mul_zero] at hX
          subst hX
          refine lv_iconst (v := nI 0) hx hb d_M_order_67 (by decide) ?_
          refine lv_goto (tgt := 86) hx hb d_M_order_68 (by decide) ?_
          exact k86 ls
      · refine lv_lload hx hb d_M_order_52 (lv_at hl 0 rfl) ?_
        refine lv_lconst (v := lN 0) hx hb d_M_order_54 (by decide) ?_
        refine nx_lcn_ne (tgt := 87) hx hb d_M_order_55 d_M_order_56 (by decide) (by omega) (by decide) (fun h4 => ?_) (fun h4 => ?_)
        · refine lv_lload hx hb d_M_order_87 (lv_at hl 3 rfl) ?_
          refine lv_lstore (lv' := [(8, .long (lN b)), (19, .long (lN (cx % d))), (17, .long (lN (a % b))), (10, .long (lN b)), (12, .long (lN cx)), (14, .long (lN d)), (16, .int (kI z))]) hx hb d_M_order_89 hl (by decide) rfl (fun ls hl => ?_)
          refine lv_lload hx hb d_M_order_91 (lv_at hl 2 rfl) ?_
          refine lv_lstore (lv' := [(10, .long (lN (a % b))), (8, .long (lN b)), (19, .long (lN (cx % d))), (17, .long (lN (a % b))), (12, .long (lN cx)), (14, .long (lN d)), (16, .int (kI z))]) hx hb d_M_order_93 hl (by decide) rfl (fun ls hl => ?_)
          refine lv_lload hx hb d_M_order_95 (lv_at hl 5 rfl) ?_
          refine lv_lstore (lv' := [(12, .long (lN d)), (10, .long (lN (a % b))), (8, .long (lN b)), (19, .long (lN (cx % d))), (17, .long (lN (a % b))), (14, .long (lN d)), (16, .int (kI z))]) hx hb d_M_order_97 hl (by decide) rfl (fun ls hl => ?_)
          refine lv_lload hx hb d_M_order_99 (lv_at hl 3 rfl) ?_
          refine lv_lstore (lv' := [(14, .long (lN (cx % d))), (12, .long (lN d)), (10, .long (lN (a % b))), (8, .long (lN b)), (19, .long (lN (cx % d))), (17, .long (lN (a % b))), (16, .int (kI z))]) hx hb d_M_order_101 hl (by decide) rfl (fun ls hl => ?_)
          refine lv_iload hx hb d_M_order_103 (lv_at hl 6 rfl) ?_
          refine lv_ineg hx hb d_M_order_105 ?_
          rw [kI_neg hz]
          refine lv_istore (lv' := [(16, .int (kI (-z))), (14, .long (lN (cx % d))), (12, .long (lN d)), (10, .long (lN (a % b))), (8, .long (lN b)), (19, .long (lN (cx % d))), (17, .long (lN (a % b)))]) hx hb d_M_order_106 hl (by decide) rfl (fun ls hl => ?_)
          refine lv_goto (tgt := 17) hx hb d_M_order_108 (by decide) ?_
          have hX2 : -z * ma_cmp (b * (cx % d)) (d * (a % b)) = X := by rw [ma_cmp_turn h1, Int.neg_mul_neg]; exact hX
          exact ih b (a % b) d (cx % d) (-z) (by omega) hb6 (by omega) hd6 (by omega) (Nat.pos_of_ne_zero h3) (Nat.pos_of_ne_zero h4) (pm_neg hz) hX2 ls (lv_sub hl [4, 3, 2, 1, 0] rfl)
        · refine lv_lload hx hb d_M_order_59 (lv_at hl 1 rfl) ?_
          refine lv_lload hx hb d_M_order_61 (lv_at hl 0 rfl) ?_
          refine nx_lcn_ne (tgt := 71) hx hb d_M_order_63 d_M_order_64 (by decide) (by omega) (by omega) (fun h5 => ?_) (fun h5 => ?_)
          · refine lv_lload hx hb d_M_order_71 (lv_at hl 1 rfl) ?_
            refine lv_lconst (v := lN 0) hx hb d_M_order_73 (by decide) ?_
            refine nx_lcn_ne (tgt := 84) hx hb d_M_order_74 d_M_order_75 (by decide) (by omega) (by decide) (fun h6 => ?_) (fun h6 => ?_)
            · have h7 : cx % d = 0 := by omega
              rw [ma_zero2 hd0 h1 h6 h7, Int.mul_one] at hX
              subst hX
              refine lv_iload hx hb d_M_order_84 (lv_at hl 6 rfl) ?_
              exact k86 ls
            · rw [ma_zero1 hb0 h1 h6 (by omega)] at hX
              refine lv_iload hx hb d_M_order_78 (lv_at hl 6 rfl) ?_
              refine lv_ineg hx hb d_M_order_80 ?_
              rw [kI_neg hz]
              rw [show -z = X by omega]
              refine lv_goto (tgt := 86) hx hb d_M_order_81 (by decide) ?_
              exact k86 ls
          · rw [ma_zero0 h1 (by omega) (by omega), Int.mul_zero] at hX
            subst hX
            refine lv_iconst (v := nI 0) hx hb d_M_order_67 (by decide) ?_
            refine lv_goto (tgt := 86) hx hb d_M_order_68 (by decide) ?_
            exact k86 ls
end
set_option maxHeartbeats 4000000 in
set_option maxRecDepth 100000 in
theorem c_M_order (l : Launch) {dC : Nat → ClassId} {dI : Nat → Nat → Nat} {cI cL cT : ClassId} {sa : Nat → Nat} (a0 b0 c0 d0 : Nat) (ha6 : a0 < 2 ^ 63) (hb6 : b0 < 2 ^ 63) (hc6 : c0 < 2 ^ 63) (hd6 : d0 < 2 ^ 63) (hb1 : 0 < b0) (hd1 : 0 < d0) : Met l y_M_order (Cond.code y_M_order b_M_order 21 (some .int) :: gw) ({ frames := 0, cells := 0, slots := 0, locals := 0 } : Room) (pr dC dI cI cL cT sa [.long (lN a0), .long (lN b0), .long (lN c0), .long (lN d0)] []) (vp_Si (fun r => r = kI (ma_cmp (a0 * d0) (c0 * b0)))) 0 0 (fun _ => False) := by
  refine Met.ofW (cc := b_M_order) (maxL := 21) (ret := (some .int)) (by decide) rfl ?_
  intro p e s m args below meth c s₁ B hml hv
  obtain ⟨rfl, hC, hP⟩ := hv
  have hx := B.exec
  have hb := B.bytes
  have hr := B.returns
  have hts : ∀ w ∈ gw, w.before ([.long (lN a0), .long (lN b0), .long (lN c0), .long (lN d0)] : List Value).toArray s = true := fun w hw => atoms_spec (ws := Cond.code y_M_order b_M_order 21 (some .int) :: gw) B.pre w (List.mem_cons_of_mem _ hw)
  have hown : s.vm.findClass R_M = some m.cls := findClass_of_methodNamed B.named
  have hlocks := B.notSynchronized
  have hK := hC.1
  have hfr : 0 ≤ (headSpec (Cond.code y_M_order b_M_order 21 (some .int) :: gw) ({ frames := 0, cells := 0, slots := 0, locals := 0 } : Room)).room.frames := Nat.le_refl _
  have hlo : 0 ≤ (headSpec (Cond.code y_M_order b_M_order 21 (some .int) :: gw) ({ frames := 0, cells := 0, slots := 0, locals := 0 } : Room)).room.locals := Nat.le_refl _
  have hce : 0 ≤ (headSpec (Cond.code y_M_order b_M_order 21 (some .int) :: gw) ({ frames := 0, cells := 0, slots := 0, locals := 0 } : Room)).room.cells := Nat.zero_le _
  have hsl : 0 ≤ (headSpec (Cond.code y_M_order b_M_order 21 (some .int) :: gw) ({ frames := 0, cells := 0, slots := 0, locals := 0 } : Room)).room.slots := Nat.zero_le _
  have hl := lv_entry ([.long (lN a0), .long (lN b0), .long (lN c0), .long (lN d0)]) (n := 21) (Nat.le_of_ble_eq_true rfl)
  rw [lg_entry_eq]
  generalize (lg_sl ([.long (lN a0), .long (lN b0), .long (lN c0), .long (lN d0)]) ++ List.replicate (21 - (lg_sl ([.long (lN a0), .long (lN b0), .long (lN c0), .long (lN d0)])).length) Slot.unset).toArray = ls at hl ⊢
  have hl : lv_has ls 21 [(0, .long (lN a0)), (2, .long (lN b0)), (4, .long (lN c0)), (6, .long (lN d0))] := hl
  refine lv_lload_n hx hb d_M_order_0 rfl (lv_at hl 0 rfl) ?_
  refine lv_lstore (lv' := [(8, .long (lN a0)), (0, .long (lN a0)), (2, .long (lN b0)), (4, .long (lN c0)), (6, .long (lN d0))]) hx hb d_M_order_1 hl (by decide) rfl (fun ls hl => ?_)
  refine lv_lload_n hx hb d_M_order_3 rfl (lv_at hl 2 rfl) ?_
  refine lv_lstore (lv' := [(10, .long (lN b0)), (8, .long (lN a0)), (0, .long (lN a0)), (2, .long (lN b0)), (4, .long (lN c0)), (6, .long (lN d0))]) hx hb d_M_order_4 hl (by decide) rfl (fun ls hl => ?_)
  refine lv_lload hx hb d_M_order_6 (lv_at hl 4 rfl) ?_
  refine lv_lstore (lv' := [(12, .long (lN c0)), (10, .long (lN b0)), (8, .long (lN a0)), (0, .long (lN a0)), (2, .long (lN b0)), (4, .long (lN c0)), (6, .long (lN d0))]) hx hb d_M_order_8 hl (by decide) rfl (fun ls hl => ?_)
  refine lv_lload hx hb d_M_order_10 (lv_at hl 6 rfl) ?_
  refine lv_lstore (lv' := [(14, .long (lN d0)), (12, .long (lN c0)), (10, .long (lN b0)), (8, .long (lN a0)), (0, .long (lN a0)), (2, .long (lN b0)), (4, .long (lN c0)), (6, .long (lN d0))]) hx hb d_M_order_12 hl (by decide) rfl (fun ls hl => ?_)
  refine lv_iconst (v := nI 1) hx hb d_M_order_14 (by decide) ?_
  rw [← kI_1]
  refine lv_istore (lv' := [(16, .int (kI 1)), (14, .long (lN d0)), (12, .long (lN c0)), (10, .long (lN b0)), (8, .long (lN a0)), (0, .long (lN a0)), (2, .long (lN b0)), (4, .long (lN c0)), (6, .long (lN d0))]) hx hb d_M_order_15 hl (by decide) rfl (fun ls hl => ?_)
  refine l_M_order ⟨hx, hb, hml, hown, hts⟩ (fun ls => ?_) (fun ls => ?_) (b0 + 1) a0 b0 c0 d0 1 (by omega) ha6 hb6 hc6 hd6 hb1 hd1 (Or.inl rfl) (Int.one_mul _) ls (lv_sub hl [4, 3, 2, 1, 0] rfl)
  · exact W.iret hx hb hr (fun t ht hW => ⟨_, rfl, rfl, ht⟩) (fun q h => by cases h) d_M_order_86
  · exact W.iret hx hb hr (fun t ht hW => ⟨_, rfl, rfl, ht⟩) (fun q h => by cases h) d_M_order_133
section
variable {p : Program} {l : Launch} {e : Env} {R : Room} {s : State} {m : MethodId} {args : Array Value} {below : List Frame} {meth : Method} {c : Code} {H : Heap} {locs : List Loc} {cells slots : Nat} {Q : State → Prop}
set_option maxHeartbeats 4000000 in
set_option maxRecDepth 100000 in
theorem l_T_cd (hF : CallFix p m c b_T_commonDivisor 11 s args gw R_T) {X : Nat} (k44 : ∀ (b i : Nat) (ls : Array Slot), lv_has ls 11 [(4, .long (lN X)), (6, .long (lN b)), (8, .int (nI i))] → W p l e R s m args below meth c H locs cells slots Q (F0 m 44 ls [])) : ∀ (n i a b : Nat), i + n = 100 → a < 2 ^ 63 → b < 2 ^ 63 → ma_eu n a b = X → ∀ ls : Array Slot, lv_has ls 11 [(4, .long (lN a)), (6, .long (lN b)), (8, .int (nI i))] → W p l e R s m args below meth c H locs cells slots Q (F0 m 9 ls []) := by
  obtain ⟨hx, hb, hml, hown, hts⟩ := id hF
  intro n
  induction n with
  | zero =>
    intro i a b hi ha6 hb6 hX ls hl
    refine lv_iload hx hb d_T_commonDivisor_9 (lv_at hl 2 rfl) ?_
    refine lv_bipush (v := nI 100) hx hb d_T_commonDivisor_11 (by decide) ?_
    refine nx_icmp_ge (tgt := 44) hx hb d_T_commonDivisor_13 (by decide) (by omega) (by omega) (fun h => ?_) (fun h => ?_)
    · rw [ma_eu] at hX
      subst hX
      exact k44 b i ls hl
    · exact absurd h (by omega)
  | succ n ih =>
    intro i a b hi ha6 hb6 hX ls hl
    rw [ma_eu] at hX
    refine lv_iload hx hb d_T_commonDivisor_9 (lv_at hl 2 rfl) ?_
    refine lv_bipush (v := nI 100) hx hb d_T_commonDivisor_11 (by decide) ?_
    refine nx_icmp_ge (tgt := 44) hx hb d_T_commonDivisor_13 (by decide) (by omega) (by omega) (fun h => ?_) (fun h => ?_)
    · exact absurd h (by omega)
    · refine lv_lload hx hb d_T_commonDivisor_16 (lv_at hl 1 rfl) ?_
      refine lv_lconst (v := lN 0) hx hb d_T_commonDivisor_18 (by decide) ?_
      refine nx_lcn_eq (tgt := 44) hx hb d_T_commonDivisor_19 d_T_commonDivisor_20 (by decide) hb6 (by decide) (fun h1 => ?_) (fun h1 => ?_)
      · rw [if_pos h1] at hX
        subst hX
        exact k44 b i ls hl
      · rw [if_neg h1] at hX
        refine lv_lload hx hb d_T_commonDivisor_23 (lv_at hl 0 rfl) ?_
        refine lv_lload hx hb d_T_commonDivisor_25 (lv_at hl 1 rfl) ?_
        refine nx_lrem hx hb d_T_commonDivisor_27 ha6 (Nat.pos_of_ne_zero h1) hb6 ?_
        refine lv_lstore (lv' := [(9, .long (lN (a % b))), (4, .long (lN a)), (6, .long (lN b)), (8, .int (nI i))]) hx hb d_T_commonDivisor_28 hl (by decide) rfl (fun ls hl => ?_)
        refine lv_lload hx hb d_T_commonDivisor_30 (lv_at hl 2 rfl) ?_
        refine lv_lstore (lv' := [(4, .long (lN b)), (9, .long (lN (a % b))), (6, .long (lN b)), (8, .int (nI i))]) hx hb d_T_commonDivisor_32 hl (by decide) rfl (fun ls hl => ?_)
        refine lv_lload hx hb d_T_commonDivisor_34 (lv_at hl 1 rfl) ?_
        refine lv_lstore (lv' := [(6, .long (lN (a % b))), (4, .long (lN b)), (9, .long (lN (a % b))), (8, .int (nI i))]) hx hb d_T_commonDivisor_36 hl (by decide) rfl (fun ls hl => ?_)
        refine nx_inc (lv' := [(8, .int (nI (i + 1))), (6, .long (lN (a % b))), (4, .long (lN b)), (9, .long (lN (a % b)))]) hx hb d_T_commonDivisor_38 hl (k := 3) rfl (by decide) rfl (fun ls hl => ?_)
        refine lv_goto (tgt := 9) hx hb d_T_commonDivisor_41 (by decide) ?_
        have r1 := Nat.mod_lt a (Nat.pos_of_ne_zero h1)
        exact ih (i + 1) b (a % b) (by omega) hb6 (by omega) hX ls (lv_sub hl [2, 1, 0] rfl)
end
set_option maxHeartbeats 4000000 in
set_option maxRecDepth 100000 in
theorem c_T_commonDivisor (l : Launch) {dC : Nat → ClassId} {dI : Nat → Nat → Nat} {cI cL cT : ClassId} {sa : Nat → Nat} (a0 b0 : Nat) (ha6 : a0 < 2 ^ 63) (hb6 : b0 < 2 ^ 50) (hb1 : 0 < b0) : Met l y_T_commonDivisor (Cond.code y_T_commonDivisor b_T_commonDivisor 11 (some .long) :: gw) ({ frames := 0, cells := 0, slots := 0, locals := 0 } : Room) (pr dC dI cI cL cT sa [.long (lN a0), .long (lN b0)] []) (vp_Sl (fun r => r = lN (Nat.gcd a0 b0))) 0 0 (fun _ => False) := by
  refine Met.ofW (cc := b_T_commonDivisor) (maxL := 11) (ret := (some .long)) (by decide) rfl ?_
  intro p e s m args below meth c s₁ B hml hv
  obtain ⟨rfl, hC, hP⟩ := hv
  have hx := B.exec
  have hb := B.bytes
  have hr := B.returns
  have hts : ∀ w ∈ gw, w.before ([.long (lN a0), .long (lN b0)] : List Value).toArray s = true := fun w hw => atoms_spec (ws := Cond.code y_T_commonDivisor b_T_commonDivisor 11 (some .long) :: gw) B.pre w (List.mem_cons_of_mem _ hw)
  have hown : s.vm.findClass R_T = some m.cls := findClass_of_methodNamed B.named
  have hlocks := B.notSynchronized
  have hK := hC.1
  have hfr : 0 ≤ (headSpec (Cond.code y_T_commonDivisor b_T_commonDivisor 11 (some .long) :: gw) ({ frames := 0, cells := 0, slots := 0, locals := 0 } : Room)).room.frames := Nat.le_refl _
  have hlo : 0 ≤ (headSpec (Cond.code y_T_commonDivisor b_T_commonDivisor 11 (some .long) :: gw) ({ frames := 0, cells := 0, slots := 0, locals := 0 } : Room)).room.locals := Nat.le_refl _
  have hce : 0 ≤ (headSpec (Cond.code y_T_commonDivisor b_T_commonDivisor 11 (some .long) :: gw) ({ frames := 0, cells := 0, slots := 0, locals := 0 } : Room)).room.cells := Nat.zero_le _
  have hsl : 0 ≤ (headSpec (Cond.code y_T_commonDivisor b_T_commonDivisor 11 (some .long) :: gw) ({ frames := 0, cells := 0, slots := 0, locals := 0 } : Room)).room.slots := Nat.zero_le _
  have hl := lv_entry ([.long (lN a0), .long (lN b0)]) (n := 11) (Nat.le_of_ble_eq_true rfl)
  rw [lg_entry_eq]
  generalize (lg_sl ([.long (lN a0), .long (lN b0)]) ++ List.replicate (11 - (lg_sl ([.long (lN a0), .long (lN b0)])).length) Slot.unset).toArray = ls at hl ⊢
  have hl : lv_has ls 11 [(0, .long (lN a0)), (2, .long (lN b0))] := hl
  refine lv_lload_n hx hb d_T_commonDivisor_0 rfl (lv_at hl 0 rfl) ?_
  refine lv_lstore (lv' := [(4, .long (lN a0)), (0, .long (lN a0)), (2, .long (lN b0))]) hx hb d_T_commonDivisor_1 hl (by decide) rfl (fun ls hl => ?_)
  refine lv_lload_n hx hb d_T_commonDivisor_3 rfl (lv_at hl 2 rfl) ?_
  refine lv_lstore (lv' := [(6, .long (lN b0)), (4, .long (lN a0)), (0, .long (lN a0)), (2, .long (lN b0))]) hx hb d_T_commonDivisor_4 hl (by decide) rfl (fun ls hl => ?_)
  refine lv_iconst (v := nI 0) hx hb d_T_commonDivisor_6 (by decide) ?_
  refine lv_istore (lv' := [(8, .int (nI 0)), (6, .long (lN b0)), (4, .long (lN a0)), (0, .long (lN a0)), (2, .long (lN b0))]) hx hb d_T_commonDivisor_7 hl (by decide) rfl (fun ls hl => ?_)
  have hX : ma_eu 100 a0 b0 = Nat.gcd a0 b0 := ma_eu_gcd 100 a0 b0 (ma_ok_of hb6 (by decide))
  have hg1 : 0 < Nat.gcd a0 b0 := Nat.gcd_pos_of_pos_right a0 hb1
  have hg2 : Nat.gcd a0 b0 ≤ b0 := Nat.gcd_le_right a0 hb1
  refine l_T_cd ⟨hx, hb, hml, hown, hts⟩ (fun b i ls hl => ?_) 100 0 a0 b0 (by omega) ha6 (by omega) hX ls (lv_sub hl [2, 1, 0] rfl)
  refine lv_lload hx hb d_T_commonDivisor_44 (lv_at hl 0 rfl) ?_
  refine lv_lconst (v := lN 0) hx hb d_T_commonDivisor_46 (by decide) ?_
  refine nx_lcn_le (tgt := 56) hx hb d_T_commonDivisor_47 d_T_commonDivisor_48 (by decide) (by omega) (by decide) (fun h1 => ?_) (fun h1 => ?_)
  · exact absurd h1 (by omega)
  · refine lv_lload hx hb d_T_commonDivisor_51 (lv_at hl 0 rfl) ?_
    refine lv_goto (tgt := 57) hx hb d_T_commonDivisor_53 (by decide) ?_
    exact W.lret hx hb hr (fun t ht hW => ⟨_, rfl, rfl, ht⟩) (fun q h => by cases h) d_T_commonDivisor_57
set_option maxHeartbeats 4000000 in
set_option maxRecDepth 100000 in
theorem c_T_partInLowestTerms (l : Launch) {dC : Nat → ClassId} {dI : Nat → Nat → Nat} {cI cL cT : ClassId} {sa : Nat → Nat} (a0 b0 pt : Nat) (ha6 : a0 < 2 ^ 63) (hb6 : b0 < 2 ^ 50) (hb1 : 0 < b0) (hpt : pt ≤ 1) : Met l y_T_partInLowestTerms (Cond.code y_T_partInLowestTerms b_T_partInLowestTerms 7 (some .long) :: gw) ({ frames := 1, cells := 0, slots := 0, locals := 30 } : Room) (pr dC dI cI cL cT sa [.long (lN a0), .long (lN b0), .int (nI pt)] []) (vp_Sl (fun r => r = lN ((if pt = 0 then a0 else b0) / Nat.gcd a0 b0))) 0 0 (fun _ => False) := by
  refine Met.ofW (cc := b_T_partInLowestTerms) (maxL := 7) (ret := (some .long)) (by decide) rfl ?_
  intro p e s m args below meth c s₁ B hml hv
  obtain ⟨rfl, hC, hP⟩ := hv
  have hx := B.exec
  have hb := B.bytes
  have hr := B.returns
  have hts : ∀ w ∈ gw, w.before ([.long (lN a0), .long (lN b0), .int (nI pt)] : List Value).toArray s = true := fun w hw => atoms_spec (ws := Cond.code y_T_partInLowestTerms b_T_partInLowestTerms 7 (some .long) :: gw) B.pre w (List.mem_cons_of_mem _ hw)
  have hown : s.vm.findClass R_T = some m.cls := findClass_of_methodNamed B.named
  have hlocks := B.notSynchronized
  have hK := hC.1
  have hfr : 1 ≤ (headSpec (Cond.code y_T_partInLowestTerms b_T_partInLowestTerms 7 (some .long) :: gw) ({ frames := 1, cells := 0, slots := 0, locals := 30 } : Room)).room.frames := Nat.le_refl _
  have hlo : 30 ≤ (headSpec (Cond.code y_T_partInLowestTerms b_T_partInLowestTerms 7 (some .long) :: gw) ({ frames := 1, cells := 0, slots := 0, locals := 30 } : Room)).room.locals := Nat.le_refl _
  have hce : 0 ≤ (headSpec (Cond.code y_T_partInLowestTerms b_T_partInLowestTerms 7 (some .long) :: gw) ({ frames := 1, cells := 0, slots := 0, locals := 30 } : Room)).room.cells := Nat.zero_le _
  have hsl : 0 ≤ (headSpec (Cond.code y_T_partInLowestTerms b_T_partInLowestTerms 7 (some .long) :: gw) ({ frames := 1, cells := 0, slots := 0, locals := 30 } : Room)).room.slots := Nat.zero_le _
  have hl := lv_entry ([.long (lN a0), .long (lN b0), .int (nI pt)]) (n := 7) (Nat.le_of_ble_eq_true rfl)
  rw [lg_entry_eq]
  generalize (lg_sl ([.long (lN a0), .long (lN b0), .int (nI pt)]) ++ List.replicate (7 - (lg_sl ([.long (lN a0), .long (lN b0), .int (nI pt)])).length) Slot.unset).toArray = ls at hl ⊢
  have hl : lv_has ls 7 [(0, .long (lN a0)), (2, .long (lN b0)), (4, .int (nI pt))] := hl
  refine lv_lload_n hx hb d_T_partInLowestTerms_0 rfl (lv_at hl 0 rfl) ?_
  refine lv_lload_n hx hb d_T_partInLowestTerms_1 rfl (lv_at hl 1 rfl) ?_
  have hg1 : 0 < Nat.gcd a0 b0 := Nat.gcd_pos_of_pos_right a0 hb1
  have hg2 : Nat.gcd a0 b0 ≤ b0 := Nat.gcd_le_right a0 hb1
  refine ro_calll (va_runS (As := [.long (lN a0), .long (lN b0)]) (rest := []) ⟨hx, hb, hml, hown, hts⟩ (c_T_commonDivisor l a0 b0 ha6 hb6 hb1) (cwS 2 hts (gw_S k_328 k_326 k_327 k_1) rfl rfl rfl (by decide +kernel) ⟨Nat.le_trans (Nat.le_of_ble_eq_true rfl) hfr, Nat.le_trans (Nat.le_of_ble_eq_true rfl) hlo⟩) ⟨pr_blind, pr_at hC (fun k q h => by simp at h)⟩ rfl rfl hl.1 rfl (lv_room (Nat.le_of_ble_eq_true rfl)) d_T_partInLowestTerms_2 ⟨hce, hsl⟩) (fun r9 h9 => ?_)
  subst h9
  refine lv_lstore (lv' := [(5, .long (lN (Nat.gcd a0 b0))), (0, .long (lN a0)), (2, .long (lN b0)), (4, .int (nI pt))]) hx hb d_T_partInLowestTerms_5 hl (by decide) rfl (fun ls hl => ?_)
  refine lv_iload hx hb d_T_partInLowestTerms_7 (lv_at hl 3 rfl) ?_
  refine nx_if_ne (tgt := 19) hx hb d_T_partInLowestTerms_9 (by decide) (by omega) (fun h1 => ?_) (fun h1 => ?_)
  · refine lv_lload_n hx hb d_T_partInLowestTerms_19 rfl (lv_at hl 2 rfl) ?_
    refine lv_lload hx hb d_T_partInLowestTerms_20 (lv_at hl 0 rfl) ?_
    refine nx_ldiv hx hb d_T_partInLowestTerms_22 (by omega) hg1 (by omega) ?_
    exact W.lret hx hb hr (fun t ht hW => ⟨_, rfl, by rw [if_neg (by omega)], ht⟩) (fun q h => by cases h) d_T_partInLowestTerms_23
  · refine lv_lload_n hx hb d_T_partInLowestTerms_12 rfl (lv_at hl 1 rfl) ?_
    refine lv_lload hx hb d_T_partInLowestTerms_13 (lv_at hl 0 rfl) ?_
    refine nx_ldiv hx hb d_T_partInLowestTerms_15 ha6 hg1 (by omega) ?_
    refine lv_goto (tgt := 23) hx hb d_T_partInLowestTerms_16 (by decide) ?_
    exact W.lret hx hb hr (fun t ht hW => ⟨_, rfl, by rw [if_pos h1], ht⟩) (fun q h => by cases h) d_T_partInLowestTerms_23
end
section
/-! TRIPS as numbers: of what Odds holds and of a car. -/
def oA (e0 wy so ho rm sd dr pe : Nat) : Nat := if e0 = 0 then 2 * ho + sd * (dr * (so + wy) + 2 * rm * pe * wy) else 0
def oC (cars rm A B : Nat) : Nat := if A = 0 then 0 else 300 * cars * rm * B / A
section NXE
variable {p : Program} {l : Launch} {e : Env} {R : Room} {s : State} {m : MethodId} {args : Array Value} {below : List Frame} {meth : Method} {c : Code} {H : Heap} {locs : List Loc} {cells slots : Nat} {Q : State → Prop}
variable {cc : ByteArray} {pc : Nat} {ls : Array Slot} {rest : List Value}
theorem kI_pos {x : Int} (h : x = -1 ∨ x = 0 ∨ x = 1) : (0 : Int32) < kI x ↔ 0 < x := by rcases h with rfl | rfl | rfl <;> decide
theorem kI_negl {x : Int} (h : x = -1 ∨ x = 0 ∨ x = 1) : kI x < (0 : Int32) ↔ x < 0 := by rcases h with rfl | rfl | rfl <;> decide
theorem ma_cmp_3 (x y : Nat) : ma_cmp x y = -1 ∨ ma_cmp x y = 0 ∨ ma_cmp x y = 1 := by
  unfold ma_cmp
  by_cases h : x < y
  · simp [h]
  · by_cases h2 : x = y
    · simp [h2]
    · simp [h, h2]
theorem ma_cmp_pos {x y : Nat} : 0 < ma_cmp x y ↔ y < x := by
  unfold ma_cmp
  by_cases h : x < y
  · simp [h]; omega
  · by_cases h2 : x = y
    · simp [h2]
    · simp [h, h2]; omega
theorem ma_cmp_neg {x y : Nat} : ma_cmp x y < 0 ↔ x < y := by
  unfold ma_cmp
  by_cases h : x < y
  · simp [h]
  · by_cases h2 : x = y
    · simp [h2]
    · simp [h, h2]
end NXE
end
section
set_option maxHeartbeats 4000000 in
set_option maxRecDepth 100000 in
theorem c_O_tripAbove (l : Launch) {dC : Nat → ClassId} {dI : Nat → Nat → Nat} {cI cL cT : ClassId} {sa : Nat → Nat} (g : Nat → Nat) (ka e0 wy so ho rm sd dr pe ce : Nat) (he : e0 ≤ 1) (hrm : rm ≤ 5) (hsd : sd ≤ 100) (hdr : dr ≤ 30) (hpe : pe ≤ 10) : Met l y_O_tripAbove (Cond.code y_O_tripAbove b_O_tripAbove 6 (some .long) :: gw) ({ frames := 0, cells := 0, slots := 0, locals := 0 } : Room) (pr dC dI cI cL cT sa [.ref (g 5), .ref ka] [(g 5, .inr (2, [.int (nI e0), .long (lN wy), .long (lN so), .long (lN ho)])), (ka, .inr (1, [.int (nI rm), .int (nI sd), .int (nI dr), .int (nI pe), .int (nI ce)]))]) (vp_Sl (fun r => r = lN (oA e0 wy so ho rm sd dr pe))) 0 0 (fun _ => False) := by
  refine Met.ofW (cc := b_O_tripAbove) (maxL := 6) (ret := (some .long)) (by decide) rfl ?_
  intro p e s m args below meth c s₁ B hml hv
  obtain ⟨rfl, hC, hP⟩ := hv
  have hx := B.exec
  have hb := B.bytes
  have hr := B.returns
  have hts : ∀ w ∈ gw, w.before ([.ref (g 5), .ref ka] : List Value).toArray s = true := fun w hw => atoms_spec (ws := Cond.code y_O_tripAbove b_O_tripAbove 6 (some .long) :: gw) B.pre w (List.mem_cons_of_mem _ hw)
  have hown : s.vm.findClass R_O = some m.cls := findClass_of_methodNamed B.named
  have hlocks := B.notSynchronized
  have hK := hC.1
  have hfr : 0 ≤ (headSpec (Cond.code y_O_tripAbove b_O_tripAbove 6 (some .long) :: gw) ({ frames := 0, cells := 0, slots := 0, locals := 0 } : Room)).room.frames := Nat.le_refl _
  have hlo : 0 ≤ (headSpec (Cond.code y_O_tripAbove b_O_tripAbove 6 (some .long) :: gw) ({ frames := 0, cells := 0, slots := 0, locals := 0 } : Room)).room.locals := Nat.le_refl _
  have hce : 0 ≤ (headSpec (Cond.code y_O_tripAbove b_O_tripAbove 6 (some .long) :: gw) ({ frames := 0, cells := 0, slots := 0, locals := 0 } : Room)).room.cells := Nat.zero_le _
  have hsl : 0 ≤ (headSpec (Cond.code y_O_tripAbove b_O_tripAbove 6 (some .long) :: gw) ({ frames := 0, cells := 0, slots := 0, locals := 0 } : Room)).room.slots := Nat.zero_le _
  have hl := lv_entry ([.ref (g 5), .ref ka]) (n := 6) (Nat.le_of_ble_eq_true rfl)
  rw [lg_entry_eq]
  generalize (lg_sl ([.ref (g 5), .ref ka]) ++ List.replicate (6 - (lg_sl ([.ref (g 5), .ref ka])).length) Slot.unset).toArray = ls at hl ⊢
  have hl : lv_has ls 6 [(0, .ref (g 5)), (1, .ref ka)] := hl
  refine lv_aload_n hx hb d_O_tripAbove_0 rfl (lv_at hl 0 rfl) ?_
  refine va_get (D := (dC, dI)) (ci := 2) (v := .int (nI e0)) (C := R_O) (T := F_O) (N := 4) hx hb hts i_O hown hK hP 0 rfl rfl 0 (by decide) (hts _ k_59) (fun _ h9 => h9) rfl d_O_tripAbove_1 ?_
  refine nx_if_eq (tgt := 9) hx hb d_O_tripAbove_4 (by decide) (by omega) (fun h1 => ?_) (fun h1 => ?_)
  · refine lv_aload_n hx hb d_O_tripAbove_9 rfl (lv_at hl 1 rfl) ?_
    refine va_get (D := (dC, dI)) (ci := 1) (v := .int (nI dr)) (C := R_C) (T := F_C) (N := 5) hx hb hts i_C hown hK hP 1 rfl rfl 2 (by decide) (hts _ k_275) (fun _ h9 => h9) rfl d_O_tripAbove_10 ?_
    refine nx_i2l hx hb d_O_tripAbove_13 (by omega) ?_
    refine lv_aload_n hx hb d_O_tripAbove_14 rfl (lv_at hl 0 rfl) ?_
    refine va_get (D := (dC, dI)) (ci := 2) (v := .long (lN so)) (C := R_O) (T := F_O) (N := 4) hx hb hts i_O hown hK hP 0 rfl rfl 2 (by decide) (hts _ k_62) (fun _ h9 => h9) rfl d_O_tripAbove_15 ?_
    refine lv_aload_n hx hb d_O_tripAbove_18 rfl (lv_at hl 0 rfl) ?_
    refine va_get (D := (dC, dI)) (ci := 2) (v := .long (lN wy)) (C := R_O) (T := F_O) (N := 4) hx hb hts i_O hown hK hP 0 rfl rfl 1 (by decide) (hts _ k_60) (fun _ h9 => h9) rfl d_O_tripAbove_19 ?_
    refine nx_ladd hx hb d_O_tripAbove_22 ?_
    refine nx_lmul hx hb d_O_tripAbove_23 ?_
    refine lv_lstore_n (lv' := [(2, .long (lN (dr * (so + wy)))), (0, .ref (g 5)), (1, .ref ka)]) hx hb d_O_tripAbove_24 rfl hl (by decide) rfl (fun ls hl => ?_)
    refine lv_ldc2 (v := lN 2) hx hb hown (hts _ k_347) d_O_tripAbove_25 ?_
    refine lv_aload_n hx hb d_O_tripAbove_28 rfl (lv_at hl 2 rfl) ?_
    refine va_get (D := (dC, dI)) (ci := 1) (v := .int (nI rm)) (C := R_C) (T := F_C) (N := 5) hx hb hts i_C hown hK hP 1 rfl rfl 0 (by decide) (hts _ k_270) (fun _ h9 => h9) rfl d_O_tripAbove_29 ?_
    refine nx_i2l hx hb d_O_tripAbove_32 (by omega) ?_
    refine nx_lmul hx hb d_O_tripAbove_33 ?_
    refine lv_aload_n hx hb d_O_tripAbove_34 rfl (lv_at hl 2 rfl) ?_
    refine va_get (D := (dC, dI)) (ci := 1) (v := .int (nI pe)) (C := R_C) (T := F_C) (N := 5) hx hb hts i_C hown hK hP 1 rfl rfl 3 (by decide) (hts _ k_277) (fun _ h9 => h9) rfl d_O_tripAbove_35 ?_
    refine nx_i2l hx hb d_O_tripAbove_38 (by omega) ?_
    refine nx_lmul hx hb d_O_tripAbove_39 ?_
    refine lv_aload_n hx hb d_O_tripAbove_40 rfl (lv_at hl 1 rfl) ?_
    refine va_get (D := (dC, dI)) (ci := 2) (v := .long (lN wy)) (C := R_O) (T := F_O) (N := 4) hx hb hts i_O hown hK hP 0 rfl rfl 1 (by decide) (hts _ k_60) (fun _ h9 => h9) rfl d_O_tripAbove_41 ?_
    refine nx_lmul hx hb d_O_tripAbove_44 ?_
    refine lv_lstore (lv' := [(4, .long (lN (((2 * rm) * pe) * wy))), (2, .long (lN (dr * (so + wy)))), (0, .ref (g 5)), (1, .ref ka)]) hx hb d_O_tripAbove_45 hl (by decide) rfl (fun ls hl => ?_)
    refine lv_ldc2 (v := lN 2) hx hb hown (hts _ k_347) d_O_tripAbove_47 ?_
    refine lv_aload_n hx hb d_O_tripAbove_50 rfl (lv_at hl 2 rfl) ?_
    refine va_get (D := (dC, dI)) (ci := 2) (v := .long (lN ho)) (C := R_O) (T := F_O) (N := 4) hx hb hts i_O hown hK hP 0 rfl rfl 3 (by decide) (hts _ k_64) (fun _ h9 => h9) rfl d_O_tripAbove_51 ?_
    refine nx_lmul hx hb d_O_tripAbove_54 ?_
    refine lv_aload_n hx hb d_O_tripAbove_55 rfl (lv_at hl 3 rfl) ?_
    refine va_get (D := (dC, dI)) (ci := 1) (v := .int (nI sd)) (C := R_C) (T := F_C) (N := 5) hx hb hts i_C hown hK hP 1 rfl rfl 1 (by decide) (hts _ k_273) (fun _ h9 => h9) rfl d_O_tripAbove_56 ?_
    refine nx_i2l hx hb d_O_tripAbove_59 (by omega) ?_
    refine lv_lload_n hx hb d_O_tripAbove_60 rfl (lv_at hl 1 rfl) ?_
    refine lv_lload hx hb d_O_tripAbove_61 (lv_at hl 0 rfl) ?_
    refine nx_ladd hx hb d_O_tripAbove_63 ?_
    refine nx_lmul hx hb d_O_tripAbove_64 ?_
    refine nx_ladd hx hb d_O_tripAbove_65 ?_
    exact W.lret hx hb hr (fun t ht hW => ⟨_, rfl, by rw [oA, if_pos h1], ht⟩) (fun q h => by cases h) d_O_tripAbove_66
  · refine lv_lconst (v := lN 0) hx hb d_O_tripAbove_7 (by decide) ?_
    exact W.lret hx hb hr (fun t ht hW => ⟨_, rfl, by rw [oA, if_neg (by omega)], ht⟩) (fun q h => by cases h) d_O_tripAbove_8
set_option maxHeartbeats 4000000 in
set_option maxRecDepth 100000 in
theorem c_O_tripBelow (l : Launch) {dC : Nat → ClassId} {dI : Nat → Nat → Nat} {cI cL cT : ClassId} {sa : Nat → Nat} (g : Nat → Nat) (ka e0 wy so ho rm sd dr pe ce : Nat) (he : e0 ≤ 1) (hrm : rm ≤ 5) (hsd : sd ≤ 100) (hdr : dr ≤ 30) (hpe : pe ≤ 10) : Met l y_O_tripBelow (Cond.code y_O_tripBelow b_O_tripBelow 2 (some .long) :: gw) ({ frames := 0, cells := 0, slots := 0, locals := 0 } : Room) (pr dC dI cI cL cT sa [.ref (g 5), .ref ka] [(g 5, .inr (2, [.int (nI e0), .long (lN wy), .long (lN so), .long (lN ho)])), (ka, .inr (1, [.int (nI rm), .int (nI sd), .int (nI dr), .int (nI pe), .int (nI ce)]))]) (vp_Sl (fun r => r = lN (sd * wy))) 0 0 (fun _ => False) := by
  refine Met.ofW (cc := b_O_tripBelow) (maxL := 2) (ret := (some .long)) (by decide) rfl ?_
  intro p e s m args below meth c s₁ B hml hv
  obtain ⟨rfl, hC, hP⟩ := hv
  have hx := B.exec
  have hb := B.bytes
  have hr := B.returns
  have hts : ∀ w ∈ gw, w.before ([.ref (g 5), .ref ka] : List Value).toArray s = true := fun w hw => atoms_spec (ws := Cond.code y_O_tripBelow b_O_tripBelow 2 (some .long) :: gw) B.pre w (List.mem_cons_of_mem _ hw)
  have hown : s.vm.findClass R_O = some m.cls := findClass_of_methodNamed B.named
  have hlocks := B.notSynchronized
  have hK := hC.1
  have hfr : 0 ≤ (headSpec (Cond.code y_O_tripBelow b_O_tripBelow 2 (some .long) :: gw) ({ frames := 0, cells := 0, slots := 0, locals := 0 } : Room)).room.frames := Nat.le_refl _
  have hlo : 0 ≤ (headSpec (Cond.code y_O_tripBelow b_O_tripBelow 2 (some .long) :: gw) ({ frames := 0, cells := 0, slots := 0, locals := 0 } : Room)).room.locals := Nat.le_refl _
  have hce : 0 ≤ (headSpec (Cond.code y_O_tripBelow b_O_tripBelow 2 (some .long) :: gw) ({ frames := 0, cells := 0, slots := 0, locals := 0 } : Room)).room.cells := Nat.zero_le _
  have hsl : 0 ≤ (headSpec (Cond.code y_O_tripBelow b_O_tripBelow 2 (some .long) :: gw) ({ frames := 0, cells := 0, slots := 0, locals := 0 } : Room)).room.slots := Nat.zero_le _
  have hl := lv_entry ([.ref (g 5), .ref ka]) (n := 2) (Nat.le_of_ble_eq_true rfl)
  rw [lg_entry_eq]
  generalize (lg_sl ([.ref (g 5), .ref ka]) ++ List.replicate (2 - (lg_sl ([.ref (g 5), .ref ka])).length) Slot.unset).toArray = ls at hl ⊢
  have hl : lv_has ls 2 [(0, .ref (g 5)), (1, .ref ka)] := hl
  refine lv_aload_n hx hb d_O_tripBelow_0 rfl (lv_at hl 1 rfl) ?_
  refine va_get (D := (dC, dI)) (ci := 1) (v := .int (nI sd)) (C := R_C) (T := F_C) (N := 5) hx hb hts i_C hown hK hP 1 rfl rfl 1 (by decide) (hts _ k_273) (fun _ h9 => h9) rfl d_O_tripBelow_1 ?_
  refine nx_i2l hx hb d_O_tripBelow_4 (by omega) ?_
  refine lv_aload_n hx hb d_O_tripBelow_5 rfl (lv_at hl 0 rfl) ?_
  refine va_get (D := (dC, dI)) (ci := 2) (v := .long (lN wy)) (C := R_O) (T := F_O) (N := 4) hx hb hts i_O hown hK hP 0 rfl rfl 1 (by decide) (hts _ k_60) (fun _ h9 => h9) rfl d_O_tripBelow_6 ?_
  refine nx_lmul hx hb d_O_tripBelow_9 ?_
  exact W.lret hx hb hr (fun t ht hW => ⟨_, rfl, rfl, ht⟩) (fun q h => by cases h) d_O_tripBelow_10
set_option maxHeartbeats 4000000 in
set_option maxRecDepth 100000 in
theorem c_O_carriedBy (l : Launch) {dC : Nat → ClassId} {dI : Nat → Nat → Nat} {cI cL cT : ClassId} {sa : Nat → Nat} (g : Nat → Nat) (ka e0 wy so ho rm sd dr pe ce : Nat) (cars : Nat) (he : e0 ≤ 1) (hrm : rm ≤ 5) (hsd : sd ≤ 100) (hdr : dr ≤ 30) (hpe : pe ≤ 10) (hcars : cars ≤ 6) (hA6 : oA e0 wy so ho rm sd dr pe < 2 ^ 63) (hB6 : 300 * cars * rm * (sd * wy) < 2 ^ 63) : Met l y_O_carriedBy (Cond.code y_O_carriedBy b_O_carriedBy 5 (some .long) :: gw) ({ frames := 1, cells := 0, slots := 0, locals := 25 } : Room) (pr dC dI cI cL cT sa [.ref (g 5), .int (nI cars), .ref ka] [(g 5, .inr (2, [.int (nI e0), .long (lN wy), .long (lN so), .long (lN ho)])), (ka, .inr (1, [.int (nI rm), .int (nI sd), .int (nI dr), .int (nI pe), .int (nI ce)]))]) (vp_Sl (fun r => r = lN (oC cars rm (oA e0 wy so ho rm sd dr pe) (sd * wy)))) 0 0 (fun _ => False) := by
  refine Met.ofW (cc := b_O_carriedBy) (maxL := 5) (ret := (some .long)) (by decide) rfl ?_
  intro p e s m args below meth c s₁ B hml hv
  obtain ⟨rfl, hC, hP⟩ := hv
  have hx := B.exec
  have hb := B.bytes
  have hr := B.returns
  have hts : ∀ w ∈ gw, w.before ([.ref (g 5), .int (nI cars), .ref ka] : List Value).toArray s = true := fun w hw => atoms_spec (ws := Cond.code y_O_carriedBy b_O_carriedBy 5 (some .long) :: gw) B.pre w (List.mem_cons_of_mem _ hw)
  have hown : s.vm.findClass R_O = some m.cls := findClass_of_methodNamed B.named
  have hlocks := B.notSynchronized
  have hK := hC.1
  have hfr : 1 ≤ (headSpec (Cond.code y_O_carriedBy b_O_carriedBy 5 (some .long) :: gw) ({ frames := 1, cells := 0, slots := 0, locals := 25 } : Room)).room.frames := Nat.le_refl _
  have hlo : 25 ≤ (headSpec (Cond.code y_O_carriedBy b_O_carriedBy 5 (some .long) :: gw) ({ frames := 1, cells := 0, slots := 0, locals := 25 } : Room)).room.locals := Nat.le_refl _
  have hce : 0 ≤ (headSpec (Cond.code y_O_carriedBy b_O_carriedBy 5 (some .long) :: gw) ({ frames := 1, cells := 0, slots := 0, locals := 25 } : Room)).room.cells := Nat.zero_le _
  have hsl : 0 ≤ (headSpec (Cond.code y_O_carriedBy b_O_carriedBy 5 (some .long) :: gw) ({ frames := 1, cells := 0, slots := 0, locals := 25 } : Room)).room.slots := Nat.zero_le _
  have hl := lv_entry ([.ref (g 5), .int (nI cars), .ref ka]) (n := 5) (Nat.le_of_ble_eq_true rfl)
  rw [lg_entry_eq]
  generalize (lg_sl ([.ref (g 5), .int (nI cars), .ref ka]) ++ List.replicate (5 - (lg_sl ([.ref (g 5), .int (nI cars), .ref ka])).length) Slot.unset).toArray = ls at hl ⊢
  have hl : lv_has ls 5 [(0, .ref (g 5)), (1, .int (nI cars)), (2, .ref ka)] := hl
  refine lv_aload_n hx hb d_O_carriedBy_0 rfl (lv_at hl 0 rfl) ?_
  refine lv_aload_n hx hb d_O_carriedBy_1 rfl (lv_at hl 2 rfl) ?_
  refine ro_calll (va_runV (As := [.ref ka]) (rest := []) ⟨hx, hb, hml, hown, hts⟩ (c_O_tripAbove l g ka e0 wy so ho rm sd dr pe ce he hrm hsd hdr hpe) (cwV 1 hts (gw_V k_346 k_378 k_344 k_345 k_3) rfl rfl rfl (by decide +kernel) ⟨Nat.le_trans (Nat.le_of_ble_eq_true rfl) hfr, Nat.le_trans (Nat.le_of_ble_eq_true rfl) hlo⟩) ⟨pr_blind, va_recv hK hP (ci := 2) (q0 := 0) rfl rfl, pr_at hC (hP.sub (ws' := [(g 5, .inr (2, [.int (nI e0), .long (lN wy), .long (lN so), .long (lN ho)])), (ka, .inr (1, [.int (nI rm), .int (nI sd), .int (nI dr), .int (nI pe), .int (nI ce)]))]) [0, 1] rfl)⟩ rfl rfl hl.1 rfl (lv_room (Nat.le_of_ble_eq_true rfl)) d_O_carriedBy_2 ⟨hce, hsl⟩) (fun r9 h9 => ?_)
  subst h9
  refine lv_lstore_n (lv' := [(3, .long (lN (oA e0 wy so ho rm sd dr pe))), (0, .ref (g 5)), (1, .int (nI cars)), (2, .ref ka)]) hx hb d_O_carriedBy_5 rfl hl (by decide) rfl (fun ls hl => ?_)
  refine lv_lload_n hx hb d_O_carriedBy_6 rfl (lv_at hl 0 rfl) ?_
  refine lv_lconst (v := lN 0) hx hb d_O_carriedBy_7 (by decide) ?_
  refine nx_lcn_ne (tgt := 16) hx hb d_O_carriedBy_8 d_O_carriedBy_9 (by decide) hA6 (by decide) (fun h1 => ?_) (fun h1 => ?_)
  · refine lv_ldc2 (v := lN 300) hx hb hown (hts _ k_379) d_O_carriedBy_16 ?_
    refine lv_iload_n hx hb d_O_carriedBy_19 rfl (lv_at hl 2 rfl) ?_
    refine nx_i2l hx hb d_O_carriedBy_20 (by omega) ?_
    refine nx_lmul hx hb d_O_carriedBy_21 ?_
    refine lv_aload_n hx hb d_O_carriedBy_22 rfl (lv_at hl 3 rfl) ?_
    refine va_get (D := (dC, dI)) (ci := 1) (v := .int (nI rm)) (C := R_C) (T := F_C) (N := 5) hx hb hts i_C hown hK hP 1 rfl rfl 0 (by decide) (hts _ k_270) (fun _ h9 => h9) rfl d_O_carriedBy_23 ?_
    refine nx_i2l hx hb d_O_carriedBy_26 (by omega) ?_
    refine nx_lmul hx hb d_O_carriedBy_27 ?_
    refine lv_aload_n hx hb d_O_carriedBy_28 rfl (lv_at hl 1 rfl) ?_
    refine lv_aload_n hx hb d_O_carriedBy_29 rfl (lv_at hl 3 rfl) ?_
    refine ro_calll (va_runV (As := [.ref ka]) (rest := [.long (lN ((300 * cars) * rm))]) ⟨hx, hb, hml, hown, hts⟩ (c_O_tripBelow l g ka e0 wy so ho rm sd dr pe ce he hrm hsd hdr hpe) (cwV 1 hts (gw_V k_351 k_380 k_349 k_350 k_3) rfl rfl rfl (by decide +kernel) ⟨Nat.le_trans (Nat.le_of_ble_eq_true rfl) hfr, Nat.le_trans (Nat.le_of_ble_eq_true rfl) hlo⟩) ⟨pr_blind, va_recv hK hP (ci := 2) (q0 := 0) rfl rfl, pr_at hC (hP.sub (ws' := [(g 5, .inr (2, [.int (nI e0), .long (lN wy), .long (lN so), .long (lN ho)])), (ka, .inr (1, [.int (nI rm), .int (nI sd), .int (nI dr), .int (nI pe), .int (nI ce)]))]) [0, 1] rfl)⟩ rfl rfl hl.1 rfl (lv_room (Nat.le_of_ble_eq_true rfl)) d_O_carriedBy_30 ⟨hce, hsl⟩) (fun r9 h9 => ?_)
    subst h9
    refine nx_lmul hx hb d_O_carriedBy_33 ?_
    refine lv_lload_n hx hb d_O_carriedBy_34 rfl (lv_at hl 0 rfl) ?_
    refine nx_ldiv hx hb d_O_carriedBy_35 hB6 (Nat.pos_of_ne_zero h1) hA6 ?_
    exact W.lret hx hb hr (fun t ht hW => ⟨_, rfl, by rw [oC, if_neg h1], ht⟩) (fun q h => by cases h) d_O_carriedBy_36
  · refine lv_lconst (v := lN 0) hx hb d_O_carriedBy_12 (by decide) ?_
    refine lv_goto (tgt := 36) hx hb d_O_carriedBy_13 (by decide) ?_
    exact W.lret hx hb hr (fun t ht hW => ⟨_, rfl, by rw [oC, if_pos h1], ht⟩) (fun q h => by cases h) d_O_carriedBy_36
set_option maxHeartbeats 4000000 in
set_option maxRecDepth 100000 in
theorem c_S_order (l : Launch) {dC : Nat → ClassId} {dI : Nat → Nat → Nat} {cI cL cT : ClassId} {sa : Nat → Nat} (g : Nat → Nat) (bl sf sz : Int32) (xa xb : Nat → Nat) (zo ot : Nat) (hz : zo < 169) (ho : ot < 169) (ha1 : xa zo < 2 ^ 63) (hb1 : xb zo < 2 ^ 50) (hc1 : 0 < xb zo) (ha2 : xa ot < 2 ^ 63) (hb2 : xb ot < 2 ^ 50) (hc2 : 0 < xb ot) : Met l y_S_order (Cond.code y_S_order b_S_order 3 (some .int) :: gw) ({ frames := 1, cells := 0, slots := 0, locals := 45 } : Room) (pr dC dI cI cL cT sa [.ref (g 6), .int (nI zo), .int (nI ot)] [(g 6, .inr (3, [.ref (g 7), .ref (g 8), .ref (g 9), .ref (g 10), .int bl, .int sf, .int sz])), (g 7, .inl (cL, 169, .inr (.inl (fun j => lN (xa j))))), (g 8, .inl (cL, 169, .inr (.inl (fun j => lN (xb j)))))]) (vp_Si (fun r => r = kI (ma_cmp (xa zo * xb ot) (xa ot * xb zo)))) 0 0 (fun _ => False) := by
  refine Met.ofW (cc := b_S_order) (maxL := 3) (ret := (some .int)) (by decide) rfl ?_
  intro p e s m args below meth c s₁ B hml hv
  obtain ⟨rfl, hC, hP⟩ := hv
  have hx := B.exec
  have hb := B.bytes
  have hr := B.returns
  have hts : ∀ w ∈ gw, w.before ([.ref (g 6), .int (nI zo), .int (nI ot)] : List Value).toArray s = true := fun w hw => atoms_spec (ws := Cond.code y_S_order b_S_order 3 (some .int) :: gw) B.pre w (List.mem_cons_of_mem _ hw)
  have hown : s.vm.findClass R_S = some m.cls := findClass_of_methodNamed B.named
  have hlocks := B.notSynchronized
  have hK := hC.1
  have hfr : 1 ≤ (headSpec (Cond.code y_S_order b_S_order 3 (some .int) :: gw) ({ frames := 1, cells := 0, slots := 0, locals := 45 } : Room)).room.frames := Nat.le_refl _
  have hlo : 45 ≤ (headSpec (Cond.code y_S_order b_S_order 3 (some .int) :: gw) ({ frames := 1, cells := 0, slots := 0, locals := 45 } : Room)).room.locals := Nat.le_refl _
  have hce : 0 ≤ (headSpec (Cond.code y_S_order b_S_order 3 (some .int) :: gw) ({ frames := 1, cells := 0, slots := 0, locals := 45 } : Room)).room.cells := Nat.zero_le _
  have hsl : 0 ≤ (headSpec (Cond.code y_S_order b_S_order 3 (some .int) :: gw) ({ frames := 1, cells := 0, slots := 0, locals := 45 } : Room)).room.slots := Nat.zero_le _
  have hl := lv_entry ([.ref (g 6), .int (nI zo), .int (nI ot)]) (n := 3) (Nat.le_of_ble_eq_true rfl)
  rw [lg_entry_eq]
  generalize (lg_sl ([.ref (g 6), .int (nI zo), .int (nI ot)]) ++ List.replicate (3 - (lg_sl ([.ref (g 6), .int (nI zo), .int (nI ot)])).length) Slot.unset).toArray = ls at hl ⊢
  have hl : lv_has ls 3 [(0, .ref (g 6)), (1, .int (nI zo)), (2, .int (nI ot))] := hl
  refine lv_aload_n hx hb d_S_order_0 rfl (lv_at hl 0 rfl) ?_
  refine va_get (D := (dC, dI)) (ci := 3) (v := .ref (g 7)) (C := R_S) (T := F_S) (N := 7) hx hb hts i_S hown hK hP 0 rfl rfl 0 (by decide) (hts _ k_81) (fun _ h9 => h9) rfl d_S_order_1 ?_
  refine lv_iload_n hx hb d_S_order_4 rfl (lv_at hl 1 rfl) ?_
  refine nx_lald hx hb hK hP 1 1 rfl rfl (k := zo) (v := lN (xa zo)) (by omega) (by decide) rfl d_S_order_5 ?_
  refine lv_aload_n hx hb d_S_order_6 rfl (lv_at hl 0 rfl) ?_
  refine va_get (D := (dC, dI)) (ci := 3) (v := .ref (g 8)) (C := R_S) (T := F_S) (N := 7) hx hb hts i_S hown hK hP 0 rfl rfl 1 (by decide) (hts _ k_82) (fun _ h9 => h9) rfl d_S_order_7 ?_
  refine lv_iload_n hx hb d_S_order_10 rfl (lv_at hl 1 rfl) ?_
  refine nx_lald hx hb hK hP 2 1 rfl rfl (k := zo) (v := lN (xb zo)) (by omega) (by decide) rfl d_S_order_11 ?_
  refine lv_aload_n hx hb d_S_order_12 rfl (lv_at hl 0 rfl) ?_
  refine va_get (D := (dC, dI)) (ci := 3) (v := .ref (g 7)) (C := R_S) (T := F_S) (N := 7) hx hb hts i_S hown hK hP 0 rfl rfl 0 (by decide) (hts _ k_81) (fun _ h9 => h9) rfl d_S_order_13 ?_
  refine lv_iload_n hx hb d_S_order_16 rfl (lv_at hl 2 rfl) ?_
  refine nx_lald hx hb hK hP 1 1 rfl rfl (k := ot) (v := lN (xa ot)) (by omega) (by decide) rfl d_S_order_17 ?_
  refine lv_aload_n hx hb d_S_order_18 rfl (lv_at hl 0 rfl) ?_
  refine va_get (D := (dC, dI)) (ci := 3) (v := .ref (g 8)) (C := R_S) (T := F_S) (N := 7) hx hb hts i_S hown hK hP 0 rfl rfl 1 (by decide) (hts _ k_82) (fun _ h9 => h9) rfl d_S_order_19 ?_
  refine lv_iload_n hx hb d_S_order_22 rfl (lv_at hl 2 rfl) ?_
  refine nx_lald hx hb hK hP 2 1 rfl rfl (k := ot) (v := lN (xb ot)) (by omega) (by decide) rfl d_S_order_23 ?_
  refine ro_calli (va_runSN (As := [.long (lN (xa zo)), .long (lN (xb zo)), .long (lN (xa ot)), .long (lN (xb ot))]) (rest := []) ⟨hx, hb, hml, hown, hts⟩ (c_T_orderOfFractions l (xa zo) (xb zo) (xa ot) (xb ot) ha1 hb1 ha2 hb2 hc1 hc2) ⟨va_cnB 4 hts (gw_code k_361) rfl rfl rfl (hC.2.1 (Cond.methodLinkNest R_S 80 y_T_orderOfFractions R_T) (by simp [ct_nest])) (hts _ k_1) (by decide +kernel) ⟨Nat.le_trans (Nat.le_of_ble_eq_true rfl) hfr, Nat.le_trans (Nat.le_of_ble_eq_true rfl) hlo⟩, hts _ k_360, trivial⟩ ⟨pr_blind, pr_at hC (fun k q h => by simp at h)⟩ rfl rfl hl.1 rfl (lv_room (Nat.le_of_ble_eq_true rfl)) d_S_order_24 ⟨hce, hsl⟩) (fun r9 h9 => ?_)
  subst h9
  exact W.iret hx hb hr (fun t ht hW => ⟨_, rfl, rfl, ht⟩) (fun q h => by cases h) d_S_order_27
set_option maxHeartbeats 4000000 in
set_option maxRecDepth 100000 in
theorem c_S_longer (l : Launch) {dC : Nat → ClassId} {dI : Nat → Nat → Nat} {cI cL cT : ClassId} {sa : Nat → Nat} (g : Nat → Nat) (bl sf sz : Int32) (xa xb : Nat → Nat) (zo ot : Nat) (hz : zo < 169) (ho : ot < 169) (ha1 : xa zo < 2 ^ 63) (hb1 : xb zo < 2 ^ 50) (hc1 : 0 < xb zo) (ha2 : xa ot < 2 ^ 63) (hb2 : xb ot < 2 ^ 50) (hc2 : 0 < xb ot) : Met l y_S_longer (Cond.code y_S_longer b_S_longer 3 (some .int) :: gw) ({ frames := 2, cells := 0, slots := 0, locals := 67 } : Room) (pr dC dI cI cL cT sa [.ref (g 6), .int (nI zo), .int (nI ot)] [(g 6, .inr (3, [.ref (g 7), .ref (g 8), .ref (g 9), .ref (g 10), .int bl, .int sf, .int sz])), (g 7, .inl (cL, 169, .inr (.inl (fun j => lN (xa j))))), (g 8, .inl (cL, 169, .inr (.inl (fun j => lN (xb j)))))]) (vp_Si (fun r => r = nI (if xa ot * xb zo < xa zo * xb ot then zo else ot))) 0 0 (fun _ => False) := by
  refine Met.ofW (cc := b_S_longer) (maxL := 3) (ret := (some .int)) (by decide) rfl ?_
  intro p e s m args below meth c s₁ B hml hv
  obtain ⟨rfl, hC, hP⟩ := hv
  have hx := B.exec
  have hb := B.bytes
  have hr := B.returns
  have hts : ∀ w ∈ gw, w.before ([.ref (g 6), .int (nI zo), .int (nI ot)] : List Value).toArray s = true := fun w hw => atoms_spec (ws := Cond.code y_S_longer b_S_longer 3 (some .int) :: gw) B.pre w (List.mem_cons_of_mem _ hw)
  have hown : s.vm.findClass R_S = some m.cls := findClass_of_methodNamed B.named
  have hlocks := B.notSynchronized
  have hK := hC.1
  have hfr : 2 ≤ (headSpec (Cond.code y_S_longer b_S_longer 3 (some .int) :: gw) ({ frames := 2, cells := 0, slots := 0, locals := 67 } : Room)).room.frames := Nat.le_refl _
  have hlo : 67 ≤ (headSpec (Cond.code y_S_longer b_S_longer 3 (some .int) :: gw) ({ frames := 2, cells := 0, slots := 0, locals := 67 } : Room)).room.locals := Nat.le_refl _
  have hce : 0 ≤ (headSpec (Cond.code y_S_longer b_S_longer 3 (some .int) :: gw) ({ frames := 2, cells := 0, slots := 0, locals := 67 } : Room)).room.cells := Nat.zero_le _
  have hsl : 0 ≤ (headSpec (Cond.code y_S_longer b_S_longer 3 (some .int) :: gw) ({ frames := 2, cells := 0, slots := 0, locals := 67 } : Room)).room.slots := Nat.zero_le _
  have hl := lv_entry ([.ref (g 6), .int (nI zo), .int (nI ot)]) (n := 3) (Nat.le_of_ble_eq_true rfl)
  rw [lg_entry_eq]
  generalize (lg_sl ([.ref (g 6), .int (nI zo), .int (nI ot)]) ++ List.replicate (3 - (lg_sl ([.ref (g 6), .int (nI zo), .int (nI ot)])).length) Slot.unset).toArray = ls at hl ⊢
  have hl : lv_has ls 3 [(0, .ref (g 6)), (1, .int (nI zo)), (2, .int (nI ot))] := hl
  refine lv_aload_n hx hb d_S_longer_0 rfl (lv_at hl 0 rfl) ?_
  refine lv_iload_n hx hb d_S_longer_1 rfl (lv_at hl 1 rfl) ?_
  refine lv_iload_n hx hb d_S_longer_2 rfl (lv_at hl 2 rfl) ?_
  refine ro_calli (va_runV (As := [.int (nI zo), .int (nI ot)]) (rest := []) ⟨hx, hb, hml, hown, hts⟩ (c_S_order l g bl sf sz xa xb zo ot hz ho ha1 hb1 hc1 ha2 hb2 hc2) (cwV 2 hts (gw_V k_426 k_423 k_425 ks_S_order k_4) rfl rfl rfl (by decide +kernel) ⟨Nat.le_trans (Nat.le_of_ble_eq_true rfl) hfr, Nat.le_trans (Nat.le_of_ble_eq_true rfl) hlo⟩) ⟨pr_blind, va_recv hK hP (ci := 3) (q0 := 0) rfl rfl, pr_at hC (hP.sub (ws' := [(g 6, .inr (3, [.ref (g 7), .ref (g 8), .ref (g 9), .ref (g 10), .int bl, .int sf, .int sz])), (g 7, .inl (cL, 169, .inr (.inl (fun j => lN (xa j))))), (g 8, .inl (cL, 169, .inr (.inl (fun j => lN (xb j)))))]) [0, 1, 2] rfl)⟩ rfl rfl hl.1 rfl (lv_room (Nat.le_of_ble_eq_true rfl)) d_S_longer_3 ⟨hce, hsl⟩) (fun r9 h9 => ?_)
  subst h9
  have k3 := ma_cmp_3 (xa zo * xb ot) (xa ot * xb zo)
  refine lv_if_le (tgt := 13) hx hb d_S_longer_6 (by decide) (fun h1 => ?_) (fun h1 => ?_)
  · refine lv_iload_n hx hb d_S_longer_13 rfl (lv_at hl 2 rfl) ?_
    exact W.iret hx hb hr (fun t ht hW => ⟨_, rfl, by rw [if_neg (fun q => absurd (ma_cmp_pos.mpr q) (by rw [← kI_pos k3]; exact Int32.not_lt.mpr h1))], ht⟩) (fun q h => by cases h) d_S_longer_14
  · refine lv_iload_n hx hb d_S_longer_9 rfl (lv_at hl 1 rfl) ?_
    refine lv_goto (tgt := 14) hx hb d_S_longer_10 (by decide) ?_
    exact W.iret hx hb hr (fun t ht hW => ⟨_, rfl, by rw [if_pos (ma_cmp_pos.mp ((kI_pos k3).mp (Int32.not_le.mp h1)))], ht⟩) (fun q h => by cases h) d_S_longer_14
end
section
/-! METHODS THAT WRITE: their start and their end, over the cells of their world. -/
section WRA
variable {dC : Nat → ClassId} {dI : Nat → Nat → Nat} {cI cL cT : ClassId} {sa : Nat → Nat}
def wr (dC : Nat → ClassId) (dI : Nat → Nat → Nat) (cI cL cT : ClassId) (sa : Nat → Nat) (av : List Value) (ws : va_W) (sz : Nat) : Array Value → State → Prop :=
  va_Pc av (fun U => U.heap.size = sz ∧ CT dC dI cI cL cT sa U ∧ va_P (dC, dI) vwCl ws U.heap ∧ va_D (fun _ => True) ws)
theorem wr_blind {av : List Value} {ws : va_W} {sz : Nat} : FrameBlind (wr dC dI cI cL cT sa av ws sz) := fun a U g mk h => ⟨h.1, h.2.1, h.2.2.1.call, h.2.2.2⟩
theorem wr_at {s : State} {H : Heap} {av : List Value} {ws : va_W} {A : Nat → Prop} (hC : CT dC dI cI cL cT sa s) (hP : va_P (dC, dI) vwCl ws H) (hD : va_D A ws) : ∀ U : State, U.heap = H → s.WarmedH U.vm → wr dC dI cI cL cT sa av ws H.size av.toArray U :=
  fun U hU hW => ⟨rfl, by rw [hU], hC.warm hW, by rw [hU]; exact hP, hD.weaken (fun _ _ _ _ => trivial)⟩
def wB (dC : Nat → ClassId) (dI : Nat → Nat → Nat) (ws ws' : va_W) (sz : Nat) (_ : Unit) (t : State) : Prop := va_P (dC, dI) vwCl ws' t.heap ∧ va_D (va_A ws sz) ws'
end WRA
/-- a zone's trip, above and below: n floors from fr on, a car of room P -/
def tA (pp hh : Nat → Nat) (fr n P sd dr pe : Nat) : Nat := if sm pp fr n = 0 then 0 else 2 * hp pp hh P fr n + sd * (dr * (sp pp (sm pp fr n) P fr n + sm pp fr n ^ P) + 2 * P * pe * sm pp fr n ^ P)
def tB (pp : Nat → Nat) (fr n P sd : Nat) : Nat := sd * (if sm pp fr n = 0 then 1 else sm pp fr n ^ P)
theorem tA_eq {pp hh : Nat → Nat} {fr n P sd dr pe : Nat} (h : sm pp fr n ≠ 0) : 2 * hp pp hh P fr n + (sp pp (sm pp fr n) P fr n + sm pp fr n ^ P) * dr * sd + 2 * P * pe * sd * sm pp fr n ^ P = tA pp hh fr n P sd dr pe := by
  rw [tA, if_neg h]
  simp only [Nat.mul_add, Nat.add_mul, Nat.mul_comm, Nat.mul_left_comm, Nat.mul_assoc, Nat.add_assoc]
theorem tB_eq {pp : Nat → Nat} {fr n P sd : Nat} (h : sm pp fr n ≠ 0) : sd * sm pp fr n ^ P = tB pp fr n P sd := by rw [tB, if_neg h]
theorem pw_le {U P : Nat} (hU : U ≤ 200) (hP : P ≤ 5) : U ^ P ≤ 320000000000 := by
  calc U ^ P ≤ 200 ^ P := Nat.pow_le_pow_left hU P
    _ ≤ 200 ^ 5 := Nat.pow_le_pow_right (by decide) hP
theorem sp_le {f : Nat → Nat} {U P a : Nat} (hU : U ≤ 200) (hP : P ≤ 5) : ∀ n : Nat, sp f U P a n ≤ n * 320000000000 := by
  intro n
  induction n with
  | zero => exact Nat.le_refl _
  | succ n ih =>
    have h1 := pw_le hU hP
    show sp f U P a n + (U ^ P - (U - f (a + n)) ^ P) ≤ _
    omega
theorem hp_le {f h : Nat → Nat} {P a n : Nat} (hP : P ≤ 5) (hU : sm f a n ≤ 200) (hh : ∀ k, k < n → h (a + k) ≤ 1200) : ∀ k : Nat, k ≤ n → hp f h P a k ≤ k * 384000000000000 := by
  intro k
  induction k with
  | zero => intro _; exact Nat.le_refl _
  | succ k ih =>
    intro hk
    have h1 : sm f a (k + 1) ^ P ≤ 320000000000 := pw_le (Nat.le_trans (sm_mono hk) hU) hP
    have h2 := ih (by omega)
    have h3 : h (a + k) * (sm f a (k + 1) ^ P - sm f a k ^ P) ≤ 1200 * 320000000000 := Nat.mul_le_mul (hh k (by omega)) (by omega)
    show hp f h P a k + h (a + k) * (sm f a (k + 1) ^ P - sm f a k ^ P) ≤ _
    omega
theorem tA_lt {pp hh : Nat → Nat} {fr n P sd dr pe : Nat} (hn : n ≤ 12) (hU : sm pp fr n ≤ 200) (hh2 : ∀ k, k < n → hh (fr + k) ≤ 1200) (hP : P ≤ 5) (hsd : sd ≤ 100) (hdr : dr ≤ 30) (hpe : pe ≤ 10) : tA pp hh fr n P sd dr pe < 2 ^ 63 := by
  unfold tA
  by_cases h : sm pp fr n = 0
  · rw [if_pos h]; decide
  · rw [if_neg h]
    have h1 := pw_le hU hP
    have h2 := sp_le (f := pp) (a := fr) hU hP n
    have h3 := hp_le hP hU hh2 n (Nat.le_refl n)
    have h4 : n * 320000000000 ≤ 12 * 320000000000 := Nat.mul_le_mul_right _ hn
    have h5 : n * 384000000000000 ≤ 12 * 384000000000000 := Nat.mul_le_mul_right _ hn
    have h6 : dr * (sp pp (sm pp fr n) P fr n + sm pp fr n ^ P) ≤ 30 * (13 * 320000000000) := Nat.mul_le_mul hdr (by omega)
    have h7 : 2 * P * pe ≤ 10 * 10 := Nat.mul_le_mul (by omega) hpe
    have h8 : 2 * P * pe * sm pp fr n ^ P ≤ 100 * 320000000000 := Nat.mul_le_mul h7 h1
    have h9 : sd * (dr * (sp pp (sm pp fr n) P fr n + sm pp fr n ^ P) + 2 * P * pe * sm pp fr n ^ P) ≤ 100 * (30 * (13 * 320000000000) + 100 * 320000000000) := Nat.mul_le_mul hsd (by omega)
    omega
theorem tB_lt {pp : Nat → Nat} {fr n P sd : Nat} (hU : sm pp fr n ≤ 200) (hP : P ≤ 5) (hsd : sd ≤ 100) : tB pp fr n P sd ≤ 32000000000000 := by
  unfold tB
  have h1 := pw_le hU hP
  have h2 : (if sm pp fr n = 0 then 1 else sm pp fr n ^ P) ≤ 320000000000 := by
    by_cases h : sm pp fr n = 0
    · rw [if_pos h]; decide
    · rw [if_neg h]; exact h1
  exact Nat.mul_le_mul hsd h2
theorem tB_pos {pp : Nat → Nat} {fr n P sd : Nat} (hsd : 0 < sd) : 0 < tB pp fr n P sd := by
  unfold tB
  refine Nat.mul_pos hsd ?_
  by_cases h : sm pp fr n = 0
  · rw [if_pos h]; decide
  · rw [if_neg h]; exact Nat.pow_pos (Nat.pos_of_ne_zero h)
end
section
section
variable {p : Program} {l : Launch} {e : Env} {R : Room} {s : State} {m : MethodId} {args : Array Value} {below : List Frame} {meth : Method} {c : Code} {H : Heap} {locs : List Loc} {cells slots : Nat} {Q : State → Prop}
set_option maxHeartbeats 4000000 in
set_option maxRecDepth 100000 in
theorem l_M_lowest (hF : CallFix p m c b_M_lowest 11 s args gw R_M) {q : Nat → Nat} {a0 b0 X : Nat} (k31 : ∀ ls : Array Slot, lv_has ls 11 [(0, .ref (q 0)), (1, .long (lN a0)), (3, .long (lN b0)), (5, .long (lN X))] → W p l e R s m args below meth c H locs cells slots Q (F0 m 31 ls [])) : ∀ (n a b : Nat), b < n → a < 2 ^ 63 → b < 2 ^ 63 → Nat.gcd a b = X → ∀ ls : Array Slot, lv_has ls 11 [(0, .ref (q 0)), (1, .long (lN a0)), (3, .long (lN b0)), (5, .long (lN a)), (7, .long (lN b))] → W p l e R s m args below meth c H locs cells slots Q (F0 m 6 ls []) := by
  obtain ⟨hx, hb, hml, hown, hts⟩ := id hF
  intro n
  induction n with
  | zero => intro a b hn; omega
  | succ n ih =>
    intro a b hn ha6 hb6 hX ls hl
    refine lv_lload hx hb d_M_lowest_6 (lv_at hl 4 rfl) ?_
    refine lv_lconst (v := lN 0) hx hb d_M_lowest_8 (by decide) ?_
    refine nx_lcn_eq (tgt := 31) hx hb d_M_lowest_9 d_M_lowest_10 (by decide) hb6 (by decide) (fun h1 => ?_) (fun h1 => ?_)
    · subst h1
      rw [Nat.gcd_zero_right] at hX
      subst hX
      exact k31 ls (lv_sub hl [0, 1, 2, 3] rfl)
    · refine lv_lload hx hb d_M_lowest_13 (lv_at hl 3 rfl) ?_
      refine lv_lload hx hb d_M_lowest_15 (lv_at hl 4 rfl) ?_
      refine nx_lrem hx hb d_M_lowest_17 ha6 (Nat.pos_of_ne_zero h1) hb6 ?_
      refine lv_lstore (lv' := [(9, .long (lN (a % b))), (0, .ref (q 0)), (1, .long (lN a0)), (3, .long (lN b0)), (5, .long (lN a)), (7, .long (lN b))]) hx hb d_M_lowest_18 hl (by decide) rfl (fun ls hl => ?_)
      refine lv_lload hx hb d_M_lowest_20 (lv_at hl 5 rfl) ?_
      refine lv_lstore (lv' := [(5, .long (lN b)), (9, .long (lN (a % b))), (0, .ref (q 0)), (1, .long (lN a0)), (3, .long (lN b0)), (7, .long (lN b))]) hx hb d_M_lowest_22 hl (by decide) rfl (fun ls hl => ?_)
      refine lv_lload hx hb d_M_lowest_24 (lv_at hl 1 rfl) ?_
      refine lv_lstore (lv' := [(7, .long (lN (a % b))), (5, .long (lN b)), (9, .long (lN (a % b))), (0, .ref (q 0)), (1, .long (lN a0)), (3, .long (lN b0))]) hx hb d_M_lowest_26 hl (by decide) rfl (fun ls hl => ?_)
      refine lv_goto (tgt := 6) hx hb d_M_lowest_28 (by decide) ?_
      have r1 := Nat.mod_lt a (Nat.pos_of_ne_zero h1)
      exact ih b (a % b) (by omega) hb6 (by omega) (by rw [Nat.gcd_comm b (a % b), ← Nat.gcd_rec, Nat.gcd_comm]; exact hX) ls (lv_sub hl [3, 4, 5, 1, 0] rfl)
end
set_option maxHeartbeats 4000000 in
set_option maxRecDepth 100000 in
theorem c_M_lowest (l : Launch) {dC : Nat → ClassId} {dI : Nat → Nat → Nat} {cI cL cT : ClassId} {sa : Nat → Nat} (sz : Nat) (q : Nat → Nat) (th : Int32) (F nt : Nat) (ab be : Int64) (a0 b0 : Nat) (ha6 : a0 < 2 ^ 63) (hb6 : b0 < 2 ^ 63) (hb1 : 0 < b0) : Met l y_M_lowest (Cond.code y_M_lowest b_M_lowest 11 none :: gw) ({ frames := 0, cells := 0, slots := 0, locals := 0 } : Room) (wr dC dI cI cL cT sa [.ref (q 0), .long (lN a0), .long (lN b0)] [(q 0, .inr (6, (mF q th F nt ab be)))] sz) (va_Qv (fun _ : Unit => True) (wB dC dI [(q 0, .inr (6, (mF q th F nt ab be)))] [(q 0, .inr (6, (mF q th F nt (lN (a0 / Nat.gcd a0 b0)) (lN (b0 / Nat.gcd a0 b0)))))] sz) (va_A [(q 0, .inr (6, (mF q th F nt ab be)))] sz)) 0 0 (va_A [(q 0, .inr (6, (mF q th F nt ab be)))] sz) := by
  refine Met.ofW (cc := b_M_lowest) (maxL := 11) (ret := none) (by decide) rfl ?_
  intro p e s m args below meth c s₁ B hml hv
  obtain ⟨rfl, hsz, hC, hP, hD0⟩ := hv
  have hx := B.exec
  have hb := B.bytes
  have hr := B.returns
  have hts : ∀ w ∈ gw, w.before ([.ref (q 0), .long (lN a0), .long (lN b0)] : List Value).toArray s = true := fun w hw => atoms_spec (ws := Cond.code y_M_lowest b_M_lowest 11 none :: gw) B.pre w (List.mem_cons_of_mem _ hw)
  have hown : s.vm.findClass R_M = some m.cls := findClass_of_methodNamed B.named
  have hlocks := B.notSynchronized
  have hK := hC.1
  have hfr : 0 ≤ (headSpec (Cond.code y_M_lowest b_M_lowest 11 none :: gw) ({ frames := 0, cells := 0, slots := 0, locals := 0 } : Room)).room.frames := Nat.le_refl _
  have hlo : 0 ≤ (headSpec (Cond.code y_M_lowest b_M_lowest 11 none :: gw) ({ frames := 0, cells := 0, slots := 0, locals := 0 } : Room)).room.locals := Nat.le_refl _
  have hce : 0 ≤ (headSpec (Cond.code y_M_lowest b_M_lowest 11 none :: gw) ({ frames := 0, cells := 0, slots := 0, locals := 0 } : Room)).room.cells := Nat.zero_le _
  have hsl : 0 ≤ (headSpec (Cond.code y_M_lowest b_M_lowest 11 none :: gw) ({ frames := 0, cells := 0, slots := 0, locals := 0 } : Room)).room.slots := Nat.zero_le _
  subst hsz
  have hD := hD0.self (sz := s.heap.size)
  unfold wB
  generalize hAe : va_A [(q 0, .inr (6, (mF q th F nt ab be)))] s.heap.size = A at hD ⊢
  have hA : ∀ q : Nat, s.heap.size ≤ q → A q := fun q h => by rw [← hAe]; exact Or.inr h
  have hS : va_S A s.heap s.heap [] := va_S.rf
  have hl := lv_entry ([.ref (q 0), .long (lN a0), .long (lN b0)]) (n := 11) (Nat.le_of_ble_eq_true rfl)
  rw [lg_entry_eq]
  generalize (lg_sl ([.ref (q 0), .long (lN a0), .long (lN b0)]) ++ List.replicate (11 - (lg_sl ([.ref (q 0), .long (lN a0), .long (lN b0)])).length) Slot.unset).toArray = ls at hl ⊢
  have hl : lv_has ls 11 [(0, .ref (q 0)), (1, .long (lN a0)), (3, .long (lN b0))] := hl
  refine lv_lload_n hx hb d_M_lowest_0 rfl (lv_at hl 1 rfl) ?_
  refine lv_lstore (lv' := [(5, .long (lN a0)), (0, .ref (q 0)), (1, .long (lN a0)), (3, .long (lN b0))]) hx hb d_M_lowest_1 hl (by decide) rfl (fun ls hl => ?_)
  refine lv_lload_n hx hb d_M_lowest_3 rfl (lv_at hl 3 rfl) ?_
  refine lv_lstore (lv' := [(7, .long (lN b0)), (5, .long (lN a0)), (0, .ref (q 0)), (1, .long (lN a0)), (3, .long (lN b0))]) hx hb d_M_lowest_4 hl (by decide) rfl (fun ls hl => ?_)
  have hg1 : 0 < Nat.gcd a0 b0 := Nat.gcd_pos_of_pos_right a0 hb1
  have hg2 : Nat.gcd a0 b0 ≤ b0 := Nat.gcd_le_right a0 hb1
  refine l_M_lowest ⟨hx, hb, hml, hown, hts⟩ (fun ls hl => ?_) (b0 + 1) a0 b0 (by omega) ha6 hb6 rfl ls (lv_sub hl [2, 3, 4, 1, 0] rfl)
  refine lv_aload_n hx hb d_M_lowest_31 rfl (lv_at hl 0 rfl) ?_
  refine lv_lload_n hx hb d_M_lowest_32 rfl (lv_at hl 1 rfl) ?_
  refine lv_lload hx hb d_M_lowest_33 (lv_at hl 3 rfl) ?_
  refine nx_ldiv hx hb d_M_lowest_35 ha6 hg1 (by omega) ?_
  refine va_put (D := (dC, dI)) (ci := 6) (v := .long (lN (a0 / (Nat.gcd a0 b0)))) (ty := (.long)) (C := R_M) (T := F_M) (N := 17) hx hb hts i_M ft_M ft_M_ok n_M hown hK hP hD hS 0 rfl rfl 10 (by decide) (hts _ k_487) (fun _ h9 => h9) rfl (by decide +kernel) rfl rfl (Nat.le_of_ble_eq_true rfl) d_M_lowest_36 (fun H locs hP hD hS => ?_)
  have hP : va_P (dC, dI) vwCl [(q 0, .inr (6, (mF q th F nt (lN (a0 / (Nat.gcd a0 b0))) be)))] H := hP
  have hD : va_D A [(q 0, .inr (6, (mF q th F nt (lN (a0 / (Nat.gcd a0 b0))) be)))] := hD
  refine lv_aload_n hx hb d_M_lowest_39 rfl (lv_at hl 0 rfl) ?_
  refine lv_lload_n hx hb d_M_lowest_40 rfl (lv_at hl 2 rfl) ?_
  refine lv_lload hx hb d_M_lowest_41 (lv_at hl 3 rfl) ?_
  refine nx_ldiv hx hb d_M_lowest_43 hb6 hg1 (by omega) ?_
  refine va_put (D := (dC, dI)) (ci := 6) (v := .long (lN (b0 / (Nat.gcd a0 b0)))) (ty := (.long)) (C := R_M) (T := F_M) (N := 17) hx hb hts i_M ft_M ft_M_ok n_M hown hK hP hD hS 0 rfl rfl 11 (by decide) (hts _ k_488) (fun _ h9 => h9) rfl (by decide +kernel) rfl rfl (Nat.le_of_ble_eq_true rfl) d_M_lowest_44 (fun H locs hP hD hS => ?_)
  have hP : va_P (dC, dI) vwCl [(q 0, .inr (6, (mF q th F nt (lN (a0 / (Nat.gcd a0 b0))) (lN (b0 / (Nat.gcd a0 b0))))))] H := hP
  have hD : va_D A [(q 0, .inr (6, (mF q th F nt (lN (a0 / (Nat.gcd a0 b0))) (lN (b0 / (Nat.gcd a0 b0))))))] := hD
  exact W.vret hx hb hr (fun t ht hW => ⟨⟨(), rfl, trivial, by rw [ht]; exact hP, hD⟩, hS.F ht⟩) hS.2.2 d_M_lowest_47
set_option maxHeartbeats 4000000 in
set_option maxRecDepth 100000 in
theorem c_M_reckonTrip (l : Launch) {dC : Nat → ClassId} {dI : Nat → Nat → Nat} {cI cL cT : ClassId} {sa : Nat → Nat} (sz : Nat) (q : Nat → Nat) (th : Int32) (F nt : Nat) (ab be : Int64) (pp hh rm sd dr pe : Nat → Nat) (t0 fr to n : Nat) (ht0 : t0 < 6) (hn : to + 1 = fr + n) (hto : to ≤ 12) (hn12 : n ≤ 12) (hU2 : sm pp fr n ≤ 200) (hhh : ∀ k, k < n → hh (fr + k) ≤ 1200) (hrm : 1 ≤ rm t0 ∧ rm t0 ≤ 5) (hsd : 1 ≤ sd t0 ∧ sd t0 ≤ 100) (hdr : dr t0 ≤ 30) (hpe : pe t0 ≤ 10) : Met l y_M_reckonTrip (Cond.code y_M_reckonTrip b_M_reckonTrip 13 none :: gw) ({ frames := 2, cells := 0, slots := 0, locals := 55 } : Room) (wr dC dI cI cL cT sa [.ref (q 0), .int (nI t0), .int (nI fr), .int (nI to)] [(q 0, .inr (6, (mF q th F nt ab be))), (q 1, .inl (cI, 13, .inl (fun j => nI (pp j)))), (q 2, .inl (cI, 13, .inl (fun j => nI (hh j)))), (q 4, .inl (cI, 6, .inl (fun j => nI (rm j)))), (q 5, .inl (cI, 6, .inl (fun j => nI (sd j)))), (q 6, .inl (cI, 6, .inl (fun j => nI (dr j)))), (q 7, .inl (cI, 6, .inl (fun j => nI (pe j))))] sz) (va_Qv (fun _ : Unit => True) (wB dC dI [(q 0, .inr (6, (mF q th F nt ab be))), (q 1, .inl (cI, 13, .inl (fun j => nI (pp j)))), (q 2, .inl (cI, 13, .inl (fun j => nI (hh j)))), (q 4, .inl (cI, 6, .inl (fun j => nI (rm j)))), (q 5, .inl (cI, 6, .inl (fun j => nI (sd j)))), (q 6, .inl (cI, 6, .inl (fun j => nI (dr j)))), (q 7, .inl (cI, 6, .inl (fun j => nI (pe j))))] [(q 0, .inr (6, (mF q th F nt (lN ((tA pp hh fr n (rm t0) (sd t0) (dr t0) (pe t0)) / Nat.gcd (tA pp hh fr n (rm t0) (sd t0) (dr t0) (pe t0)) (tB pp fr n (rm t0) (sd t0)))) (lN ((tB pp fr n (rm t0) (sd t0)) / Nat.gcd (tA pp hh fr n (rm t0) (sd t0) (dr t0) (pe t0)) (tB pp fr n (rm t0) (sd t0))))))), (q 1, .inl (cI, 13, .inl (fun j => nI (pp j)))), (q 2, .inl (cI, 13, .inl (fun j => nI (hh j)))), (q 4, .inl (cI, 6, .inl (fun j => nI (rm j)))), (q 5, .inl (cI, 6, .inl (fun j => nI (sd j)))), (q 6, .inl (cI, 6, .inl (fun j => nI (dr j)))), (q 7, .inl (cI, 6, .inl (fun j => nI (pe j))))] sz) (va_A [(q 0, .inr (6, (mF q th F nt ab be))), (q 1, .inl (cI, 13, .inl (fun j => nI (pp j)))), (q 2, .inl (cI, 13, .inl (fun j => nI (hh j)))), (q 4, .inl (cI, 6, .inl (fun j => nI (rm j)))), (q 5, .inl (cI, 6, .inl (fun j => nI (sd j)))), (q 6, .inl (cI, 6, .inl (fun j => nI (dr j)))), (q 7, .inl (cI, 6, .inl (fun j => nI (pe j))))] sz)) 0 0 (va_A [(q 0, .inr (6, (mF q th F nt ab be))), (q 1, .inl (cI, 13, .inl (fun j => nI (pp j)))), (q 2, .inl (cI, 13, .inl (fun j => nI (hh j)))), (q 4, .inl (cI, 6, .inl (fun j => nI (rm j)))), (q 5, .inl (cI, 6, .inl (fun j => nI (sd j)))), (q 6, .inl (cI, 6, .inl (fun j => nI (dr j)))), (q 7, .inl (cI, 6, .inl (fun j => nI (pe j))))] sz) := by
  refine Met.ofW (cc := b_M_reckonTrip) (maxL := 13) (ret := none) (by decide) rfl ?_
  intro p e s m args below meth c s₁ B hml hv
  obtain ⟨rfl, hsz, hC, hP, hD0⟩ := hv
  have hx := B.exec
  have hb := B.bytes
  have hr := B.returns
  have hts : ∀ w ∈ gw, w.before ([.ref (q 0), .int (nI t0), .int (nI fr), .int (nI to)] : List Value).toArray s = true := fun w hw => atoms_spec (ws := Cond.code y_M_reckonTrip b_M_reckonTrip 13 none :: gw) B.pre w (List.mem_cons_of_mem _ hw)
  have hown : s.vm.findClass R_M = some m.cls := findClass_of_methodNamed B.named
  have hlocks := B.notSynchronized
  have hK := hC.1
  have hfr : 2 ≤ (headSpec (Cond.code y_M_reckonTrip b_M_reckonTrip 13 none :: gw) ({ frames := 2, cells := 0, slots := 0, locals := 55 } : Room)).room.frames := Nat.le_refl _
  have hlo : 55 ≤ (headSpec (Cond.code y_M_reckonTrip b_M_reckonTrip 13 none :: gw) ({ frames := 2, cells := 0, slots := 0, locals := 55 } : Room)).room.locals := Nat.le_refl _
  have hce : 0 ≤ (headSpec (Cond.code y_M_reckonTrip b_M_reckonTrip 13 none :: gw) ({ frames := 2, cells := 0, slots := 0, locals := 55 } : Room)).room.cells := Nat.zero_le _
  have hsl : 0 ≤ (headSpec (Cond.code y_M_reckonTrip b_M_reckonTrip 13 none :: gw) ({ frames := 2, cells := 0, slots := 0, locals := 55 } : Room)).room.slots := Nat.zero_le _
  subst hsz
  have hD := hD0.self (sz := s.heap.size)
  unfold wB
  generalize hAe : va_A [(q 0, .inr (6, (mF q th F nt ab be))), (q 1, .inl (cI, 13, .inl (fun j => nI (pp j)))), (q 2, .inl (cI, 13, .inl (fun j => nI (hh j)))), (q 4, .inl (cI, 6, .inl (fun j => nI (rm j)))), (q 5, .inl (cI, 6, .inl (fun j => nI (sd j)))), (q 6, .inl (cI, 6, .inl (fun j => nI (dr j)))), (q 7, .inl (cI, 6, .inl (fun j => nI (pe j))))] s.heap.size = A at hD ⊢
  have hA : ∀ q : Nat, s.heap.size ≤ q → A q := fun q h => by rw [← hAe]; exact Or.inr h
  have hS : va_S A s.heap s.heap [] := va_S.rf
  have hl := lv_entry ([.ref (q 0), .int (nI t0), .int (nI fr), .int (nI to)]) (n := 13) (Nat.le_of_ble_eq_true rfl)
  rw [lg_entry_eq]
  generalize (lg_sl ([.ref (q 0), .int (nI t0), .int (nI fr), .int (nI to)]) ++ List.replicate (13 - (lg_sl ([.ref (q 0), .int (nI t0), .int (nI fr), .int (nI to)])).length) Slot.unset).toArray = ls at hl ⊢
  have hl : lv_has ls 13 [(0, .ref (q 0)), (1, .int (nI t0)), (2, .int (nI fr)), (3, .int (nI to))] := hl
  have hP5 : rm t0 ≤ 5 := hrm.2
  have hS1 : sd t0 ≤ 100 := hsd.2
  have hpp : ∀ k, k < n → pp (fr + k) ≤ 200 := fun k hk => Nat.le_trans (sm_le hk) hU2
  have hlt := tA_lt (pp := pp) (hh := hh) hn12 hU2 hhh hP5 hS1 hdr hpe
  have hlb := tB_lt (pp := pp) hU2 hP5 hS1
  have hbp := tB_pos (pp := pp) (fr := fr) (n := n) (P := rm t0) (show 0 < sd t0 from hsd.1)
  refine lv_aload_n hx hb d_M_reckonTrip_0 rfl (lv_at hl 0 rfl) ?_
  refine va_get (D := (dC, dI)) (ci := 6) (v := .ref (q 4)) (C := R_M) (T := F_M) (N := 17) hx hb hts i_M hown hK hP 0 rfl rfl 4 (by decide) (hts _ k_481) (fun _ h9 => h9) rfl d_M_reckonTrip_1 ?_
  refine lv_iload_n hx hb d_M_reckonTrip_4 rfl (lv_at hl 1 rfl) ?_
  refine nx_iald hx hb hK hP 3 0 rfl rfl (k := t0) (v := nI (rm t0)) (by omega) (by decide) rfl d_M_reckonTrip_5 ?_
  refine lv_istore (lv' := [(4, .int (nI (rm t0))), (0, .ref (q 0)), (1, .int (nI t0)), (2, .int (nI fr)), (3, .int (nI to))]) hx hb d_M_reckonTrip_6 hl (by decide) rfl (fun ls hl => ?_)
  refine lv_aload_n hx hb d_M_reckonTrip_8 rfl (lv_at hl 1 rfl) ?_
  refine lv_iload_n hx hb d_M_reckonTrip_9 rfl (lv_at hl 3 rfl) ?_
  refine lv_iload_n hx hb d_M_reckonTrip_10 rfl (lv_at hl 4 rfl) ?_
  refine ro_calli (va_runV (As := [.int (nI fr), .int (nI to)]) (rest := []) ⟨hx, hb, hml, hown, hts⟩ (c_M_zonePersons l q th F nt ab be pp fr to n hn hto) (cwV 2 hts (gw_V k_568 k_565 k_567 ks_M_zonePersons k_6) rfl rfl rfl (by decide +kernel) ⟨Nat.le_trans (Nat.le_of_ble_eq_true rfl) hfr, Nat.le_trans (Nat.le_of_ble_eq_true rfl) hlo⟩) ⟨pr_blind, va_recv hK hP (ci := 6) (q0 := 0) rfl rfl, pr_at hC (hP.sub (ws' := [(q 0, .inr (6, (mF q th F nt ab be))), (q 1, .inl (cI, 13, .inl (fun j => nI (pp j))))]) [0, 1] rfl)⟩ rfl rfl hl.1 rfl (lv_room (Nat.le_of_ble_eq_true rfl)) d_M_reckonTrip_11 ⟨hce, hsl⟩) (fun r9 h9 => ?_)
  subst h9
  refine nx_i2l hx hb d_M_reckonTrip_14 (by omega) ?_
  refine lv_iload hx hb d_M_reckonTrip_15 (lv_at hl 0 rfl) ?_
  refine ro_calll (va_runS (As := [.long (lN (sm pp fr n)), .int (nI (rm t0))]) (rest := []) ⟨hx, hb, hml, hown, hts⟩ (c_M_power l (sm pp fr n) (rm t0) hP5) (cwS 2 hts (gw_S k_571 k_569 k_570 k_6) rfl rfl rfl (by decide +kernel) ⟨Nat.le_trans (Nat.le_of_ble_eq_true rfl) hfr, Nat.le_trans (Nat.le_of_ble_eq_true rfl) hlo⟩) ⟨pr_blind, pr_at hC (fun k q h => by simp at h)⟩ rfl rfl hl.1 rfl (lv_room (Nat.le_of_ble_eq_true rfl)) d_M_reckonTrip_17 ⟨hce, hsl⟩) (fun r9 h9 => ?_)
  subst h9
  have hpw := pw_le hU2 hP5
  refine lv_lstore (lv' := [(5, .long (lN (sm pp fr n ^ rm t0))), (4, .int (nI (rm t0))), (0, .ref (q 0)), (1, .int (nI t0)), (2, .int (nI fr)), (3, .int (nI to))]) hx hb d_M_reckonTrip_20 hl (by decide) rfl (fun ls hl => ?_)
  refine lv_lload hx hb d_M_reckonTrip_22 (lv_at hl 0 rfl) ?_
  refine lv_lconst (v := lN 0) hx hb d_M_reckonTrip_24 (by decide) ?_
  refine nx_lcn_ne (tgt := 36) hx hb d_M_reckonTrip_25 d_M_reckonTrip_26 (by decide) (by omega) (by decide) (fun h1 => ?_) (fun h1 => ?_)
  · have hU0 : sm pp fr n ≠ 0 := fun z => h1 (by rw [z]; exact Nat.zero_pow hrm.1)
    refine lv_aload_n hx hb d_M_reckonTrip_36 rfl (lv_at hl 2 rfl) ?_
    refine va_get (D := (dC, dI)) (ci := 6) (v := .ref (q 5)) (C := R_M) (T := F_M) (N := 17) hx hb hts i_M hown hK hP 0 rfl rfl 5 (by decide) (hts _ k_482) (fun _ h9 => h9) rfl d_M_reckonTrip_37 ?_
    refine lv_iload_n hx hb d_M_reckonTrip_40 rfl (lv_at hl 3 rfl) ?_
    refine nx_iald hx hb hK hP 4 0 rfl rfl (k := t0) (v := nI (sd t0)) (by omega) (by decide) rfl d_M_reckonTrip_41 ?_
    refine nx_i2l hx hb d_M_reckonTrip_42 (by omega) ?_
    refine lv_lstore (lv' := [(7, .long (lN (sd t0))), (5, .long (lN (sm pp fr n ^ rm t0))), (4, .int (nI (rm t0))), (0, .ref (q 0)), (1, .int (nI t0)), (2, .int (nI fr)), (3, .int (nI to))]) hx hb d_M_reckonTrip_43 hl (by decide) rfl (fun ls hl => ?_)
    refine lv_aload_n hx hb d_M_reckonTrip_45 rfl (lv_at hl 3 rfl) ?_
    refine lv_iload hx hb d_M_reckonTrip_46 (lv_at hl 2 rfl) ?_
    refine lv_iload_n hx hb d_M_reckonTrip_48 rfl (lv_at hl 5 rfl) ?_
    refine lv_iload_n hx hb d_M_reckonTrip_49 rfl (lv_at hl 6 rfl) ?_
    refine ro_calll (va_runV (As := [.int (nI (rm t0)), .int (nI fr), .int (nI to)]) (rest := []) ⟨hx, hb, hml, hown, hts⟩ (c_M_stopsOf l q th F nt ab be pp fr to n (rm t0) hn hto hU2 hP5) (cwV 3 hts (gw_V k_575 k_572 k_574 ks_M_stopsOf k_6) rfl rfl rfl (by decide +kernel) ⟨Nat.le_trans (Nat.le_of_ble_eq_true rfl) hfr, Nat.le_trans (Nat.le_of_ble_eq_true rfl) hlo⟩) ⟨pr_blind, va_recv hK hP (ci := 6) (q0 := 0) rfl rfl, pr_at hC (hP.sub (ws' := [(q 0, .inr (6, (mF q th F nt ab be))), (q 1, .inl (cI, 13, .inl (fun j => nI (pp j))))]) [0, 1] rfl)⟩ rfl rfl hl.1 rfl (lv_room (Nat.le_of_ble_eq_true rfl)) d_M_reckonTrip_50 ⟨hce, hsl⟩) (fun r9 h9 => ?_)
    subst h9
    refine lv_lload hx hb d_M_reckonTrip_53 (lv_at hl 1 rfl) ?_
    refine nx_ladd hx hb d_M_reckonTrip_55 ?_
    refine lv_aload_n hx hb d_M_reckonTrip_56 rfl (lv_at hl 3 rfl) ?_
    refine va_get (D := (dC, dI)) (ci := 6) (v := .ref (q 6)) (C := R_M) (T := F_M) (N := 17) hx hb hts i_M hown hK hP 0 rfl rfl 6 (by decide) (hts _ k_483) (fun _ h9 => h9) rfl d_M_reckonTrip_57 ?_
    refine lv_iload_n hx hb d_M_reckonTrip_60 rfl (lv_at hl 4 rfl) ?_
    refine nx_iald hx hb hK hP 5 0 rfl rfl (k := t0) (v := nI (dr t0)) (by omega) (by decide) rfl d_M_reckonTrip_61 ?_
    refine nx_i2l hx hb d_M_reckonTrip_62 (by omega) ?_
    refine nx_lmul hx hb d_M_reckonTrip_63 ?_
    refine lv_lload hx hb d_M_reckonTrip_64 (lv_at hl 0 rfl) ?_
    refine nx_lmul hx hb d_M_reckonTrip_66 ?_
    refine lv_lstore (lv' := [(9, .long (lN ((((sp pp (sm pp fr n) (rm t0) fr n) + (sm pp fr n ^ rm t0)) * (dr t0)) * (sd t0)))), (7, .long (lN (sd t0))), (5, .long (lN (sm pp fr n ^ rm t0))), (4, .int (nI (rm t0))), (0, .ref (q 0)), (1, .int (nI t0)), (2, .int (nI fr)), (3, .int (nI to))]) hx hb d_M_reckonTrip_67 hl (by decide) rfl (fun ls hl => ?_)
    refine lv_ldc2 (v := lN 2) hx hb hown (hts _ k_600) d_M_reckonTrip_69 ?_
    refine lv_iload hx hb d_M_reckonTrip_72 (lv_at hl 3 rfl) ?_
    refine nx_i2l hx hb d_M_reckonTrip_74 (by omega) ?_
    refine nx_lmul hx hb d_M_reckonTrip_75 ?_
    refine lv_aload_n hx hb d_M_reckonTrip_76 rfl (lv_at hl 4 rfl) ?_
    refine va_get (D := (dC, dI)) (ci := 6) (v := .ref (q 7)) (C := R_M) (T := F_M) (N := 17) hx hb hts i_M hown hK hP 0 rfl rfl 7 (by decide) (hts _ k_484) (fun _ h9 => h9) rfl d_M_reckonTrip_77 ?_
    refine lv_iload_n hx hb d_M_reckonTrip_80 rfl (lv_at hl 5 rfl) ?_
    refine nx_iald hx hb hK hP 6 0 rfl rfl (k := t0) (v := nI (pe t0)) (by omega) (by decide) rfl d_M_reckonTrip_81 ?_
    refine nx_i2l hx hb d_M_reckonTrip_82 (by omega) ?_
    refine nx_lmul hx hb d_M_reckonTrip_83 ?_
    refine lv_lload hx hb d_M_reckonTrip_84 (lv_at hl 1 rfl) ?_
    refine nx_lmul hx hb d_M_reckonTrip_86 ?_
    refine lv_lload hx hb d_M_reckonTrip_87 (lv_at hl 2 rfl) ?_
    refine nx_lmul hx hb d_M_reckonTrip_89 ?_
    refine lv_lstore (lv' := [(11, .long (lN ((((2 * (rm t0)) * (pe t0)) * (sd t0)) * (sm pp fr n ^ rm t0)))), (9, .long (lN ((((sp pp (sm pp fr n) (rm t0) fr n) + (sm pp fr n ^ rm t0)) * (dr t0)) * (sd t0)))), (7, .long (lN (sd t0))), (5, .long (lN (sm pp fr n ^ rm t0))), (4, .int (nI (rm t0))), (0, .ref (q 0)), (1, .int (nI t0)), (2, .int (nI fr)), (3, .int (nI to))]) hx hb d_M_reckonTrip_90 hl (by decide) rfl (fun ls hl => ?_)
    refine lv_aload_n hx hb d_M_reckonTrip_92 rfl (lv_at hl 5 rfl) ?_
    refine lv_ldc2 (v := lN 2) hx hb hown (hts _ k_600) d_M_reckonTrip_93 ?_
    refine lv_aload_n hx hb d_M_reckonTrip_96 rfl (lv_at hl 5 rfl) ?_
    refine lv_iload hx hb d_M_reckonTrip_97 (lv_at hl 4 rfl) ?_
    refine lv_iload_n hx hb d_M_reckonTrip_99 rfl (lv_at hl 7 rfl) ?_
    refine lv_iload_n hx hb d_M_reckonTrip_100 rfl (lv_at hl 8 rfl) ?_
    refine ro_calll (va_runV (As := [.int (nI (rm t0)), .int (nI fr), .int (nI to)]) (rest := [.long (lN 2), .ref (q 0)]) ⟨hx, hb, hml, hown, hts⟩ (c_M_highestOf l q th F nt ab be pp hh fr to n (rm t0) hn hto hpp hhh hP5) (cwV 3 hts (gw_V k_591 k_588 k_590 ks_M_highestOf k_6) rfl rfl rfl (by decide +kernel) ⟨Nat.le_trans (Nat.le_of_ble_eq_true rfl) hfr, Nat.le_trans (Nat.le_of_ble_eq_true rfl) hlo⟩) ⟨pr_blind, va_recv hK hP (ci := 6) (q0 := 0) rfl rfl, pr_at hC (hP.sub (ws' := [(q 0, .inr (6, (mF q th F nt ab be))), (q 1, .inl (cI, 13, .inl (fun j => nI (pp j)))), (q 2, .inl (cI, 13, .inl (fun j => nI (hh j))))]) [0, 1, 2] rfl)⟩ rfl rfl hl.1 rfl (lv_room (Nat.le_of_ble_eq_true rfl)) d_M_reckonTrip_101 ⟨hce, hsl⟩) (fun r9 h9 => ?_)
    subst h9
    refine nx_lmul hx hb d_M_reckonTrip_104 ?_
    refine lv_lload hx hb d_M_reckonTrip_105 (lv_at hl 1 rfl) ?_
    refine nx_ladd hx hb d_M_reckonTrip_107 ?_
    refine lv_lload hx hb d_M_reckonTrip_108 (lv_at hl 0 rfl) ?_
    refine nx_ladd hx hb d_M_reckonTrip_110 ?_
    refine lv_lload hx hb d_M_reckonTrip_111 (lv_at hl 2 rfl) ?_
    refine lv_lload hx hb d_M_reckonTrip_113 (lv_at hl 3 rfl) ?_
    refine nx_lmul hx hb d_M_reckonTrip_115 ?_
    rw [tA_eq hU0, tB_eq hU0]
    have hPc := hP.sub (ws' := [(q 0, .inr (6, (mF q th F nt ab be)))]) [0] rfl
    have hDc := hD.sub (ws' := [(q 0, .inr (6, (mF q th F nt ab be)))]) [0] (by decide) rfl
    have hFc := va_free (wc := [(q 0, .inr (6, (mF q th F nt ab be)))]) hD hS hA [0] rfl
    refine va_callv (va_runV (As := [.long (lN (tA pp hh fr n (rm t0) (sd t0) (dr t0) (pe t0))), .long (lN (tB pp fr n (rm t0) (sd t0)))]) (rest := []) ⟨hx, hb, hml, hown, hts⟩ (c_M_lowest l _ q th F nt ab be (tA pp hh fr n (rm t0) (sd t0) (dr t0) (pe t0)) (tB pp fr n (rm t0) (sd t0)) hlt (by omega) hbp) (cwV 2 hts (gw_V k_579 k_576 k_578 ks_M_lowest k_6) rfl rfl rfl (by decide +kernel) ⟨Nat.le_trans (Nat.le_of_ble_eq_true rfl) hfr, Nat.le_trans (Nat.le_of_ble_eq_true rfl) hlo⟩) ⟨wr_blind, va_recv hK hP (ci := 6) (q0 := 0) rfl rfl, wr_at hC hPc hDc⟩ rfl rfl hl.1 rfl (lv_room (Nat.le_of_ble_eq_true rfl)) d_M_reckonTrip_116 ⟨hce, hsl⟩) hS (fun q _ h => hFc q h) hFc (fun u t H1 locs ht hvm hw hB hz1 hk1 hS => ?_)
    obtain ⟨hP1, hD1⟩ := hB
    rw [ht] at hP1
    obtain ⟨hP, hD⟩ := va_join (wr := [(q 1, .inl (cI, 13, .inl (fun j => nI (pp j)))), (q 2, .inl (cI, 13, .inl (fun j => nI (hh j)))), (q 4, .inl (cI, 6, .inl (fun j => nI (rm j)))), (q 5, .inl (cI, 6, .inl (fun j => nI (sd j)))), (q 6, .inl (cI, 6, .inl (fun j => nI (dr j)))), (q 7, .inl (cI, 6, .inl (fun j => nI (pe j))))]) (w1 := [(q 0, .inr (6, (mF q th F nt (lN ((tA pp hh fr n (rm t0) (sd t0) (dr t0) (pe t0)) / Nat.gcd (tA pp hh fr n (rm t0) (sd t0) (dr t0) (pe t0)) (tB pp fr n (rm t0) (sd t0)))) (lN ((tB pp fr n (rm t0) (sd t0)) / Nat.gcd (tA pp hh fr n (rm t0) (sd t0) (dr t0) (pe t0)) (tB pp fr n (rm t0) (sd t0)))))))]) hP hD [0] [1, 2, 3, 4, 5, 6] rfl rfl (by decide) (by decide) hk1 hFc hP1 hD1
    generalize H1 = H at hP hS ⊢
    have hP := hP.sub (ws' := [(q 0, .inr (6, (mF q th F nt (lN ((tA pp hh fr n (rm t0) (sd t0) (dr t0) (pe t0)) / Nat.gcd (tA pp hh fr n (rm t0) (sd t0) (dr t0) (pe t0)) (tB pp fr n (rm t0) (sd t0)))) (lN ((tB pp fr n (rm t0) (sd t0)) / Nat.gcd (tA pp hh fr n (rm t0) (sd t0) (dr t0) (pe t0)) (tB pp fr n (rm t0) (sd t0))))))), (q 1, .inl (cI, 13, .inl (fun j => nI (pp j)))), (q 2, .inl (cI, 13, .inl (fun j => nI (hh j)))), (q 4, .inl (cI, 6, .inl (fun j => nI (rm j)))), (q 5, .inl (cI, 6, .inl (fun j => nI (sd j)))), (q 6, .inl (cI, 6, .inl (fun j => nI (dr j)))), (q 7, .inl (cI, 6, .inl (fun j => nI (pe j))))]) [6, 0, 1, 2, 3, 4, 5] rfl
    have hD := hD.sub (ws' := [(q 0, .inr (6, (mF q th F nt (lN ((tA pp hh fr n (rm t0) (sd t0) (dr t0) (pe t0)) / Nat.gcd (tA pp hh fr n (rm t0) (sd t0) (dr t0) (pe t0)) (tB pp fr n (rm t0) (sd t0)))) (lN ((tB pp fr n (rm t0) (sd t0)) / Nat.gcd (tA pp hh fr n (rm t0) (sd t0) (dr t0) (pe t0)) (tB pp fr n (rm t0) (sd t0))))))), (q 1, .inl (cI, 13, .inl (fun j => nI (pp j)))), (q 2, .inl (cI, 13, .inl (fun j => nI (hh j)))), (q 4, .inl (cI, 6, .inl (fun j => nI (rm j)))), (q 5, .inl (cI, 6, .inl (fun j => nI (sd j)))), (q 6, .inl (cI, 6, .inl (fun j => nI (dr j)))), (q 7, .inl (cI, 6, .inl (fun j => nI (pe j))))]) [6, 0, 1, 2, 3, 4, 5] (by decide) rfl
    exact W.vret hx hb hr (fun t ht hW => ⟨⟨(), rfl, trivial, by rw [ht]; exact hP, hD⟩, hS.F ht⟩) hS.2.2 d_M_reckonTrip_119
  · have hU0 : sm pp fr n = 0 := Classical.byContradiction fun z => absurd h1 (Nat.ne_of_gt (Nat.pow_pos (Nat.pos_of_ne_zero z)))
    refine lv_aload_n hx hb d_M_reckonTrip_29 rfl (lv_at hl 2 rfl) ?_
    refine lv_lconst (v := lN 0) hx hb d_M_reckonTrip_30 (by decide) ?_
    refine lv_lconst (v := lN 1) hx hb d_M_reckonTrip_31 (by decide) ?_
    have hPc := hP.sub (ws' := [(q 0, .inr (6, (mF q th F nt ab be)))]) [0] rfl
    have hDc := hD.sub (ws' := [(q 0, .inr (6, (mF q th F nt ab be)))]) [0] (by decide) rfl
    have hFc := va_free (wc := [(q 0, .inr (6, (mF q th F nt ab be)))]) hD hS hA [0] rfl
    refine va_callv (va_runV (As := [.long (lN 0), .long (lN 1)]) (rest := []) ⟨hx, hb, hml, hown, hts⟩ (c_M_lowest l _ q th F nt ab be 0 1 (by decide) (by decide) (by decide)) (cwV 2 hts (gw_V k_579 k_576 k_578 ks_M_lowest k_6) rfl rfl rfl (by decide +kernel) ⟨Nat.le_trans (Nat.le_of_ble_eq_true rfl) hfr, Nat.le_trans (Nat.le_of_ble_eq_true rfl) hlo⟩) ⟨wr_blind, va_recv hK hP (ci := 6) (q0 := 0) rfl rfl, wr_at hC hPc hDc⟩ rfl rfl hl.1 rfl (lv_room (Nat.le_of_ble_eq_true rfl)) d_M_reckonTrip_32 ⟨hce, hsl⟩) hS (fun q _ h => hFc q h) hFc (fun u t H1 locs ht hvm hw hB hz1 hk1 hS => ?_)
    obtain ⟨hP1, hD1⟩ := hB
    rw [ht] at hP1
    obtain ⟨hP, hD⟩ := va_join (wr := [(q 1, .inl (cI, 13, .inl (fun j => nI (pp j)))), (q 2, .inl (cI, 13, .inl (fun j => nI (hh j)))), (q 4, .inl (cI, 6, .inl (fun j => nI (rm j)))), (q 5, .inl (cI, 6, .inl (fun j => nI (sd j)))), (q 6, .inl (cI, 6, .inl (fun j => nI (dr j)))), (q 7, .inl (cI, 6, .inl (fun j => nI (pe j))))]) (w1 := [(q 0, .inr (6, (mF q th F nt (lN (0 / Nat.gcd 0 1)) (lN (1 / Nat.gcd 0 1)))))]) hP hD [0] [1, 2, 3, 4, 5, 6] rfl rfl (by decide) (by decide) hk1 hFc hP1 hD1
    generalize H1 = H at hP hS ⊢
    have hP := hP.sub (ws' := [(q 0, .inr (6, (mF q th F nt (lN (0 / Nat.gcd 0 1)) (lN (1 / Nat.gcd 0 1))))), (q 1, .inl (cI, 13, .inl (fun j => nI (pp j)))), (q 2, .inl (cI, 13, .inl (fun j => nI (hh j)))), (q 4, .inl (cI, 6, .inl (fun j => nI (rm j)))), (q 5, .inl (cI, 6, .inl (fun j => nI (sd j)))), (q 6, .inl (cI, 6, .inl (fun j => nI (dr j)))), (q 7, .inl (cI, 6, .inl (fun j => nI (pe j))))]) [6, 0, 1, 2, 3, 4, 5] rfl
    have hD := hD.sub (ws' := [(q 0, .inr (6, (mF q th F nt (lN (0 / Nat.gcd 0 1)) (lN (1 / Nat.gcd 0 1))))), (q 1, .inl (cI, 13, .inl (fun j => nI (pp j)))), (q 2, .inl (cI, 13, .inl (fun j => nI (hh j)))), (q 4, .inl (cI, 6, .inl (fun j => nI (rm j)))), (q 5, .inl (cI, 6, .inl (fun j => nI (sd j)))), (q 6, .inl (cI, 6, .inl (fun j => nI (dr j)))), (q 7, .inl (cI, 6, .inl (fun j => nI (pe j))))]) [6, 0, 1, 2, 3, 4, 5] (by decide) rfl
    have z1 : (tA pp hh fr n (rm t0) (sd t0) (dr t0) (pe t0)) = 0 := by rw [tA, if_pos hU0]
    have z2 : (tB pp fr n (rm t0) (sd t0)) = sd t0 := by rw [tB, if_pos hU0, Nat.mul_one]
    rw [z1, z2, Nat.gcd_zero_left, Nat.zero_div, Nat.div_self hsd.1]
    exact W.vret hx hb hr (fun t ht hW => ⟨⟨(), rfl, trivial, by rw [ht]; exact hP, hD⟩, hS.F ht⟩) hS.2.2 d_M_reckonTrip_35
end
section
/-! ONE PLACE CHANGED, in numbers. -/
def up (f : Nat → Nat) (k v : Nat) : Nat → Nat := fun j => if j = k then v else f j
theorem up_eq {f : Nat → Nat} {k v : Nat} : upd (fun j => nI (f j)) k (nI v) = fun j => nI (up f k v j) := by
  funext j
  unfold upd up
  by_cases h : j = k <;> simp [h]
theorem up_eqL {f : Nat → Nat} {k v : Nat} : vp_updL (fun j => lN (f j)) k (lN v) = fun j => lN (up f k v j) := by
  funext j
  unfold vp_updL up
  by_cases h : j = k <;> simp [h]
theorem up_s {f : Nat → Nat} {k v : Nat} : up f k v k = v := by simp [up]
theorem up_n {f : Nat → Nat} {k v j : Nat} (h : j ≠ k) : up f k v j = f j := by simp [up, h]
theorem in_Nat {a lo hi : Nat} : ((lo : Int) ≤ (a : Int) ∧ (a : Int) ≤ (hi : Int)) = (lo ≤ a ∧ a ≤ hi) := propext (by omega)
theorem c_M_isInN (l : Launch) {dC : Nat → ClassId} {dI : Nat → Nat → Nat} {cI cL cT : ClassId} {sa : Nat → Nat} (a lo hi : Nat) (h1 : a < 2 ^ 31) (h2 : lo < 2 ^ 31) (h3 : hi < 2 ^ 31) : Met l y_M_isIn (Cond.code y_M_isIn b_M_isIn 3 (some .boolean) :: gw) ({ frames := 0, cells := 0, slots := 0, locals := 0 } : Room) (pr dC dI cI cL cT sa [.int (nI a), .int (nI lo), .int (nI hi)] []) (vp_Si (fun r => r = bI (lo ≤ a ∧ a ≤ hi))) 0 0 (fun _ => False) := by
  have h := c_M_isIn l (dC := dC) (dI := dI) (cI := cI) (cL := cL) (cT := cT) (sa := sa) (nI a) (nI lo) (nI hi) lo hi (nI_toInt h2) (nI_toInt h3)
  rw [nI_toInt h1, in_Nat] at h
  exact h
/-- a trip's parts in lowest terms carry as many -/
theorem oC_red {cars r A B d : Nat} (hd : 0 < d) (hA : d ∣ A) (hB : d ∣ B) : oC cars r (A / d) (B / d) = oC cars r A B := by
  obtain ⟨a, rfl⟩ := hA
  obtain ⟨b, rfl⟩ := hB
  rw [Nat.mul_div_cancel_left a hd, Nat.mul_div_cancel_left b hd]
  unfold oC
  by_cases h : a = 0
  · subst h; simp
  · rw [if_neg h, if_neg (fun q => by rcases Nat.mul_eq_zero.mp q with q | q <;> omega), Nat.mul_left_comm, Nat.mul_div_mul_left _ _ hd]
theorem ma_cmp_red {A B C D x y : Nat} (hx : 0 < x) (hy : 0 < y) (h1 : x ∣ A) (h2 : x ∣ B) (h3 : y ∣ C) (h4 : y ∣ D) : ma_cmp (A / x * (D / y)) (C / y * (B / x)) = ma_cmp (A * D) (C * B) := by
  obtain ⟨a, rfl⟩ := h1
  obtain ⟨b, rfl⟩ := h2
  obtain ⟨c, rfl⟩ := h3
  obtain ⟨d, rfl⟩ := h4
  rw [Nat.mul_div_cancel_left _ hx, Nat.mul_div_cancel_left _ hx, Nat.mul_div_cancel_left _ hy, Nat.mul_div_cancel_left _ hy]
  have e1 : x * a * (y * d) = x * y * (a * d) := by simp only [Nat.mul_comm, Nat.mul_left_comm, Nat.mul_assoc]
  have e2 : y * c * (x * b) = x * y * (c * b) := by simp only [Nat.mul_comm, Nat.mul_left_comm, Nat.mul_assoc]
  rw [e1, e2]
  have hp : 0 < x * y := Nat.mul_pos hx hy
  rcases Nat.lt_trichotomy (a * d) (c * b) with q | q | q
  · rw [ma_cmp_lt q, ma_cmp_lt (Nat.mul_lt_mul_of_pos_left q hp)]
  · rw [ma_cmp_eq q, ma_cmp_eq (by rw [q])]
  · rw [ma_cmp_gt q, ma_cmp_gt (Nat.mul_lt_mul_of_pos_left q hp)]
theorem okFl_N {F n : Nat} (h1 : 1 ≤ n) (h2 : n ≤ F) (h3 : F ≤ 12) : okFl F (nI n) := by
  unfold okFl
  rw [nI_toInt (by omega)]
  omega
theorem okTy_N {n k : Nat} (h : k < n) (h3 : n ≤ 6) : okTy n (nI k) := by
  unfold okTy
  rw [nI_toInt (by omega)]
  omega
end
section
set_option maxHeartbeats 4000000 in
set_option maxRecDepth 100000 in
theorem c_M_floor_b1 (l : Launch) {dC : Nat → ClassId} {dI : Nat → Nat → Nat} {cI cL cT : ClassId} {sa : Nat → Nat} (sz : Nat) (q : Nat → Nat) (th : Int32) (F nt : Nat) (ab be : Int64) (pp hh : Nat → Nat) (p0 p1 : Int32) (hbad : ¬ ((0 ≤ p0.toInt ∧ p0.toInt ≤ 200) ∧ (10 ≤ p1.toInt ∧ p1.toInt ≤ 100))) : Met l y_M_floor (Cond.code y_M_floor b_M_floor 3 (some .int) :: gw) ({ frames := 1, cells := 0, slots := 0, locals := 22 } : Room) (wr dC dI cI cL cT sa [.ref (q 0), .int p0, .int p1] [(q 0, .inr (6, (mF q th F nt ab be))), (q 1, .inl (cI, 13, .inl (fun j => nI (pp j)))), (q 2, .inl (cI, 13, .inl (fun j => nI (hh j))))] sz) (va_Qi (fun r (_ : Unit) => r = nI 0) (wB dC dI [(q 0, .inr (6, (mF q th F nt ab be))), (q 1, .inl (cI, 13, .inl (fun j => nI (pp j)))), (q 2, .inl (cI, 13, .inl (fun j => nI (hh j))))] [(q 0, .inr (6, (mF q (nI 1) F nt ab be))), (q 1, .inl (cI, 13, .inl (fun j => nI (pp j)))), (q 2, .inl (cI, 13, .inl (fun j => nI (hh j))))] sz) (va_A [(q 0, .inr (6, (mF q th F nt ab be))), (q 1, .inl (cI, 13, .inl (fun j => nI (pp j)))), (q 2, .inl (cI, 13, .inl (fun j => nI (hh j))))] sz)) 0 0 (va_A [(q 0, .inr (6, (mF q th F nt ab be))), (q 1, .inl (cI, 13, .inl (fun j => nI (pp j)))), (q 2, .inl (cI, 13, .inl (fun j => nI (hh j))))] sz) := by
  refine Met.ofW (cc := b_M_floor) (maxL := 3) (ret := (some .int)) (by decide) rfl ?_
  intro p e s m args below meth c s₁ B hml hv
  obtain ⟨rfl, hsz, hC, hP, hD0⟩ := hv
  have hx := B.exec
  have hb := B.bytes
  have hr := B.returns
  have hts : ∀ w ∈ gw, w.before ([.ref (q 0), .int p0, .int p1] : List Value).toArray s = true := fun w hw => atoms_spec (ws := Cond.code y_M_floor b_M_floor 3 (some .int) :: gw) B.pre w (List.mem_cons_of_mem _ hw)
  have hown : s.vm.findClass R_M = some m.cls := findClass_of_methodNamed B.named
  have hlocks := B.notSynchronized
  have hK := hC.1
  have hfr : 1 ≤ (headSpec (Cond.code y_M_floor b_M_floor 3 (some .int) :: gw) ({ frames := 1, cells := 0, slots := 0, locals := 22 } : Room)).room.frames := Nat.le_refl _
  have hlo : 22 ≤ (headSpec (Cond.code y_M_floor b_M_floor 3 (some .int) :: gw) ({ frames := 1, cells := 0, slots := 0, locals := 22 } : Room)).room.locals := Nat.le_refl _
  have hce : 0 ≤ (headSpec (Cond.code y_M_floor b_M_floor 3 (some .int) :: gw) ({ frames := 1, cells := 0, slots := 0, locals := 22 } : Room)).room.cells := Nat.zero_le _
  have hsl : 0 ≤ (headSpec (Cond.code y_M_floor b_M_floor 3 (some .int) :: gw) ({ frames := 1, cells := 0, slots := 0, locals := 22 } : Room)).room.slots := Nat.zero_le _
  subst hsz
  have hD := hD0.self (sz := s.heap.size)
  unfold wB
  generalize hAe : va_A [(q 0, .inr (6, (mF q th F nt ab be))), (q 1, .inl (cI, 13, .inl (fun j => nI (pp j)))), (q 2, .inl (cI, 13, .inl (fun j => nI (hh j))))] s.heap.size = A at hD ⊢
  have hA : ∀ q : Nat, s.heap.size ≤ q → A q := fun q h => by rw [← hAe]; exact Or.inr h
  have hS : va_S A s.heap s.heap [] := va_S.rf
  have hl := lv_entry ([.ref (q 0), .int p0, .int p1]) (n := 3) (Nat.le_of_ble_eq_true rfl)
  rw [lg_entry_eq]
  generalize (lg_sl ([.ref (q 0), .int p0, .int p1]) ++ List.replicate (3 - (lg_sl ([.ref (q 0), .int p0, .int p1])).length) Slot.unset).toArray = ls at hl ⊢
  have hl : lv_has ls 3 [(0, .ref (q 0)), (1, .int p0), (2, .int p1)] := hl
  refine lv_aload_n hx hb d_M_floor_0 rfl (lv_at hl 0 rfl) ?_
  refine lv_iload_n hx hb d_M_floor_1 rfl (lv_at hl 1 rfl) ?_
  refine lv_iconst (v := nI 0) hx hb d_M_floor_2 (by decide) ?_
  refine lv_sipush (v := nI 200) hx hb d_M_floor_3 (by decide) ?_
  refine ro_calli (va_runS (As := [.int p0, .int (nI 0), .int (nI 200)]) (rest := [.ref (q 0)]) ⟨hx, hb, hml, hown, hts⟩ (c_M_isIn l p0 (nI 0) (nI 200) 0 200 (nI_toInt (by decide)) (nI_toInt (by decide))) (cwS 3 hts (gw_S k_539 k_537 k_538 k_6) rfl rfl rfl (by decide +kernel) ⟨Nat.le_trans (Nat.le_of_ble_eq_true rfl) hfr, Nat.le_trans (Nat.le_of_ble_eq_true rfl) hlo⟩) ⟨pr_blind, pr_at hC (fun k q h => by simp at h)⟩ rfl rfl hl.1 rfl (lv_room (Nat.le_of_ble_eq_true rfl)) d_M_floor_6 ⟨hce, hsl⟩) (fun r9 h9 => ?_)
  subst h9
  refine nx_b_eq (tgt := 23) hx hb d_M_floor_9 (by decide) (fun h1 => ?_) (fun h1 => ?_)
  · refine lv_iconst (v := nI 1) hx hb d_M_floor_23 (by decide) ?_
    refine lv_goto (tgt := 53) hx hb d_M_floor_24 (by decide) ?_
    refine va_put (D := (dC, dI)) (ci := 6) (v := .int (nI 1)) (ty := (.int)) (C := R_M) (T := F_M) (N := 17) hx hb hts i_M ft_M ft_M_ok n_M hown hK hP hD hS 0 rfl rfl 0 (by decide) (hts _ k_477) (fun _ h9 => h9) rfl (by decide +kernel) rfl rfl (Nat.le_of_ble_eq_true rfl) d_M_floor_53 (fun H locs hP hD hS => ?_)
    have hP : va_P (dC, dI) vwCl [(q 0, .inr (6, (mF q (nI 1) F nt ab be))), (q 1, .inl (cI, 13, .inl (fun j => nI (pp j)))), (q 2, .inl (cI, 13, .inl (fun j => nI (hh j))))] H := hP
    have hD : va_D A [(q 0, .inr (6, (mF q (nI 1) F nt ab be))), (q 1, .inl (cI, 13, .inl (fun j => nI (pp j)))), (q 2, .inl (cI, 13, .inl (fun j => nI (hh j))))] := hD
    refine lv_aload_n hx hb d_M_floor_56 rfl (lv_at hl 0 rfl) ?_
    refine va_get (D := (dC, dI)) (ci := 6) (v := .int (nI 1)) (C := R_M) (T := F_M) (N := 17) hx hb hts i_M hown hK hP 0 rfl rfl 0 (by decide) (hts _ k_477) (fun _ h9 => h9) rfl d_M_floor_57 ?_
    refine nx_if_le (tgt := 65) hx hb d_M_floor_60 (by decide) (by omega) (fun h9 => ?_) (fun h9 => ?_)
    · exact absurd h9 (by omega)
    · refine lv_iconst (v := nI 0) hx hb d_M_floor_63 (by decide) ?_
      exact W.iret hx hb hr (fun t ht hW => ⟨⟨_, (), rfl, rfl, by rw [ht]; exact hP, hD⟩, hS.F ht⟩) hS.2.2 d_M_floor_64
  · refine lv_iload_n hx hb d_M_floor_12 rfl (lv_at hl 2 rfl) ?_
    refine lv_bipush (v := nI 10) hx hb d_M_floor_13 (by decide) ?_
    refine lv_bipush (v := nI 100) hx hb d_M_floor_15 (by decide) ?_
    refine ro_calli (va_runS (As := [.int p1, .int (nI 10), .int (nI 100)]) (rest := [.ref (q 0)]) ⟨hx, hb, hml, hown, hts⟩ (c_M_isIn l p1 (nI 10) (nI 100) 10 100 (nI_toInt (by decide)) (nI_toInt (by decide))) (cwS 3 hts (gw_S k_539 k_537 k_538 k_6) rfl rfl rfl (by decide +kernel) ⟨Nat.le_trans (Nat.le_of_ble_eq_true rfl) hfr, Nat.le_trans (Nat.le_of_ble_eq_true rfl) hlo⟩) ⟨pr_blind, pr_at hC (fun k q h => by simp at h)⟩ rfl rfl hl.1 rfl (lv_room (Nat.le_of_ble_eq_true rfl)) d_M_floor_17 ⟨hce, hsl⟩) (fun r9 h9 => ?_)
    subst h9
    refine nx_b_ne (tgt := 27) hx hb d_M_floor_20 (by decide) (fun h2 => ?_) (fun h2 => ?_)
    · exact absurd ⟨h1, h2⟩ hbad
    · refine lv_iconst (v := nI 1) hx hb d_M_floor_23 (by decide) ?_
      refine lv_goto (tgt := 53) hx hb d_M_floor_24 (by decide) ?_
      refine va_put (D := (dC, dI)) (ci := 6) (v := .int (nI 1)) (ty := (.int)) (C := R_M) (T := F_M) (N := 17) hx hb hts i_M ft_M ft_M_ok n_M hown hK hP hD hS 0 rfl rfl 0 (by decide) (hts _ k_477) (fun _ h9 => h9) rfl (by decide +kernel) rfl rfl (Nat.le_of_ble_eq_true rfl) d_M_floor_53 (fun H locs hP hD hS => ?_)
      have hP : va_P (dC, dI) vwCl [(q 0, .inr (6, (mF q (nI 1) F nt ab be))), (q 1, .inl (cI, 13, .inl (fun j => nI (pp j)))), (q 2, .inl (cI, 13, .inl (fun j => nI (hh j))))] H := hP
      have hD : va_D A [(q 0, .inr (6, (mF q (nI 1) F nt ab be))), (q 1, .inl (cI, 13, .inl (fun j => nI (pp j)))), (q 2, .inl (cI, 13, .inl (fun j => nI (hh j))))] := hD
      refine lv_aload_n hx hb d_M_floor_56 rfl (lv_at hl 0 rfl) ?_
      refine va_get (D := (dC, dI)) (ci := 6) (v := .int (nI 1)) (C := R_M) (T := F_M) (N := 17) hx hb hts i_M hown hK hP 0 rfl rfl 0 (by decide) (hts _ k_477) (fun _ h9 => h9) rfl d_M_floor_57 ?_
      refine nx_if_le (tgt := 65) hx hb d_M_floor_60 (by decide) (by omega) (fun h9 => ?_) (fun h9 => ?_)
      · exact absurd h9 (by omega)
      · refine lv_iconst (v := nI 0) hx hb d_M_floor_63 (by decide) ?_
        exact W.iret hx hb hr (fun t ht hW => ⟨⟨_, (), rfl, rfl, by rw [ht]; exact hP, hD⟩, hS.F ht⟩) hS.2.2 d_M_floor_64
set_option maxHeartbeats 4000000 in
set_option maxRecDepth 100000 in
theorem c_M_floor_b2 (l : Launch) {dC : Nat → ClassId} {dI : Nat → Nat → Nat} {cI cL cT : ClassId} {sa : Nat → Nat} (sz : Nat) (q : Nat → Nat) (th : Int32) (F nt : Nat) (ab be : Int64) (pp hh : Nat → Nat) (a b : Nat) (ha : a ≤ 200) (hb1 : 10 ≤ b) (hb2 : b ≤ 100) (hF12 : F ≤ 12) (hE : sm pp 1 F ≤ 200) (hbad : F = 12 ∨ 200 < sm pp 1 F + a) : Met l y_M_floor (Cond.code y_M_floor b_M_floor 3 (some .int) :: gw) ({ frames := 1, cells := 0, slots := 0, locals := 22 } : Room) (wr dC dI cI cL cT sa [.ref (q 0), .int (nI a), .int (nI b)] [(q 0, .inr (6, (mF q th F nt ab be))), (q 1, .inl (cI, 13, .inl (fun j => nI (pp j)))), (q 2, .inl (cI, 13, .inl (fun j => nI (hh j))))] sz) (va_Qi (fun r (_ : Unit) => r = nI 0) (wB dC dI [(q 0, .inr (6, (mF q th F nt ab be))), (q 1, .inl (cI, 13, .inl (fun j => nI (pp j)))), (q 2, .inl (cI, 13, .inl (fun j => nI (hh j))))] [(q 0, .inr (6, (mF q (nI 2) F nt ab be))), (q 1, .inl (cI, 13, .inl (fun j => nI (pp j)))), (q 2, .inl (cI, 13, .inl (fun j => nI (hh j))))] sz) (va_A [(q 0, .inr (6, (mF q th F nt ab be))), (q 1, .inl (cI, 13, .inl (fun j => nI (pp j)))), (q 2, .inl (cI, 13, .inl (fun j => nI (hh j))))] sz)) 0 0 (va_A [(q 0, .inr (6, (mF q th F nt ab be))), (q 1, .inl (cI, 13, .inl (fun j => nI (pp j)))), (q 2, .inl (cI, 13, .inl (fun j => nI (hh j))))] sz) := by
  refine Met.ofW (cc := b_M_floor) (maxL := 3) (ret := (some .int)) (by decide) rfl ?_
  intro p e s m args below meth c s₁ B hml hv
  obtain ⟨rfl, hsz, hC, hP, hD0⟩ := hv
  have hx := B.exec
  have hb := B.bytes
  have hr := B.returns
  have hts : ∀ w ∈ gw, w.before ([.ref (q 0), .int (nI a), .int (nI b)] : List Value).toArray s = true := fun w hw => atoms_spec (ws := Cond.code y_M_floor b_M_floor 3 (some .int) :: gw) B.pre w (List.mem_cons_of_mem _ hw)
  have hown : s.vm.findClass R_M = some m.cls := findClass_of_methodNamed B.named
  have hlocks := B.notSynchronized
  have hK := hC.1
  have hfr : 1 ≤ (headSpec (Cond.code y_M_floor b_M_floor 3 (some .int) :: gw) ({ frames := 1, cells := 0, slots := 0, locals := 22 } : Room)).room.frames := Nat.le_refl _
  have hlo : 22 ≤ (headSpec (Cond.code y_M_floor b_M_floor 3 (some .int) :: gw) ({ frames := 1, cells := 0, slots := 0, locals := 22 } : Room)).room.locals := Nat.le_refl _
  have hce : 0 ≤ (headSpec (Cond.code y_M_floor b_M_floor 3 (some .int) :: gw) ({ frames := 1, cells := 0, slots := 0, locals := 22 } : Room)).room.cells := Nat.zero_le _
  have hsl : 0 ≤ (headSpec (Cond.code y_M_floor b_M_floor 3 (some .int) :: gw) ({ frames := 1, cells := 0, slots := 0, locals := 22 } : Room)).room.slots := Nat.zero_le _
  subst hsz
  have hD := hD0.self (sz := s.heap.size)
  unfold wB
  generalize hAe : va_A [(q 0, .inr (6, (mF q th F nt ab be))), (q 1, .inl (cI, 13, .inl (fun j => nI (pp j)))), (q 2, .inl (cI, 13, .inl (fun j => nI (hh j))))] s.heap.size = A at hD ⊢
  have hA : ∀ q : Nat, s.heap.size ≤ q → A q := fun q h => by rw [← hAe]; exact Or.inr h
  have hS : va_S A s.heap s.heap [] := va_S.rf
  have hl := lv_entry ([.ref (q 0), .int (nI a), .int (nI b)]) (n := 3) (Nat.le_of_ble_eq_true rfl)
  rw [lg_entry_eq]
  generalize (lg_sl ([.ref (q 0), .int (nI a), .int (nI b)]) ++ List.replicate (3 - (lg_sl ([.ref (q 0), .int (nI a), .int (nI b)])).length) Slot.unset).toArray = ls at hl ⊢
  have hl : lv_has ls 3 [(0, .ref (q 0)), (1, .int (nI a)), (2, .int (nI b))] := hl
  refine lv_aload_n hx hb d_M_floor_0 rfl (lv_at hl 0 rfl) ?_
  refine lv_iload_n hx hb d_M_floor_1 rfl (lv_at hl 1 rfl) ?_
  refine lv_iconst (v := nI 0) hx hb d_M_floor_2 (by decide) ?_
  refine lv_sipush (v := nI 200) hx hb d_M_floor_3 (by decide) ?_
  refine ro_calli (va_runS (As := [.int (nI a), .int (nI 0), .int (nI 200)]) (rest := [.ref (q 0)]) ⟨hx, hb, hml, hown, hts⟩ (c_M_isInN l a 0 200 (by omega) (by decide) (by decide)) (cwS 3 hts (gw_S k_539 k_537 k_538 k_6) rfl rfl rfl (by decide +kernel) ⟨Nat.le_trans (Nat.le_of_ble_eq_true rfl) hfr, Nat.le_trans (Nat.le_of_ble_eq_true rfl) hlo⟩) ⟨pr_blind, pr_at hC (fun k q h => by simp at h)⟩ rfl rfl hl.1 rfl (lv_room (Nat.le_of_ble_eq_true rfl)) d_M_floor_6 ⟨hce, hsl⟩) (fun r9 h9 => ?_)
  subst h9
  refine nx_b_eq (tgt := 23) hx hb d_M_floor_9 (by decide) (fun h1 => ?_) (fun h1 => ?_)
  · exact absurd (show 0 ≤ a ∧ a ≤ 200 by omega) h1
  · refine lv_iload_n hx hb d_M_floor_12 rfl (lv_at hl 2 rfl) ?_
    refine lv_bipush (v := nI 10) hx hb d_M_floor_13 (by decide) ?_
    refine lv_bipush (v := nI 100) hx hb d_M_floor_15 (by decide) ?_
    refine ro_calli (va_runS (As := [.int (nI b), .int (nI 10), .int (nI 100)]) (rest := [.ref (q 0)]) ⟨hx, hb, hml, hown, hts⟩ (c_M_isInN l b 10 100 (by omega) (by decide) (by decide)) (cwS 3 hts (gw_S k_539 k_537 k_538 k_6) rfl rfl rfl (by decide +kernel) ⟨Nat.le_trans (Nat.le_of_ble_eq_true rfl) hfr, Nat.le_trans (Nat.le_of_ble_eq_true rfl) hlo⟩) ⟨pr_blind, pr_at hC (fun k q h => by simp at h)⟩ rfl rfl hl.1 rfl (lv_room (Nat.le_of_ble_eq_true rfl)) d_M_floor_17 ⟨hce, hsl⟩) (fun r9 h9 => ?_)
    subst h9
    refine nx_b_ne (tgt := 27) hx hb d_M_floor_20 (by decide) (fun h2 => ?_) (fun h2 => ?_)
    · refine lv_aload_n hx hb d_M_floor_27 rfl (lv_at hl 0 rfl) ?_
      refine va_get (D := (dC, dI)) (ci := 6) (v := .int (nI F)) (C := R_M) (T := F_M) (N := 17) hx hb hts i_M hown hK hP 0 rfl rfl 3 (by decide) (hts _ k_480) (fun _ h9 => h9) rfl d_M_floor_28 ?_
      refine lv_bipush (v := nI 12) hx hb d_M_floor_31 (by decide) ?_
      refine nx_icmp_eq (tgt := 48) hx hb d_M_floor_33 (by decide) (by omega) (by omega) (fun h3 => ?_) (fun h3 => ?_)
      · refine lv_iconst (v := nI 2) hx hb d_M_floor_48 (by decide) ?_
        refine lv_goto (tgt := 53) hx hb d_M_floor_49 (by decide) ?_
        refine va_put (D := (dC, dI)) (ci := 6) (v := .int (nI 2)) (ty := (.int)) (C := R_M) (T := F_M) (N := 17) hx hb hts i_M ft_M ft_M_ok n_M hown hK hP hD hS 0 rfl rfl 0 (by decide) (hts _ k_477) (fun _ h9 => h9) rfl (by decide +kernel) rfl rfl (Nat.le_of_ble_eq_true rfl) d_M_floor_53 (fun H locs hP hD hS => ?_)
        have hP : va_P (dC, dI) vwCl [(q 0, .inr (6, (mF q (nI 2) F nt ab be))), (q 1, .inl (cI, 13, .inl (fun j => nI (pp j)))), (q 2, .inl (cI, 13, .inl (fun j => nI (hh j))))] H := hP
        have hD : va_D A [(q 0, .inr (6, (mF q (nI 2) F nt ab be))), (q 1, .inl (cI, 13, .inl (fun j => nI (pp j)))), (q 2, .inl (cI, 13, .inl (fun j => nI (hh j))))] := hD
        refine lv_aload_n hx hb d_M_floor_56 rfl (lv_at hl 0 rfl) ?_
        refine va_get (D := (dC, dI)) (ci := 6) (v := .int (nI 2)) (C := R_M) (T := F_M) (N := 17) hx hb hts i_M hown hK hP 0 rfl rfl 0 (by decide) (hts _ k_477) (fun _ h9 => h9) rfl d_M_floor_57 ?_
        refine nx_if_le (tgt := 65) hx hb d_M_floor_60 (by decide) (by omega) (fun h9 => ?_) (fun h9 => ?_)
        · exact absurd h9 (by omega)
        · refine lv_iconst (v := nI 0) hx hb d_M_floor_63 (by decide) ?_
          exact W.iret hx hb hr (fun t ht hW => ⟨⟨_, (), rfl, rfl, by rw [ht]; exact hP, hD⟩, hS.F ht⟩) hS.2.2 d_M_floor_64
      · refine lv_aload_n hx hb d_M_floor_36 rfl (lv_at hl 0 rfl) ?_
        refine ro_calli (va_runV (As := []) (rest := [.ref (q 0)]) ⟨hx, hb, hml, hown, hts⟩ (c_M_allPersons l q th F nt ab be pp hF12) (cwV 0 hts (gw_V k_543 k_540 k_542 ks_M_allPersons k_6) rfl rfl rfl (by decide +kernel) ⟨Nat.le_trans (Nat.le_of_ble_eq_true rfl) hfr, Nat.le_trans (Nat.le_of_ble_eq_true rfl) hlo⟩) ⟨pr_blind, va_recv hK hP (ci := 6) (q0 := 0) rfl rfl, pr_at hC (hP.sub (ws' := [(q 0, .inr (6, (mF q th F nt ab be))), (q 1, .inl (cI, 13, .inl (fun j => nI (pp j))))]) [0, 1] rfl)⟩ rfl rfl hl.1 rfl (lv_room (Nat.le_of_ble_eq_true rfl)) d_M_floor_37 ⟨hce, hsl⟩) (fun r9 h9 => ?_)
        subst h9
        refine lv_iload_n hx hb d_M_floor_40 rfl (lv_at hl 1 rfl) ?_
        refine nx_iadd hx hb d_M_floor_41 ?_
        refine lv_sipush (v := nI 200) hx hb d_M_floor_42 (by decide) ?_
        refine nx_icmp_le (tgt := 52) hx hb d_M_floor_45 (by decide) (by omega) (by omega) (fun h4 => ?_) (fun h4 => ?_)
        · exact absurd hbad (by omega)
        · refine lv_iconst (v := nI 2) hx hb d_M_floor_48 (by decide) ?_
          refine lv_goto (tgt := 53) hx hb d_M_floor_49 (by decide) ?_
          refine va_put (D := (dC, dI)) (ci := 6) (v := .int (nI 2)) (ty := (.int)) (C := R_M) (T := F_M) (N := 17) hx hb hts i_M ft_M ft_M_ok n_M hown hK hP hD hS 0 rfl rfl 0 (by decide) (hts _ k_477) (fun _ h9 => h9) rfl (by decide +kernel) rfl rfl (Nat.le_of_ble_eq_true rfl) d_M_floor_53 (fun H locs hP hD hS => ?_)
          have hP : va_P (dC, dI) vwCl [(q 0, .inr (6, (mF q (nI 2) F nt ab be))), (q 1, .inl (cI, 13, .inl (fun j => nI (pp j)))), (q 2, .inl (cI, 13, .inl (fun j => nI (hh j))))] H := hP
          have hD : va_D A [(q 0, .inr (6, (mF q (nI 2) F nt ab be))), (q 1, .inl (cI, 13, .inl (fun j => nI (pp j)))), (q 2, .inl (cI, 13, .inl (fun j => nI (hh j))))] := hD
          refine lv_aload_n hx hb d_M_floor_56 rfl (lv_at hl 0 rfl) ?_
          refine va_get (D := (dC, dI)) (ci := 6) (v := .int (nI 2)) (C := R_M) (T := F_M) (N := 17) hx hb hts i_M hown hK hP 0 rfl rfl 0 (by decide) (hts _ k_477) (fun _ h9 => h9) rfl d_M_floor_57 ?_
          refine nx_if_le (tgt := 65) hx hb d_M_floor_60 (by decide) (by omega) (fun h9 => ?_) (fun h9 => ?_)
          · exact absurd h9 (by omega)
          · refine lv_iconst (v := nI 0) hx hb d_M_floor_63 (by decide) ?_
            exact W.iret hx hb hr (fun t ht hW => ⟨⟨_, (), rfl, rfl, by rw [ht]; exact hP, hD⟩, hS.F ht⟩) hS.2.2 d_M_floor_64
    · exact absurd (show 10 ≤ b ∧ b ≤ 100 by omega) h2
set_option maxHeartbeats 4000000 in
set_option maxRecDepth 100000 in
theorem c_M_floor (l : Launch) {dC : Nat → ClassId} {dI : Nat → Nat → Nat} {cI cL cT : ClassId} {sa : Nat → Nat} (sz : Nat) (q : Nat → Nat) (th : Int32) (F nt : Nat) (ab be : Int64) (pp hh : Nat → Nat) (a b : Nat) (ha : a ≤ 200) (hb1 : 10 ≤ b) (hb2 : b ≤ 100) (hF12 : F ≤ 12) (hE : sm pp 1 F ≤ 200) (h12 : F < 12) (hok : sm pp 1 F + a ≤ 200) : Met l y_M_floor (Cond.code y_M_floor b_M_floor 3 (some .int) :: gw) ({ frames := 1, cells := 0, slots := 0, locals := 22 } : Room) (wr dC dI cI cL cT sa [.ref (q 0), .int (nI a), .int (nI b)] [(q 0, .inr (6, (mF q th F nt ab be))), (q 1, .inl (cI, 13, .inl (fun j => nI (pp j)))), (q 2, .inl (cI, 13, .inl (fun j => nI (hh j))))] sz) (va_Qi (fun r (_ : Unit) => r = nI (F + 1)) (wB dC dI [(q 0, .inr (6, (mF q th F nt ab be))), (q 1, .inl (cI, 13, .inl (fun j => nI (pp j)))), (q 2, .inl (cI, 13, .inl (fun j => nI (hh j))))] [(q 0, .inr (6, (mF q (nI 0) (F + 1) nt ab be))), (q 1, .inl (cI, 13, .inl (fun j => nI ((up pp (F + 1) a) j)))), (q 2, .inl (cI, 13, .inl (fun j => nI ((up hh (F + 1) (hh F + b)) j))))] sz) (va_A [(q 0, .inr (6, (mF q th F nt ab be))), (q 1, .inl (cI, 13, .inl (fun j => nI (pp j)))), (q 2, .inl (cI, 13, .inl (fun j => nI (hh j))))] sz)) 0 0 (va_A [(q 0, .inr (6, (mF q th F nt ab be))), (q 1, .inl (cI, 13, .inl (fun j => nI (pp j)))), (q 2, .inl (cI, 13, .inl (fun j => nI (hh j))))] sz) := by
  refine Met.ofW (cc := b_M_floor) (maxL := 3) (ret := (some .int)) (by decide) rfl ?_
  intro p e s m args below meth c s₁ B hml hv
  obtain ⟨rfl, hsz, hC, hP, hD0⟩ := hv
  have hx := B.exec
  have hb := B.bytes
  have hr := B.returns
  have hts : ∀ w ∈ gw, w.before ([.ref (q 0), .int (nI a), .int (nI b)] : List Value).toArray s = true := fun w hw => atoms_spec (ws := Cond.code y_M_floor b_M_floor 3 (some .int) :: gw) B.pre w (List.mem_cons_of_mem _ hw)
  have hown : s.vm.findClass R_M = some m.cls := findClass_of_methodNamed B.named
  have hlocks := B.notSynchronized
  have hK := hC.1
  have hfr : 1 ≤ (headSpec (Cond.code y_M_floor b_M_floor 3 (some .int) :: gw) ({ frames := 1, cells := 0, slots := 0, locals := 22 } : Room)).room.frames := Nat.le_refl _
  have hlo : 22 ≤ (headSpec (Cond.code y_M_floor b_M_floor 3 (some .int) :: gw) ({ frames := 1, cells := 0, slots := 0, locals := 22 } : Room)).room.locals := Nat.le_refl _
  have hce : 0 ≤ (headSpec (Cond.code y_M_floor b_M_floor 3 (some .int) :: gw) ({ frames := 1, cells := 0, slots := 0, locals := 22 } : Room)).room.cells := Nat.zero_le _
  have hsl : 0 ≤ (headSpec (Cond.code y_M_floor b_M_floor 3 (some .int) :: gw) ({ frames := 1, cells := 0, slots := 0, locals := 22 } : Room)).room.slots := Nat.zero_le _
  subst hsz
  have hD := hD0.self (sz := s.heap.size)
  unfold wB
  generalize hAe : va_A [(q 0, .inr (6, (mF q th F nt ab be))), (q 1, .inl (cI, 13, .inl (fun j => nI (pp j)))), (q 2, .inl (cI, 13, .inl (fun j => nI (hh j))))] s.heap.size = A at hD ⊢
  have hA : ∀ q : Nat, s.heap.size ≤ q → A q := fun q h => by rw [← hAe]; exact Or.inr h
  have hS : va_S A s.heap s.heap [] := va_S.rf
  have hl := lv_entry ([.ref (q 0), .int (nI a), .int (nI b)]) (n := 3) (Nat.le_of_ble_eq_true rfl)
  rw [lg_entry_eq]
  generalize (lg_sl ([.ref (q 0), .int (nI a), .int (nI b)]) ++ List.replicate (3 - (lg_sl ([.ref (q 0), .int (nI a), .int (nI b)])).length) Slot.unset).toArray = ls at hl ⊢
  have hl : lv_has ls 3 [(0, .ref (q 0)), (1, .int (nI a)), (2, .int (nI b))] := hl
  refine lv_aload_n hx hb d_M_floor_0 rfl (lv_at hl 0 rfl) ?_
  refine lv_iload_n hx hb d_M_floor_1 rfl (lv_at hl 1 rfl) ?_
  refine lv_iconst (v := nI 0) hx hb d_M_floor_2 (by decide) ?_
  refine lv_sipush (v := nI 200) hx hb d_M_floor_3 (by decide) ?_
  refine ro_calli (va_runS (As := [.int (nI a), .int (nI 0), .int (nI 200)]) (rest := [.ref (q 0)]) ⟨hx, hb, hml, hown, hts⟩ (c_M_isInN l a 0 200 (by omega) (by decide) (by decide)) (cwS 3 hts (gw_S k_539 k_537 k_538 k_6) rfl rfl rfl (by decide +kernel) ⟨Nat.le_trans (Nat.le_of_ble_eq_true rfl) hfr, Nat.le_trans (Nat.le_of_ble_eq_true rfl) hlo⟩) ⟨pr_blind, pr_at hC (fun k q h => by simp at h)⟩ rfl rfl hl.1 rfl (lv_room (Nat.le_of_ble_eq_true rfl)) d_M_floor_6 ⟨hce, hsl⟩) (fun r9 h9 => ?_)
  subst h9
  refine nx_b_eq (tgt := 23) hx hb d_M_floor_9 (by decide) (fun h1 => ?_) (fun h1 => ?_)
  · exact absurd (show 0 ≤ a ∧ a ≤ 200 by omega) h1
  · refine lv_iload_n hx hb d_M_floor_12 rfl (lv_at hl 2 rfl) ?_
    refine lv_bipush (v := nI 10) hx hb d_M_floor_13 (by decide) ?_
    refine lv_bipush (v := nI 100) hx hb d_M_floor_15 (by decide) ?_
    refine ro_calli (va_runS (As := [.int (nI b), .int (nI 10), .int (nI 100)]) (rest := [.ref (q 0)]) ⟨hx, hb, hml, hown, hts⟩ (c_M_isInN l b 10 100 (by omega) (by decide) (by decide)) (cwS 3 hts (gw_S k_539 k_537 k_538 k_6) rfl rfl rfl (by decide +kernel) ⟨Nat.le_trans (Nat.le_of_ble_eq_true rfl) hfr, Nat.le_trans (Nat.le_of_ble_eq_true rfl) hlo⟩) ⟨pr_blind, pr_at hC (fun k q h => by simp at h)⟩ rfl rfl hl.1 rfl (lv_room (Nat.le_of_ble_eq_true rfl)) d_M_floor_17 ⟨hce, hsl⟩) (fun r9 h9 => ?_)
    subst h9
    refine nx_b_ne (tgt := 27) hx hb d_M_floor_20 (by decide) (fun h2 => ?_) (fun h2 => ?_)
    · refine lv_aload_n hx hb d_M_floor_27 rfl (lv_at hl 0 rfl) ?_
      refine va_get (D := (dC, dI)) (ci := 6) (v := .int (nI F)) (C := R_M) (T := F_M) (N := 17) hx hb hts i_M hown hK hP 0 rfl rfl 3 (by decide) (hts _ k_480) (fun _ h9 => h9) rfl d_M_floor_28 ?_
      refine lv_bipush (v := nI 12) hx hb d_M_floor_31 (by decide) ?_
      refine nx_icmp_eq (tgt := 48) hx hb d_M_floor_33 (by decide) (by omega) (by omega) (fun h3 => ?_) (fun h3 => ?_)
      · exact absurd h3 (by omega)
      · refine lv_aload_n hx hb d_M_floor_36 rfl (lv_at hl 0 rfl) ?_
        refine ro_calli (va_runV (As := []) (rest := [.ref (q 0)]) ⟨hx, hb, hml, hown, hts⟩ (c_M_allPersons l q th F nt ab be pp hF12) (cwV 0 hts (gw_V k_543 k_540 k_542 ks_M_allPersons k_6) rfl rfl rfl (by decide +kernel) ⟨Nat.le_trans (Nat.le_of_ble_eq_true rfl) hfr, Nat.le_trans (Nat.le_of_ble_eq_true rfl) hlo⟩) ⟨pr_blind, va_recv hK hP (ci := 6) (q0 := 0) rfl rfl, pr_at hC (hP.sub (ws' := [(q 0, .inr (6, (mF q th F nt ab be))), (q 1, .inl (cI, 13, .inl (fun j => nI (pp j))))]) [0, 1] rfl)⟩ rfl rfl hl.1 rfl (lv_room (Nat.le_of_ble_eq_true rfl)) d_M_floor_37 ⟨hce, hsl⟩) (fun r9 h9 => ?_)
        subst h9
        refine lv_iload_n hx hb d_M_floor_40 rfl (lv_at hl 1 rfl) ?_
        refine nx_iadd hx hb d_M_floor_41 ?_
        refine lv_sipush (v := nI 200) hx hb d_M_floor_42 (by decide) ?_
        refine nx_icmp_le (tgt := 52) hx hb d_M_floor_45 (by decide) (by omega) (by omega) (fun h4 => ?_) (fun h4 => ?_)
        · refine lv_iconst (v := nI 0) hx hb d_M_floor_52 (by decide) ?_
          refine va_put (D := (dC, dI)) (ci := 6) (v := .int (nI 0)) (ty := (.int)) (C := R_M) (T := F_M) (N := 17) hx hb hts i_M ft_M ft_M_ok n_M hown hK hP hD hS 0 rfl rfl 0 (by decide) (hts _ k_477) (fun _ h9 => h9) rfl (by decide +kernel) rfl rfl (Nat.le_of_ble_eq_true rfl) d_M_floor_53 (fun H locs hP hD hS => ?_)
          have hP : va_P (dC, dI) vwCl [(q 0, .inr (6, (mF q (nI 0) F nt ab be))), (q 1, .inl (cI, 13, .inl (fun j => nI (pp j)))), (q 2, .inl (cI, 13, .inl (fun j => nI (hh j))))] H := hP
          have hD : va_D A [(q 0, .inr (6, (mF q (nI 0) F nt ab be))), (q 1, .inl (cI, 13, .inl (fun j => nI (pp j)))), (q 2, .inl (cI, 13, .inl (fun j => nI (hh j))))] := hD
          refine lv_aload_n hx hb d_M_floor_56 rfl (lv_at hl 0 rfl) ?_
          refine va_get (D := (dC, dI)) (ci := 6) (v := .int (nI 0)) (C := R_M) (T := F_M) (N := 17) hx hb hts i_M hown hK hP 0 rfl rfl 0 (by decide) (hts _ k_477) (fun _ h9 => h9) rfl d_M_floor_57 ?_
          refine nx_if_le (tgt := 65) hx hb d_M_floor_60 (by decide) (by omega) (fun h9 => ?_) (fun h9 => ?_)
          · refine lv_aload_n hx hb d_M_floor_65 rfl (lv_at hl 0 rfl) ?_
            refine lv_dup hx hb d_M_floor_66 rfl ?_
            refine va_get (D := (dC, dI)) (ci := 6) (v := .int (nI F)) (C := R_M) (T := F_M) (N := 17) hx hb hts i_M hown hK hP 0 rfl rfl 3 (by decide) (hts _ k_480) (fun _ h9 => h9) rfl d_M_floor_67 ?_
            refine lv_iconst (v := nI 1) hx hb d_M_floor_70 (by decide) ?_
            refine nx_iadd hx hb d_M_floor_71 ?_
            refine va_put (D := (dC, dI)) (ci := 6) (v := .int (nI (F + 1))) (ty := (.int)) (C := R_M) (T := F_M) (N := 17) hx hb hts i_M ft_M ft_M_ok n_M hown hK hP hD hS 0 rfl rfl 3 (by decide) (hts _ k_480) (fun _ h9 => h9) rfl (by decide +kernel) rfl rfl (Nat.le_of_ble_eq_true rfl) d_M_floor_72 (fun H locs hP hD hS => ?_)
            have hP : va_P (dC, dI) vwCl [(q 0, .inr (6, (mF q (nI 0) (F + 1) nt ab be))), (q 1, .inl (cI, 13, .inl (fun j => nI (pp j)))), (q 2, .inl (cI, 13, .inl (fun j => nI (hh j))))] H := hP
            have hD : va_D A [(q 0, .inr (6, (mF q (nI 0) (F + 1) nt ab be))), (q 1, .inl (cI, 13, .inl (fun j => nI (pp j)))), (q 2, .inl (cI, 13, .inl (fun j => nI (hh j))))] := hD
            refine lv_aload_n hx hb d_M_floor_75 rfl (lv_at hl 0 rfl) ?_
            refine va_get (D := (dC, dI)) (ci := 6) (v := .ref (q 1)) (C := R_M) (T := F_M) (N := 17) hx hb hts i_M hown hK hP 0 rfl rfl 1 (by decide) (hts _ k_478) (fun _ h9 => h9) rfl d_M_floor_76 ?_
            refine lv_aload_n hx hb d_M_floor_79 rfl (lv_at hl 0 rfl) ?_
            refine va_get (D := (dC, dI)) (ci := 6) (v := .int (nI (F + 1))) (C := R_M) (T := F_M) (N := 17) hx hb hts i_M hown hK hP 0 rfl rfl 3 (by decide) (hts _ k_480) (fun _ h9 => h9) rfl d_M_floor_80 ?_
            refine lv_iload_n hx hb d_M_floor_83 rfl (lv_at hl 1 rfl) ?_
            refine nx_iast hx hb hK hP hD hS 1 0 rfl rfl (k := F + 1) (x := nI a) (by omega) (by decide) d_M_floor_84 (fun H locs hP hD hS => ?_)
            have hP : va_P (dC, dI) vwCl [(q 0, .inr (6, (mF q (nI 0) (F + 1) nt ab be))), (q 1, .inl (cI, 13, .inl (upd (fun j => nI (pp j)) (F + 1) (nI a)))), (q 2, .inl (cI, 13, .inl (fun j => nI (hh j))))] H := hP
            have hD : va_D A [(q 0, .inr (6, (mF q (nI 0) (F + 1) nt ab be))), (q 1, .inl (cI, 13, .inl (upd (fun j => nI (pp j)) (F + 1) (nI a)))), (q 2, .inl (cI, 13, .inl (fun j => nI (hh j))))] := hD
            rw [up_eq] at hP hD
            refine lv_aload_n hx hb d_M_floor_85 rfl (lv_at hl 0 rfl) ?_
            refine va_get (D := (dC, dI)) (ci := 6) (v := .ref (q 2)) (C := R_M) (T := F_M) (N := 17) hx hb hts i_M hown hK hP 0 rfl rfl 2 (by decide) (hts _ k_479) (fun _ h9 => h9) rfl d_M_floor_86 ?_
            refine lv_aload_n hx hb d_M_floor_89 rfl (lv_at hl 0 rfl) ?_
            refine va_get (D := (dC, dI)) (ci := 6) (v := .int (nI (F + 1))) (C := R_M) (T := F_M) (N := 17) hx hb hts i_M hown hK hP 0 rfl rfl 3 (by decide) (hts _ k_480) (fun _ h9 => h9) rfl d_M_floor_90 ?_
            refine lv_aload_n hx hb d_M_floor_93 rfl (lv_at hl 0 rfl) ?_
            refine va_get (D := (dC, dI)) (ci := 6) (v := .ref (q 2)) (C := R_M) (T := F_M) (N := 17) hx hb hts i_M hown hK hP 0 rfl rfl 2 (by decide) (hts _ k_479) (fun _ h9 => h9) rfl d_M_floor_94 ?_
            refine lv_aload_n hx hb d_M_floor_97 rfl (lv_at hl 0 rfl) ?_
            refine va_get (D := (dC, dI)) (ci := 6) (v := .int (nI (F + 1))) (C := R_M) (T := F_M) (N := 17) hx hb hts i_M hown hK hP 0 rfl rfl 3 (by decide) (hts _ k_480) (fun _ h9 => h9) rfl d_M_floor_98 ?_
            refine lv_iconst (v := nI 1) hx hb d_M_floor_101 (by decide) ?_
            refine nx_isub hx hb d_M_floor_102 (by omega) ?_
            refine nx_iald hx hb hK hP 2 0 rfl rfl (k := (F + 1) - 1) (v := nI (hh ((F + 1) - 1))) (by omega) (by decide) rfl d_M_floor_103 ?_
            refine lv_iload_n hx hb d_M_floor_104 rfl (lv_at hl 2 rfl) ?_
            refine nx_iadd hx hb d_M_floor_105 ?_
            refine nx_iast hx hb hK hP hD hS 2 0 rfl rfl (k := F + 1) (x := nI ((hh ((F + 1) - 1)) + b)) (by omega) (by decide) d_M_floor_106 (fun H locs hP hD hS => ?_)
            have hP : va_P (dC, dI) vwCl [(q 0, .inr (6, (mF q (nI 0) (F + 1) nt ab be))), (q 1, .inl (cI, 13, .inl (fun j => nI ((up pp (F + 1) a) j)))), (q 2, .inl (cI, 13, .inl (upd (fun j => nI (hh j)) (F + 1) (nI ((hh ((F + 1) - 1)) + b)))))] H := hP
            have hD : va_D A [(q 0, .inr (6, (mF q (nI 0) (F + 1) nt ab be))), (q 1, .inl (cI, 13, .inl (fun j => nI ((up pp (F + 1) a) j)))), (q 2, .inl (cI, 13, .inl (upd (fun j => nI (hh j)) (F + 1) (nI ((hh ((F + 1) - 1)) + b)))))] := hD
            rw [up_eq] at hP hD
            refine lv_aload_n hx hb d_M_floor_107 rfl (lv_at hl 0 rfl) ?_
            refine va_get (D := (dC, dI)) (ci := 6) (v := .int (nI (F + 1))) (C := R_M) (T := F_M) (N := 17) hx hb hts i_M hown hK hP 0 rfl rfl 3 (by decide) (hts _ k_480) (fun _ h9 => h9) rfl d_M_floor_108 ?_
            exact W.iret hx hb hr (fun t ht hW => ⟨⟨_, (), rfl, rfl, by rw [ht]; exact hP, hD⟩, hS.F ht⟩) hS.2.2 d_M_floor_111
          · exact absurd h9 (by omega)
        · exact absurd h4 (by omega)
    · exact absurd (show 10 ≤ b ∧ b ≤ 100 by omega) h2
end
section
set_option maxHeartbeats 4000000 in
set_option maxRecDepth 100000 in
theorem c_M_persons_b1 (l : Launch) {dC : Nat → ClassId} {dI : Nat → Nat → Nat} {cI cL cT : ClassId} {sa : Nat → Nat} (sz : Nat) (q : Nat → Nat) (th : Int32) (F nt : Nat) (ab be : Int64) (pp : Nat → Nat) (p0 p1 : Int32) (hF12 : F ≤ 12) (hbad : ¬ (okFl F p0 ∧ (0 ≤ p1.toInt ∧ p1.toInt ≤ 200))) : Met l y_M_persons (Cond.code y_M_persons b_M_persons 4 (some .int) :: gw) ({ frames := 2, cells := 0, slots := 0, locals := 43 } : Room) (wr dC dI cI cL cT sa [.ref (q 0), .int p0, .int p1] [(q 0, .inr (6, (mF q th F nt ab be))), (q 1, .inl (cI, 13, .inl (fun j => nI (pp j))))] sz) (va_Qi (fun r (_ : Unit) => r = nI 0) (wB dC dI [(q 0, .inr (6, (mF q th F nt ab be))), (q 1, .inl (cI, 13, .inl (fun j => nI (pp j))))] [(q 0, .inr (6, (mF q (nI 1) F nt ab be))), (q 1, .inl (cI, 13, .inl (fun j => nI (pp j))))] sz) (va_A [(q 0, .inr (6, (mF q th F nt ab be))), (q 1, .inl (cI, 13, .inl (fun j => nI (pp j))))] sz)) 0 0 (va_A [(q 0, .inr (6, (mF q th F nt ab be))), (q 1, .inl (cI, 13, .inl (fun j => nI (pp j))))] sz) := by
  refine Met.ofW (cc := b_M_persons) (maxL := 4) (ret := (some .int)) (by decide) rfl ?_
  intro p e s m args below meth c s₁ B hml hv
  obtain ⟨rfl, hsz, hC, hP, hD0⟩ := hv
  have hx := B.exec
  have hb := B.bytes
  have hr := B.returns
  have hts : ∀ w ∈ gw, w.before ([.ref (q 0), .int p0, .int p1] : List Value).toArray s = true := fun w hw => atoms_spec (ws := Cond.code y_M_persons b_M_persons 4 (some .int) :: gw) B.pre w (List.mem_cons_of_mem _ hw)
  have hown : s.vm.findClass R_M = some m.cls := findClass_of_methodNamed B.named
  have hlocks := B.notSynchronized
  have hK := hC.1
  have hfr : 2 ≤ (headSpec (Cond.code y_M_persons b_M_persons 4 (some .int) :: gw) ({ frames := 2, cells := 0, slots := 0, locals := 43 } : Room)).room.frames := Nat.le_refl _
  have hlo : 43 ≤ (headSpec (Cond.code y_M_persons b_M_persons 4 (some .int) :: gw) ({ frames := 2, cells := 0, slots := 0, locals := 43 } : Room)).room.locals := Nat.le_refl _
  have hce : 0 ≤ (headSpec (Cond.code y_M_persons b_M_persons 4 (some .int) :: gw) ({ frames := 2, cells := 0, slots := 0, locals := 43 } : Room)).room.cells := Nat.zero_le _
  have hsl : 0 ≤ (headSpec (Cond.code y_M_persons b_M_persons 4 (some .int) :: gw) ({ frames := 2, cells := 0, slots := 0, locals := 43 } : Room)).room.slots := Nat.zero_le _
  subst hsz
  have hD := hD0.self (sz := s.heap.size)
  unfold wB
  generalize hAe : va_A [(q 0, .inr (6, (mF q th F nt ab be))), (q 1, .inl (cI, 13, .inl (fun j => nI (pp j))))] s.heap.size = A at hD ⊢
  have hA : ∀ q : Nat, s.heap.size ≤ q → A q := fun q h => by rw [← hAe]; exact Or.inr h
  have hS : va_S A s.heap s.heap [] := va_S.rf
  have hl := lv_entry ([.ref (q 0), .int p0, .int p1]) (n := 4) (Nat.le_of_ble_eq_true rfl)
  rw [lg_entry_eq]
  generalize (lg_sl ([.ref (q 0), .int p0, .int p1]) ++ List.replicate (4 - (lg_sl ([.ref (q 0), .int p0, .int p1])).length) Slot.unset).toArray = ls at hl ⊢
  have hl : lv_has ls 4 [(0, .ref (q 0)), (1, .int p0), (2, .int p1)] := hl
  refine lv_aload_n hx hb d_M_persons_0 rfl (lv_at hl 0 rfl) ?_
  refine lv_aload_n hx hb d_M_persons_1 rfl (lv_at hl 0 rfl) ?_
  refine lv_iload_n hx hb d_M_persons_2 rfl (lv_at hl 1 rfl) ?_
  refine ro_calli (va_runV (As := [.int p0]) (rest := [.ref (q 0)]) ⟨hx, hb, hml, hown, hts⟩ (c_M_noFloor l q th F nt ab be p0 hF12) (cwV 1 hts (gw_V k_551 k_548 k_550 ks_M_noFloor k_6) rfl rfl rfl (by decide +kernel) ⟨Nat.le_trans (Nat.le_of_ble_eq_true rfl) hfr, Nat.le_trans (Nat.le_of_ble_eq_true rfl) hlo⟩) ⟨pr_blind, va_recv hK hP (ci := 6) (q0 := 0) rfl rfl, pr_at hC (hP.sub (ws' := [(q 0, .inr (6, (mF q th F nt ab be)))]) [0] rfl)⟩ rfl rfl hl.1 rfl (lv_room (Nat.le_of_ble_eq_true rfl)) d_M_persons_3 ⟨hce, hsl⟩) (fun r9 h9 => ?_)
  subst h9
  refine nx_b_ne (tgt := 20) hx hb d_M_persons_6 (by decide) (fun h1 => ?_) (fun h1 => ?_)
  · refine lv_iconst (v := nI 1) hx hb d_M_persons_20 (by decide) ?_
    refine lv_goto (tgt := 48) hx hb d_M_persons_21 (by decide) ?_
    refine va_put (D := (dC, dI)) (ci := 6) (v := .int (nI 1)) (ty := (.int)) (C := R_M) (T := F_M) (N := 17) hx hb hts i_M ft_M ft_M_ok n_M hown hK hP hD hS 0 rfl rfl 0 (by decide) (hts _ k_477) (fun _ h9 => h9) rfl (by decide +kernel) rfl rfl (Nat.le_of_ble_eq_true rfl) d_M_persons_48 (fun H locs hP hD hS => ?_)
    have hP : va_P (dC, dI) vwCl [(q 0, .inr (6, (mF q (nI 1) F nt ab be))), (q 1, .inl (cI, 13, .inl (fun j => nI (pp j))))] H := hP
    have hD : va_D A [(q 0, .inr (6, (mF q (nI 1) F nt ab be))), (q 1, .inl (cI, 13, .inl (fun j => nI (pp j))))] := hD
    refine lv_aload_n hx hb d_M_persons_51 rfl (lv_at hl 0 rfl) ?_
    refine va_get (D := (dC, dI)) (ci := 6) (v := .int (nI 1)) (C := R_M) (T := F_M) (N := 17) hx hb hts i_M hown hK hP 0 rfl rfl 0 (by decide) (hts _ k_477) (fun _ h9 => h9) rfl d_M_persons_52 ?_
    refine nx_if_le (tgt := 60) hx hb d_M_persons_55 (by decide) (by omega) (fun h9 => ?_) (fun h9 => ?_)
    · exact absurd h9 (by omega)
    · refine lv_iconst (v := nI 0) hx hb d_M_persons_58 (by decide) ?_
      exact W.iret hx hb hr (fun t ht hW => ⟨⟨_, (), rfl, rfl, by rw [ht]; exact hP, hD⟩, hS.F ht⟩) hS.2.2 d_M_persons_59
  · refine lv_iload_n hx hb d_M_persons_9 rfl (lv_at hl 2 rfl) ?_
    refine lv_iconst (v := nI 0) hx hb d_M_persons_10 (by decide) ?_
    refine lv_sipush (v := nI 200) hx hb d_M_persons_11 (by decide) ?_
    refine ro_calli (va_runS (As := [.int p1, .int (nI 0), .int (nI 200)]) (rest := [.ref (q 0)]) ⟨hx, hb, hml, hown, hts⟩ (c_M_isIn l p1 (nI 0) (nI 200) 0 200 (nI_toInt (by decide)) (nI_toInt (by decide))) (cwS 3 hts (gw_S k_539 k_537 k_538 k_6) rfl rfl rfl (by decide +kernel) ⟨Nat.le_trans (Nat.le_of_ble_eq_true rfl) hfr, Nat.le_trans (Nat.le_of_ble_eq_true rfl) hlo⟩) ⟨pr_blind, pr_at hC (fun k q h => by simp at h)⟩ rfl rfl hl.1 rfl (lv_room (Nat.le_of_ble_eq_true rfl)) d_M_persons_14 ⟨hce, hsl⟩) (fun r9 h9 => ?_)
    subst h9
    refine nx_b_ne (tgt := 24) hx hb d_M_persons_17 (by decide) (fun h2 => ?_) (fun h2 => ?_)
    · exact absurd ⟨Classical.not_not.mp h1, h2⟩ hbad
    · refine lv_iconst (v := nI 1) hx hb d_M_persons_20 (by decide) ?_
      refine lv_goto (tgt := 48) hx hb d_M_persons_21 (by decide) ?_
      refine va_put (D := (dC, dI)) (ci := 6) (v := .int (nI 1)) (ty := (.int)) (C := R_M) (T := F_M) (N := 17) hx hb hts i_M ft_M ft_M_ok n_M hown hK hP hD hS 0 rfl rfl 0 (by decide) (hts _ k_477) (fun _ h9 => h9) rfl (by decide +kernel) rfl rfl (Nat.le_of_ble_eq_true rfl) d_M_persons_48 (fun H locs hP hD hS => ?_)
      have hP : va_P (dC, dI) vwCl [(q 0, .inr (6, (mF q (nI 1) F nt ab be))), (q 1, .inl (cI, 13, .inl (fun j => nI (pp j))))] H := hP
      have hD : va_D A [(q 0, .inr (6, (mF q (nI 1) F nt ab be))), (q 1, .inl (cI, 13, .inl (fun j => nI (pp j))))] := hD
      refine lv_aload_n hx hb d_M_persons_51 rfl (lv_at hl 0 rfl) ?_
      refine va_get (D := (dC, dI)) (ci := 6) (v := .int (nI 1)) (C := R_M) (T := F_M) (N := 17) hx hb hts i_M hown hK hP 0 rfl rfl 0 (by decide) (hts _ k_477) (fun _ h9 => h9) rfl d_M_persons_52 ?_
      refine nx_if_le (tgt := 60) hx hb d_M_persons_55 (by decide) (by omega) (fun h9 => ?_) (fun h9 => ?_)
      · exact absurd h9 (by omega)
      · refine lv_iconst (v := nI 0) hx hb d_M_persons_58 (by decide) ?_
        exact W.iret hx hb hr (fun t ht hW => ⟨⟨_, (), rfl, rfl, by rw [ht]; exact hP, hD⟩, hS.F ht⟩) hS.2.2 d_M_persons_59
set_option maxHeartbeats 4000000 in
set_option maxRecDepth 100000 in
theorem c_M_persons_b2 (l : Launch) {dC : Nat → ClassId} {dI : Nat → Nat → Nat} {cI cL cT : ClassId} {sa : Nat → Nat} (sz : Nat) (q : Nat → Nat) (th : Int32) (F nt : Nat) (ab be : Int64) (pp : Nat → Nat) (fl a : Nat) (ha : a ≤ 200) (hf1 : 1 ≤ fl) (hf2 : fl ≤ F) (hF12 : F ≤ 12) (hE : sm pp 1 F ≤ 200) (hpl : pp fl ≤ sm pp 1 F) (hbad : 200 < sm pp 1 F - pp fl + a) : Met l y_M_persons (Cond.code y_M_persons b_M_persons 4 (some .int) :: gw) ({ frames := 2, cells := 0, slots := 0, locals := 43 } : Room) (wr dC dI cI cL cT sa [.ref (q 0), .int (nI fl), .int (nI a)] [(q 0, .inr (6, (mF q th F nt ab be))), (q 1, .inl (cI, 13, .inl (fun j => nI (pp j))))] sz) (va_Qi (fun r (_ : Unit) => r = nI 0) (wB dC dI [(q 0, .inr (6, (mF q th F nt ab be))), (q 1, .inl (cI, 13, .inl (fun j => nI (pp j))))] [(q 0, .inr (6, (mF q (nI 2) F nt ab be))), (q 1, .inl (cI, 13, .inl (fun j => nI (pp j))))] sz) (va_A [(q 0, .inr (6, (mF q th F nt ab be))), (q 1, .inl (cI, 13, .inl (fun j => nI (pp j))))] sz)) 0 0 (va_A [(q 0, .inr (6, (mF q th F nt ab be))), (q 1, .inl (cI, 13, .inl (fun j => nI (pp j))))] sz) := by
  refine Met.ofW (cc := b_M_persons) (maxL := 4) (ret := (some .int)) (by decide) rfl ?_
  intro p e s m args below meth c s₁ B hml hv
  obtain ⟨rfl, hsz, hC, hP, hD0⟩ := hv
  have hx := B.exec
  have hb := B.bytes
  have hr := B.returns
  have hts : ∀ w ∈ gw, w.before ([.ref (q 0), .int (nI fl), .int (nI a)] : List Value).toArray s = true := fun w hw => atoms_spec (ws := Cond.code y_M_persons b_M_persons 4 (some .int) :: gw) B.pre w (List.mem_cons_of_mem _ hw)
  have hown : s.vm.findClass R_M = some m.cls := findClass_of_methodNamed B.named
  have hlocks := B.notSynchronized
  have hK := hC.1
  have hfr : 2 ≤ (headSpec (Cond.code y_M_persons b_M_persons 4 (some .int) :: gw) ({ frames := 2, cells := 0, slots := 0, locals := 43 } : Room)).room.frames := Nat.le_refl _
  have hlo : 43 ≤ (headSpec (Cond.code y_M_persons b_M_persons 4 (some .int) :: gw) ({ frames := 2, cells := 0, slots := 0, locals := 43 } : Room)).room.locals := Nat.le_refl _
  have hce : 0 ≤ (headSpec (Cond.code y_M_persons b_M_persons 4 (some .int) :: gw) ({ frames := 2, cells := 0, slots := 0, locals := 43 } : Room)).room.cells := Nat.zero_le _
  have hsl : 0 ≤ (headSpec (Cond.code y_M_persons b_M_persons 4 (some .int) :: gw) ({ frames := 2, cells := 0, slots := 0, locals := 43 } : Room)).room.slots := Nat.zero_le _
  subst hsz
  have hD := hD0.self (sz := s.heap.size)
  unfold wB
  generalize hAe : va_A [(q 0, .inr (6, (mF q th F nt ab be))), (q 1, .inl (cI, 13, .inl (fun j => nI (pp j))))] s.heap.size = A at hD ⊢
  have hA : ∀ q : Nat, s.heap.size ≤ q → A q := fun q h => by rw [← hAe]; exact Or.inr h
  have hS : va_S A s.heap s.heap [] := va_S.rf
  have hl := lv_entry ([.ref (q 0), .int (nI fl), .int (nI a)]) (n := 4) (Nat.le_of_ble_eq_true rfl)
  rw [lg_entry_eq]
  generalize (lg_sl ([.ref (q 0), .int (nI fl), .int (nI a)]) ++ List.replicate (4 - (lg_sl ([.ref (q 0), .int (nI fl), .int (nI a)])).length) Slot.unset).toArray = ls at hl ⊢
  have hl : lv_has ls 4 [(0, .ref (q 0)), (1, .int (nI fl)), (2, .int (nI a))] := hl
  have hok : okFl F (nI fl) := okFl_N hf1 hf2 hF12
  refine lv_aload_n hx hb d_M_persons_0 rfl (lv_at hl 0 rfl) ?_
  refine lv_aload_n hx hb d_M_persons_1 rfl (lv_at hl 0 rfl) ?_
  refine lv_iload_n hx hb d_M_persons_2 rfl (lv_at hl 1 rfl) ?_
  refine ro_calli (va_runV (As := [.int (nI fl)]) (rest := [.ref (q 0)]) ⟨hx, hb, hml, hown, hts⟩ (c_M_noFloor l q th F nt ab be (nI fl) hF12) (cwV 1 hts (gw_V k_551 k_548 k_550 ks_M_noFloor k_6) rfl rfl rfl (by decide +kernel) ⟨Nat.le_trans (Nat.le_of_ble_eq_true rfl) hfr, Nat.le_trans (Nat.le_of_ble_eq_true rfl) hlo⟩) ⟨pr_blind, va_recv hK hP (ci := 6) (q0 := 0) rfl rfl, pr_at hC (hP.sub (ws' := [(q 0, .inr (6, (mF q th F nt ab be)))]) [0] rfl)⟩ rfl rfl hl.1 rfl (lv_room (Nat.le_of_ble_eq_true rfl)) d_M_persons_3 ⟨hce, hsl⟩) (fun r9 h9 => ?_)
  subst h9
  refine nx_b_ne (tgt := 20) hx hb d_M_persons_6 (by decide) (fun h1 => ?_) (fun h1 => ?_)
  · exact absurd hok h1
  · refine lv_iload_n hx hb d_M_persons_9 rfl (lv_at hl 2 rfl) ?_
    refine lv_iconst (v := nI 0) hx hb d_M_persons_10 (by decide) ?_
    refine lv_sipush (v := nI 200) hx hb d_M_persons_11 (by decide) ?_
    refine ro_calli (va_runS (As := [.int (nI a), .int (nI 0), .int (nI 200)]) (rest := [.ref (q 0)]) ⟨hx, hb, hml, hown, hts⟩ (c_M_isInN l a 0 200 (by omega) (by decide) (by decide)) (cwS 3 hts (gw_S k_539 k_537 k_538 k_6) rfl rfl rfl (by decide +kernel) ⟨Nat.le_trans (Nat.le_of_ble_eq_true rfl) hfr, Nat.le_trans (Nat.le_of_ble_eq_true rfl) hlo⟩) ⟨pr_blind, pr_at hC (fun k q h => by simp at h)⟩ rfl rfl hl.1 rfl (lv_room (Nat.le_of_ble_eq_true rfl)) d_M_persons_14 ⟨hce, hsl⟩) (fun r9 h9 => ?_)
    subst h9
    refine nx_b_ne (tgt := 24) hx hb d_M_persons_17 (by decide) (fun h2 => ?_) (fun h2 => ?_)
    · refine lv_aload_n hx hb d_M_persons_24 rfl (lv_at hl 0 rfl) ?_
      refine ro_calli (va_runV (As := []) (rest := [.ref (q 0)]) ⟨hx, hb, hml, hown, hts⟩ (c_M_allPersons l q th F nt ab be pp hF12) (cwV 0 hts (gw_V k_543 k_540 k_542 ks_M_allPersons k_6) rfl rfl rfl (by decide +kernel) ⟨Nat.le_trans (Nat.le_of_ble_eq_true rfl) hfr, Nat.le_trans (Nat.le_of_ble_eq_true rfl) hlo⟩) ⟨pr_blind, va_recv hK hP (ci := 6) (q0 := 0) rfl rfl, pr_at hC (hP.sub (ws' := [(q 0, .inr (6, (mF q th F nt ab be))), (q 1, .inl (cI, 13, .inl (fun j => nI (pp j))))]) [0, 1] rfl)⟩ rfl rfl hl.1 rfl (lv_room (Nat.le_of_ble_eq_true rfl)) d_M_persons_25 ⟨hce, hsl⟩) (fun r9 h9 => ?_)
      subst h9
      refine lv_aload_n hx hb d_M_persons_28 rfl (lv_at hl 0 rfl) ?_
      refine va_get (D := (dC, dI)) (ci := 6) (v := .ref (q 1)) (C := R_M) (T := F_M) (N := 17) hx hb hts i_M hown hK hP 0 rfl rfl 1 (by decide) (hts _ k_478) (fun _ h9 => h9) rfl d_M_persons_29 ?_
      refine lv_iload_n hx hb d_M_persons_32 rfl (lv_at hl 1 rfl) ?_
      refine nx_iald hx hb hK hP 1 0 rfl rfl (k := fl) (v := nI (pp fl)) (by omega) (by decide) rfl d_M_persons_33 ?_
      refine nx_isub hx hb d_M_persons_34 (by omega) ?_
      refine lv_iload_n hx hb d_M_persons_35 rfl (lv_at hl 2 rfl) ?_
      refine nx_iadd hx hb d_M_persons_36 ?_
      refine lv_sipush (v := nI 200) hx hb d_M_persons_37 (by decide) ?_
      refine nx_icmp_le (tgt := 47) hx hb d_M_persons_40 (by decide) (by omega) (by omega) (fun h4 => ?_) (fun h4 => ?_)
      · exact absurd hbad (by omega)
      · refine lv_iconst (v := nI 2) hx hb d_M_persons_43 (by decide) ?_
        refine lv_goto (tgt := 48) hx hb d_M_persons_44 (by decide) ?_
        refine va_put (D := (dC, dI)) (ci := 6) (v := .int (nI 2)) (ty := (.int)) (C := R_M) (T := F_M) (N := 17) hx hb hts i_M ft_M ft_M_ok n_M hown hK hP hD hS 0 rfl rfl 0 (by decide) (hts _ k_477) (fun _ h9 => h9) rfl (by decide +kernel) rfl rfl (Nat.le_of_ble_eq_true rfl) d_M_persons_48 (fun H locs hP hD hS => ?_)
        have hP : va_P (dC, dI) vwCl [(q 0, .inr (6, (mF q (nI 2) F nt ab be))), (q 1, .inl (cI, 13, .inl (fun j => nI (pp j))))] H := hP
        have hD : va_D A [(q 0, .inr (6, (mF q (nI 2) F nt ab be))), (q 1, .inl (cI, 13, .inl (fun j => nI (pp j))))] := hD
        refine lv_aload_n hx hb d_M_persons_51 rfl (lv_at hl 0 rfl) ?_
        refine va_get (D := (dC, dI)) (ci := 6) (v := .int (nI 2)) (C := R_M) (T := F_M) (N := 17) hx hb hts i_M hown hK hP 0 rfl rfl 0 (by decide) (hts _ k_477) (fun _ h9 => h9) rfl d_M_persons_52 ?_
        refine nx_if_le (tgt := 60) hx hb d_M_persons_55 (by decide) (by omega) (fun h9 => ?_) (fun h9 => ?_)
        · exact absurd h9 (by omega)
        · refine lv_iconst (v := nI 0) hx hb d_M_persons_58 (by decide) ?_
          exact W.iret hx hb hr (fun t ht hW => ⟨⟨_, (), rfl, rfl, by rw [ht]; exact hP, hD⟩, hS.F ht⟩) hS.2.2 d_M_persons_59
    · exact absurd (show 0 ≤ a ∧ a ≤ 200 by omega) h2
set_option maxHeartbeats 4000000 in
set_option maxRecDepth 100000 in
theorem c_M_persons (l : Launch) {dC : Nat → ClassId} {dI : Nat → Nat → Nat} {cI cL cT : ClassId} {sa : Nat → Nat} (sz : Nat) (q : Nat → Nat) (th : Int32) (F nt : Nat) (ab be : Int64) (pp : Nat → Nat) (fl a : Nat) (ha : a ≤ 200) (hf1 : 1 ≤ fl) (hf2 : fl ≤ F) (hF12 : F ≤ 12) (hE : sm pp 1 F ≤ 200) (hpl : pp fl ≤ sm pp 1 F) (hgood : sm pp 1 F - pp fl + a ≤ 200) : Met l y_M_persons (Cond.code y_M_persons b_M_persons 4 (some .int) :: gw) ({ frames := 2, cells := 0, slots := 0, locals := 43 } : Room) (wr dC dI cI cL cT sa [.ref (q 0), .int (nI fl), .int (nI a)] [(q 0, .inr (6, (mF q th F nt ab be))), (q 1, .inl (cI, 13, .inl (fun j => nI (pp j))))] sz) (va_Qi (fun r (_ : Unit) => r = nI (pp fl)) (wB dC dI [(q 0, .inr (6, (mF q th F nt ab be))), (q 1, .inl (cI, 13, .inl (fun j => nI (pp j))))] [(q 0, .inr (6, (mF q (nI 0) F nt ab be))), (q 1, .inl (cI, 13, .inl (fun j => nI ((up pp fl a) j))))] sz) (va_A [(q 0, .inr (6, (mF q th F nt ab be))), (q 1, .inl (cI, 13, .inl (fun j => nI (pp j))))] sz)) 0 0 (va_A [(q 0, .inr (6, (mF q th F nt ab be))), (q 1, .inl (cI, 13, .inl (fun j => nI (pp j))))] sz) := by
  refine Met.ofW (cc := b_M_persons) (maxL := 4) (ret := (some .int)) (by decide) rfl ?_
  intro p e s m args below meth c s₁ B hml hv
  obtain ⟨rfl, hsz, hC, hP, hD0⟩ := hv
  have hx := B.exec
  have hb := B.bytes
  have hr := B.returns
  have hts : ∀ w ∈ gw, w.before ([.ref (q 0), .int (nI fl), .int (nI a)] : List Value).toArray s = true := fun w hw => atoms_spec (ws := Cond.code y_M_persons b_M_persons 4 (some .int) :: gw) B.pre w (List.mem_cons_of_mem _ hw)
  have hown : s.vm.findClass R_M = some m.cls := findClass_of_methodNamed B.named
  have hlocks := B.notSynchronized
  have hK := hC.1
  have hfr : 2 ≤ (headSpec (Cond.code y_M_persons b_M_persons 4 (some .int) :: gw) ({ frames := 2, cells := 0, slots := 0, locals := 43 } : Room)).room.frames := Nat.le_refl _
  have hlo : 43 ≤ (headSpec (Cond.code y_M_persons b_M_persons 4 (some .int) :: gw) ({ frames := 2, cells := 0, slots := 0, locals := 43 } : Room)).room.locals := Nat.le_refl _
  have hce : 0 ≤ (headSpec (Cond.code y_M_persons b_M_persons 4 (some .int) :: gw) ({ frames := 2, cells := 0, slots := 0, locals := 43 } : Room)).room.cells := Nat.zero_le _
  have hsl : 0 ≤ (headSpec (Cond.code y_M_persons b_M_persons 4 (some .int) :: gw) ({ frames := 2, cells := 0, slots := 0, locals := 43 } : Room)).room.slots := Nat.zero_le _
  subst hsz
  have hD := hD0.self (sz := s.heap.size)
  unfold wB
  generalize hAe : va_A [(q 0, .inr (6, (mF q th F nt ab be))), (q 1, .inl (cI, 13, .inl (fun j => nI (pp j))))] s.heap.size = A at hD ⊢
  have hA : ∀ q : Nat, s.heap.size ≤ q → A q := fun q h => by rw [← hAe]; exact Or.inr h
  have hS : va_S A s.heap s.heap [] := va_S.rf
  have hl := lv_entry ([.ref (q 0), .int (nI fl), .int (nI a)]) (n := 4) (Nat.le_of_ble_eq_true rfl)
  rw [lg_entry_eq]
  generalize (lg_sl ([.ref (q 0), .int (nI fl), .int (nI a)]) ++ List.replicate (4 - (lg_sl ([.ref (q 0), .int (nI fl), .int (nI a)])).length) Slot.unset).toArray = ls at hl ⊢
  have hl : lv_has ls 4 [(0, .ref (q 0)), (1, .int (nI fl)), (2, .int (nI a))] := hl
  have hok : okFl F (nI fl) := okFl_N hf1 hf2 hF12
  refine lv_aload_n hx hb d_M_persons_0 rfl (lv_at hl 0 rfl) ?_
  refine lv_aload_n hx hb d_M_persons_1 rfl (lv_at hl 0 rfl) ?_
  refine lv_iload_n hx hb d_M_persons_2 rfl (lv_at hl 1 rfl) ?_
  refine ro_calli (va_runV (As := [.int (nI fl)]) (rest := [.ref (q 0)]) ⟨hx, hb, hml, hown, hts⟩ (c_M_noFloor l q th F nt ab be (nI fl) hF12) (cwV 1 hts (gw_V k_551 k_548 k_550 ks_M_noFloor k_6) rfl rfl rfl (by decide +kernel) ⟨Nat.le_trans (Nat.le_of_ble_eq_true rfl) hfr, Nat.le_trans (Nat.le_of_ble_eq_true rfl) hlo⟩) ⟨pr_blind, va_recv hK hP (ci := 6) (q0 := 0) rfl rfl, pr_at hC (hP.sub (ws' := [(q 0, .inr (6, (mF q th F nt ab be)))]) [0] rfl)⟩ rfl rfl hl.1 rfl (lv_room (Nat.le_of_ble_eq_true rfl)) d_M_persons_3 ⟨hce, hsl⟩) (fun r9 h9 => ?_)
  subst h9
  refine nx_b_ne (tgt := 20) hx hb d_M_persons_6 (by decide) (fun h1 => ?_) (fun h1 => ?_)
  · exact absurd hok h1
  · refine lv_iload_n hx hb d_M_persons_9 rfl (lv_at hl 2 rfl) ?_
    refine lv_iconst (v := nI 0) hx hb d_M_persons_10 (by decide) ?_
    refine lv_sipush (v := nI 200) hx hb d_M_persons_11 (by decide) ?_
    refine ro_calli (va_runS (As := [.int (nI a), .int (nI 0), .int (nI 200)]) (rest := [.ref (q 0)]) ⟨hx, hb, hml, hown, hts⟩ (c_M_isInN l a 0 200 (by omega) (by decide) (by decide)) (cwS 3 hts (gw_S k_539 k_537 k_538 k_6) rfl rfl rfl (by decide +kernel) ⟨Nat.le_trans (Nat.le_of_ble_eq_true rfl) hfr, Nat.le_trans (Nat.le_of_ble_eq_true rfl) hlo⟩) ⟨pr_blind, pr_at hC (fun k q h => by simp at h)⟩ rfl rfl hl.1 rfl (lv_room (Nat.le_of_ble_eq_true rfl)) d_M_persons_14 ⟨hce, hsl⟩) (fun r9 h9 => ?_)
    subst h9
    refine nx_b_ne (tgt := 24) hx hb d_M_persons_17 (by decide) (fun h2 => ?_) (fun h2 => ?_)
    · refine lv_aload_n hx hb d_M_persons_24 rfl (lv_at hl 0 rfl) ?_
      refine ro_calli (va_runV (As := []) (rest := [.ref (q 0)]) ⟨hx, hb, hml, hown, hts⟩ (c_M_allPersons l q th F nt ab be pp hF12) (cwV 0 hts (gw_V k_543 k_540 k_542 ks_M_allPersons k_6) rfl rfl rfl (by decide +kernel) ⟨Nat.le_trans (Nat.le_of_ble_eq_true rfl) hfr, Nat.le_trans (Nat.le_of_ble_eq_true rfl) hlo⟩) ⟨pr_blind, va_recv hK hP (ci := 6) (q0 := 0) rfl rfl, pr_at hC (hP.sub (ws' := [(q 0, .inr (6, (mF q th F nt ab be))), (q 1, .inl (cI, 13, .inl (fun j => nI (pp j))))]) [0, 1] rfl)⟩ rfl rfl hl.1 rfl (lv_room (Nat.le_of_ble_eq_true rfl)) d_M_persons_25 ⟨hce, hsl⟩) (fun r9 h9 => ?_)
      subst h9
      refine lv_aload_n hx hb d_M_persons_28 rfl (lv_at hl 0 rfl) ?_
      refine va_get (D := (dC, dI)) (ci := 6) (v := .ref (q 1)) (C := R_M) (T := F_M) (N := 17) hx hb hts i_M hown hK hP 0 rfl rfl 1 (by decide) (hts _ k_478) (fun _ h9 => h9) rfl d_M_persons_29 ?_
      refine lv_iload_n hx hb d_M_persons_32 rfl (lv_at hl 1 rfl) ?_
      refine nx_iald hx hb hK hP 1 0 rfl rfl (k := fl) (v := nI (pp fl)) (by omega) (by decide) rfl d_M_persons_33 ?_
      refine nx_isub hx hb d_M_persons_34 (by omega) ?_
      refine lv_iload_n hx hb d_M_persons_35 rfl (lv_at hl 2 rfl) ?_
      refine nx_iadd hx hb d_M_persons_36 ?_
      refine lv_sipush (v := nI 200) hx hb d_M_persons_37 (by decide) ?_
      refine nx_icmp_le (tgt := 47) hx hb d_M_persons_40 (by decide) (by omega) (by omega) (fun h4 => ?_) (fun h4 => ?_)
      · refine lv_iconst (v := nI 0) hx hb d_M_persons_47 (by decide) ?_
        refine va_put (D := (dC, dI)) (ci := 6) (v := .int (nI 0)) (ty := (.int)) (C := R_M) (T := F_M) (N := 17) hx hb hts i_M ft_M ft_M_ok n_M hown hK hP hD hS 0 rfl rfl 0 (by decide) (hts _ k_477) (fun _ h9 => h9) rfl (by decide +kernel) rfl rfl (Nat.le_of_ble_eq_true rfl) d_M_persons_48 (fun H locs hP hD hS => ?_)
        have hP : va_P (dC, dI) vwCl [(q 0, .inr (6, (mF q (nI 0) F nt ab be))), (q 1, .inl (cI, 13, .inl (fun j => nI (pp j))))] H := hP
        have hD : va_D A [(q 0, .inr (6, (mF q (nI 0) F nt ab be))), (q 1, .inl (cI, 13, .inl (fun j => nI (pp j))))] := hD
        refine lv_aload_n hx hb d_M_persons_51 rfl (lv_at hl 0 rfl) ?_
        refine va_get (D := (dC, dI)) (ci := 6) (v := .int (nI 0)) (C := R_M) (T := F_M) (N := 17) hx hb hts i_M hown hK hP 0 rfl rfl 0 (by decide) (hts _ k_477) (fun _ h9 => h9) rfl d_M_persons_52 ?_
        refine nx_if_le (tgt := 60) hx hb d_M_persons_55 (by decide) (by omega) (fun h9 => ?_) (fun h9 => ?_)
        · refine lv_aload_n hx hb d_M_persons_60 rfl (lv_at hl 0 rfl) ?_
          refine va_get (D := (dC, dI)) (ci := 6) (v := .ref (q 1)) (C := R_M) (T := F_M) (N := 17) hx hb hts i_M hown hK hP 0 rfl rfl 1 (by decide) (hts _ k_478) (fun _ h9 => h9) rfl d_M_persons_61 ?_
          refine lv_iload_n hx hb d_M_persons_64 rfl (lv_at hl 1 rfl) ?_
          refine nx_iald hx hb hK hP 1 0 rfl rfl (k := fl) (v := nI (pp fl)) (by omega) (by decide) rfl d_M_persons_65 ?_
          refine lv_istore_n (lv' := [(3, .int (nI (pp fl))), (0, .ref (q 0)), (1, .int (nI fl)), (2, .int (nI a))]) hx hb d_M_persons_66 rfl hl (by decide) rfl (fun ls hl => ?_)
          refine lv_aload_n hx hb d_M_persons_67 rfl (lv_at hl 1 rfl) ?_
          refine va_get (D := (dC, dI)) (ci := 6) (v := .ref (q 1)) (C := R_M) (T := F_M) (N := 17) hx hb hts i_M hown hK hP 0 rfl rfl 1 (by decide) (hts _ k_478) (fun _ h9 => h9) rfl d_M_persons_68 ?_
          refine lv_iload_n hx hb d_M_persons_71 rfl (lv_at hl 2 rfl) ?_
          refine lv_iload_n hx hb d_M_persons_72 rfl (lv_at hl 3 rfl) ?_
          refine nx_iast hx hb hK hP hD hS 1 0 rfl rfl (k := fl) (x := nI a) (by omega) (by decide) d_M_persons_73 (fun H locs hP hD hS => ?_)
          have hP : va_P (dC, dI) vwCl [(q 0, .inr (6, (mF q (nI 0) F nt ab be))), (q 1, .inl (cI, 13, .inl (upd (fun j => nI (pp j)) (fl) (nI a))))] H := hP
          have hD : va_D A [(q 0, .inr (6, (mF q (nI 0) F nt ab be))), (q 1, .inl (cI, 13, .inl (upd (fun j => nI (pp j)) (fl) (nI a))))] := hD
          rw [up_eq] at hP hD
          refine lv_iload_n hx hb d_M_persons_74 rfl (lv_at hl 0 rfl) ?_
          exact W.iret hx hb hr (fun t ht hW => ⟨⟨_, (), rfl, rfl, by rw [ht]; exact hP, hD⟩, hS.F ht⟩) hS.2.2 d_M_persons_75
        · exact absurd h9 (by omega)
      · exact absurd h4 (by omega)
    · exact absurd (show 0 ≤ a ∧ a ≤ 200 by omega) h2
set_option maxHeartbeats 4000000 in
set_option maxRecDepth 100000 in
theorem c_M_type_b1 (l : Launch) {dC : Nat → ClassId} {dI : Nat → Nat → Nat} {cI cL cT : ClassId} {sa : Nat → Nat} (sz : Nat) (q : Nat → Nat) (th : Int32) (F nt : Nat) (ab be : Int64) (rm sd dr pe ce : Nat → Nat) (p0 p1 p2 p3 p4 : Int32) (hbad : ¬ ((1 ≤ p0.toInt ∧ p0.toInt ≤ 5) ∧ (1 ≤ p1.toInt ∧ p1.toInt ≤ 100) ∧ (0 ≤ p2.toInt ∧ p2.toInt ≤ 30) ∧ (0 ≤ p3.toInt ∧ p3.toInt ≤ 10) ∧ (1 ≤ p4.toInt ∧ p4.toInt ≤ 100000))) : Met l y_M_type (Cond.code y_M_type b_M_type 7 (some .int) :: gw) ({ frames := 1, cells := 0, slots := 0, locals := 22 } : Room) (wr dC dI cI cL cT sa [.ref (q 0), .int p0, .int p1, .int p2, .int p3, .int p4] [(q 0, .inr (6, (mF q th F nt ab be))), (q 4, .inl (cI, 6, .inl (fun j => nI (rm j)))), (q 5, .inl (cI, 6, .inl (fun j => nI (sd j)))), (q 6, .inl (cI, 6, .inl (fun j => nI (dr j)))), (q 7, .inl (cI, 6, .inl (fun j => nI (pe j)))), (q 8, .inl (cI, 6, .inl (fun j => nI (ce j))))] sz) (va_Qi (fun r (_ : Unit) => r = nI 0) (wB dC dI [(q 0, .inr (6, (mF q th F nt ab be))), (q 4, .inl (cI, 6, .inl (fun j => nI (rm j)))), (q 5, .inl (cI, 6, .inl (fun j => nI (sd j)))), (q 6, .inl (cI, 6, .inl (fun j => nI (dr j)))), (q 7, .inl (cI, 6, .inl (fun j => nI (pe j)))), (q 8, .inl (cI, 6, .inl (fun j => nI (ce j))))] [(q 0, .inr (6, (mF q (nI 1) F nt ab be))), (q 4, .inl (cI, 6, .inl (fun j => nI (rm j)))), (q 5, .inl (cI, 6, .inl (fun j => nI (sd j)))), (q 6, .inl (cI, 6, .inl (fun j => nI (dr j)))), (q 7, .inl (cI, 6, .inl (fun j => nI (pe j)))), (q 8, .inl (cI, 6, .inl (fun j => nI (ce j))))] sz) (va_A [(q 0, .inr (6, (mF q th F nt ab be))), (q 4, .inl (cI, 6, .inl (fun j => nI (rm j)))), (q 5, .inl (cI, 6, .inl (fun j => nI (sd j)))), (q 6, .inl (cI, 6, .inl (fun j => nI (dr j)))), (q 7, .inl (cI, 6, .inl (fun j => nI (pe j)))), (q 8, .inl (cI, 6, .inl (fun j => nI (ce j))))] sz)) 0 0 (va_A [(q 0, .inr (6, (mF q th F nt ab be))), (q 4, .inl (cI, 6, .inl (fun j => nI (rm j)))), (q 5, .inl (cI, 6, .inl (fun j => nI (sd j)))), (q 6, .inl (cI, 6, .inl (fun j => nI (dr j)))), (q 7, .inl (cI, 6, .inl (fun j => nI (pe j)))), (q 8, .inl (cI, 6, .inl (fun j => nI (ce j))))] sz) := by
  refine Met.ofW (cc := b_M_type) (maxL := 7) (ret := (some .int)) (by decide) rfl ?_
  intro p e s m args below meth c s₁ B hml hv
  obtain ⟨rfl, hsz, hC, hP, hD0⟩ := hv
  have hx := B.exec
  have hb := B.bytes
  have hr := B.returns
  have hts : ∀ w ∈ gw, w.before ([.ref (q 0), .int p0, .int p1, .int p2, .int p3, .int p4] : List Value).toArray s = true := fun w hw => atoms_spec (ws := Cond.code y_M_type b_M_type 7 (some .int) :: gw) B.pre w (List.mem_cons_of_mem _ hw)
  have hown : s.vm.findClass R_M = some m.cls := findClass_of_methodNamed B.named
  have hlocks := B.notSynchronized
  have hK := hC.1
  have hfr : 1 ≤ (headSpec (Cond.code y_M_type b_M_type 7 (some .int) :: gw) ({ frames := 1, cells := 0, slots := 0, locals := 22 } : Room)).room.frames := Nat.le_refl _
  have hlo : 22 ≤ (headSpec (Cond.code y_M_type b_M_type 7 (some .int) :: gw) ({ frames := 1, cells := 0, slots := 0, locals := 22 } : Room)).room.locals := Nat.le_refl _
  have hce : 0 ≤ (headSpec (Cond.code y_M_type b_M_type 7 (some .int) :: gw) ({ frames := 1, cells := 0, slots := 0, locals := 22 } : Room)).room.cells := Nat.zero_le _
  have hsl : 0 ≤ (headSpec (Cond.code y_M_type b_M_type 7 (some .int) :: gw) ({ frames := 1, cells := 0, slots := 0, locals := 22 } : Room)).room.slots := Nat.zero_le _
  subst hsz
  have hD := hD0.self (sz := s.heap.size)
  unfold wB
  generalize hAe : va_A [(q 0, .inr (6, (mF q th F nt ab be))), (q 4, .inl (cI, 6, .inl (fun j => nI (rm j)))), (q 5, .inl (cI, 6, .inl (fun j => nI (sd j)))), (q 6, .inl (cI, 6, .inl (fun j => nI (dr j)))), (q 7, .inl (cI, 6, .inl (fun j => nI (pe j)))), (q 8, .inl (cI, 6, .inl (fun j => nI (ce j))))] s.heap.size = A at hD ⊢
  have hA : ∀ q : Nat, s.heap.size ≤ q → A q := fun q h => by rw [← hAe]; exact Or.inr h
  have hS : va_S A s.heap s.heap [] := va_S.rf
  have hl := lv_entry ([.ref (q 0), .int p0, .int p1, .int p2, .int p3, .int p4]) (n := 7) (Nat.le_of_ble_eq_true rfl)
  rw [lg_entry_eq]
  generalize (lg_sl ([.ref (q 0), .int p0, .int p1, .int p2, .int p3, .int p4]) ++ List.replicate (7 - (lg_sl ([.ref (q 0), .int p0, .int p1, .int p2, .int p3, .int p4])).length) Slot.unset).toArray = ls at hl ⊢
  have hl : lv_has ls 7 [(0, .ref (q 0)), (1, .int p0), (2, .int p1), (3, .int p2), (4, .int p3), (5, .int p4)] := hl
  refine lv_iload_n hx hb d_M_type_0 rfl (lv_at hl 1 rfl) ?_
  refine lv_iconst (v := nI 1) hx hb d_M_type_1 (by decide) ?_
  refine lv_iconst (v := nI 5) hx hb d_M_type_2 (by decide) ?_
  refine ro_calli (va_runS (As := [.int p0, .int (nI 1), .int (nI 5)]) (rest := []) ⟨hx, hb, hml, hown, hts⟩ (c_M_isIn l p0 (nI 1) (nI 5) 1 5 (nI_toInt (by decide)) (nI_toInt (by decide))) (cwS 3 hts (gw_S k_539 k_537 k_538 k_6) rfl rfl rfl (by decide +kernel) ⟨Nat.le_trans (Nat.le_of_ble_eq_true rfl) hfr, Nat.le_trans (Nat.le_of_ble_eq_true rfl) hlo⟩) ⟨pr_blind, pr_at hC (fun k q h => by simp at h)⟩ rfl rfl hl.1 rfl (lv_room (Nat.le_of_ble_eq_true rfl)) d_M_type_3 ⟨hce, hsl⟩) (fun r9 h9 => ?_)
  subst h9
  refine nx_b_eq (tgt := 55) hx hb d_M_type_6 (by decide) (fun h0 => ?_) (fun h0 => ?_)
  · refine lv_iconst (v := nI 0) hx hb d_M_type_55 (by decide) ?_
    refine lv_istore (lv' := [(6, .int (nI 0)), (0, .ref (q 0)), (1, .int p0), (2, .int p1), (3, .int p2), (4, .int p3), (5, .int p4)]) hx hb d_M_type_56 hl (by decide) rfl (fun ls hl => ?_)
    refine lv_aload_n hx hb d_M_type_58 rfl (lv_at hl 1 rfl) ?_
    refine lv_iload hx hb d_M_type_59 (lv_at hl 0 rfl) ?_
    refine nx_if_ne (tgt := 68) hx hb d_M_type_61 (by decide) (by omega) (fun h8 => ?_) (fun h8 => ?_)
    · exact absurd h8 (by omega)
    · refine lv_iconst (v := nI 1) hx hb d_M_type_64 (by decide) ?_
      refine lv_goto (tgt := 82) hx hb d_M_type_65 (by decide) ?_
      refine va_put (D := (dC, dI)) (ci := 6) (v := .int (nI 1)) (ty := (.int)) (C := R_M) (T := F_M) (N := 17) hx hb hts i_M ft_M ft_M_ok n_M hown hK hP hD hS 0 rfl rfl 0 (by decide) (hts _ k_477) (fun _ h9 => h9) rfl (by decide +kernel) rfl rfl (Nat.le_of_ble_eq_true rfl) d_M_type_82 (fun H locs hP hD hS => ?_)
      have hP : va_P (dC, dI) vwCl [(q 0, .inr (6, (mF q (nI 1) F nt ab be))), (q 4, .inl (cI, 6, .inl (fun j => nI (rm j)))), (q 5, .inl (cI, 6, .inl (fun j => nI (sd j)))), (q 6, .inl (cI, 6, .inl (fun j => nI (dr j)))), (q 7, .inl (cI, 6, .inl (fun j => nI (pe j)))), (q 8, .inl (cI, 6, .inl (fun j => nI (ce j))))] H := hP
      have hD : va_D A [(q 0, .inr (6, (mF q (nI 1) F nt ab be))), (q 4, .inl (cI, 6, .inl (fun j => nI (rm j)))), (q 5, .inl (cI, 6, .inl (fun j => nI (sd j)))), (q 6, .inl (cI, 6, .inl (fun j => nI (dr j)))), (q 7, .inl (cI, 6, .inl (fun j => nI (pe j)))), (q 8, .inl (cI, 6, .inl (fun j => nI (ce j))))] := hD
      refine lv_aload_n hx hb d_M_type_85 rfl (lv_at hl 1 rfl) ?_
      refine va_get (D := (dC, dI)) (ci := 6) (v := .int (nI 1)) (C := R_M) (T := F_M) (N := 17) hx hb hts i_M hown hK hP 0 rfl rfl 0 (by decide) (hts _ k_477) (fun _ h9 => h9) rfl d_M_type_86 ?_
      refine nx_if_le (tgt := 94) hx hb d_M_type_89 (by decide) (by omega) (fun h9 => ?_) (fun h9 => ?_)
      · exact absurd h9 (by omega)
      · refine lv_iconst (v := nI 0) hx hb d_M_type_92 (by decide) ?_
        exact W.iret hx hb hr (fun t ht hW => ⟨⟨_, (), rfl, rfl, by rw [ht]; exact hP, hD⟩, hS.F ht⟩) hS.2.2 d_M_type_93
  · refine lv_iload_n hx hb d_M_type_9 rfl (lv_at hl 2 rfl) ?_
    refine lv_iconst (v := nI 1) hx hb d_M_type_10 (by decide) ?_
    refine lv_bipush (v := nI 100) hx hb d_M_type_11 (by decide) ?_
    refine ro_calli (va_runS (As := [.int p1, .int (nI 1), .int (nI 100)]) (rest := []) ⟨hx, hb, hml, hown, hts⟩ (c_M_isIn l p1 (nI 1) (nI 100) 1 100 (nI_toInt (by decide)) (nI_toInt (by decide))) (cwS 3 hts (gw_S k_539 k_537 k_538 k_6) rfl rfl rfl (by decide +kernel) ⟨Nat.le_trans (Nat.le_of_ble_eq_true rfl) hfr, Nat.le_trans (Nat.le_of_ble_eq_true rfl) hlo⟩) ⟨pr_blind, pr_at hC (fun k q h => by simp at h)⟩ rfl rfl hl.1 rfl (lv_room (Nat.le_of_ble_eq_true rfl)) d_M_type_13 ⟨hce, hsl⟩) (fun r9 h9 => ?_)
    subst h9
    refine nx_b_eq (tgt := 55) hx hb d_M_type_16 (by decide) (fun h1 => ?_) (fun h1 => ?_)
    · refine lv_iconst (v := nI 0) hx hb d_M_type_55 (by decide) ?_
      refine lv_istore (lv' := [(6, .int (nI 0)), (0, .ref (q 0)), (1, .int p0), (2, .int p1), (3, .int p2), (4, .int p3), (5, .int p4)]) hx hb d_M_type_56 hl (by decide) rfl (fun ls hl => ?_)
      refine lv_aload_n hx hb d_M_type_58 rfl (lv_at hl 1 rfl) ?_
      refine lv_iload hx hb d_M_type_59 (lv_at hl 0 rfl) ?_
      refine nx_if_ne (tgt := 68) hx hb d_M_type_61 (by decide) (by omega) (fun h8 => ?_) (fun h8 => ?_)
      · exact absurd h8 (by omega)
      · refine lv_iconst (v := nI 1) hx hb d_M_type_64 (by decide) ?_
        refine lv_goto (tgt := 82) hx hb d_M_type_65 (by decide) ?_
        refine va_put (D := (dC, dI)) (ci := 6) (v := .int (nI 1)) (ty := (.int)) (C := R_M) (T := F_M) (N := 17) hx hb hts i_M ft_M ft_M_ok n_M hown hK hP hD hS 0 rfl rfl 0 (by decide) (hts _ k_477) (fun _ h9 => h9) rfl (by decide +kernel) rfl rfl (Nat.le_of_ble_eq_true rfl) d_M_type_82 (fun H locs hP hD hS => ?_)
        have hP : va_P (dC, dI) vwCl [(q 0, .inr (6, (mF q (nI 1) F nt ab be))), (q 4, .inl (cI, 6, .inl (fun j => nI (rm j)))), (q 5, .inl (cI, 6, .inl (fun j => nI (sd j)))), (q 6, .inl (cI, 6, .inl (fun j => nI (dr j)))), (q 7, .inl (cI, 6, .inl (fun j => nI (pe j)))), (q 8, .inl (cI, 6, .inl (fun j => nI (ce j))))] H := hP
        have hD : va_D A [(q 0, .inr (6, (mF q (nI 1) F nt ab be))), (q 4, .inl (cI, 6, .inl (fun j => nI (rm j)))), (q 5, .inl (cI, 6, .inl (fun j => nI (sd j)))), (q 6, .inl (cI, 6, .inl (fun j => nI (dr j)))), (q 7, .inl (cI, 6, .inl (fun j => nI (pe j)))), (q 8, .inl (cI, 6, .inl (fun j => nI (ce j))))] := hD
        refine lv_aload_n hx hb d_M_type_85 rfl (lv_at hl 1 rfl) ?_
        refine va_get (D := (dC, dI)) (ci := 6) (v := .int (nI 1)) (C := R_M) (T := F_M) (N := 17) hx hb hts i_M hown hK hP 0 rfl rfl 0 (by decide) (hts _ k_477) (fun _ h9 => h9) rfl d_M_type_86 ?_
        refine nx_if_le (tgt := 94) hx hb d_M_type_89 (by decide) (by omega) (fun h9 => ?_) (fun h9 => ?_)
        · exact absurd h9 (by omega)
        · refine lv_iconst (v := nI 0) hx hb d_M_type_92 (by decide) ?_
          exact W.iret hx hb hr (fun t ht hW => ⟨⟨_, (), rfl, rfl, by rw [ht]; exact hP, hD⟩, hS.F ht⟩) hS.2.2 d_M_type_93
    · refine lv_iload_n hx hb d_M_type_19 rfl (lv_at hl 3 rfl) ?_
      refine lv_iconst (v := nI 0) hx hb d_M_type_20 (by decide) ?_
      refine lv_bipush (v := nI 30) hx hb d_M_type_21 (by decide) ?_
      refine ro_calli (va_runS (As := [.int p2, .int (nI 0), .int (nI 30)]) (rest := []) ⟨hx, hb, hml, hown, hts⟩ (c_M_isIn l p2 (nI 0) (nI 30) 0 30 (nI_toInt (by decide)) (nI_toInt (by decide))) (cwS 3 hts (gw_S k_539 k_537 k_538 k_6) rfl rfl rfl (by decide +kernel) ⟨Nat.le_trans (Nat.le_of_ble_eq_true rfl) hfr, Nat.le_trans (Nat.le_of_ble_eq_true rfl) hlo⟩) ⟨pr_blind, pr_at hC (fun k q h => by simp at h)⟩ rfl rfl hl.1 rfl (lv_room (Nat.le_of_ble_eq_true rfl)) d_M_type_23 ⟨hce, hsl⟩) (fun r9 h9 => ?_)
      subst h9
      refine nx_b_eq (tgt := 55) hx hb d_M_type_26 (by decide) (fun h2 => ?_) (fun h2 => ?_)
      · refine lv_iconst (v := nI 0) hx hb d_M_type_55 (by decide) ?_
        refine lv_istore (lv' := [(6, .int (nI 0)), (0, .ref (q 0)), (1, .int p0), (2, .int p1), (3, .int p2), (4, .int p3), (5, .int p4)]) hx hb d_M_type_56 hl (by decide) rfl (fun ls hl => ?_)
        refine lv_aload_n hx hb d_M_type_58 rfl (lv_at hl 1 rfl) ?_
        refine lv_iload hx hb d_M_type_59 (lv_at hl 0 rfl) ?_
        refine nx_if_ne (tgt := 68) hx hb d_M_type_61 (by decide) (by omega) (fun h8 => ?_) (fun h8 => ?_)
        · exact absurd h8 (by omega)
        · refine lv_iconst (v := nI 1) hx hb d_M_type_64 (by decide) ?_
          refine lv_goto (tgt := 82) hx hb d_M_type_65 (by decide) ?_
          refine va_put (D := (dC, dI)) (ci := 6) (v := .int (nI 1)) (ty := (.int)) (C := R_M) (T := F_M) (N := 17) hx hb hts i_M ft_M ft_M_ok n_M hown hK hP hD hS 0 rfl rfl 0 (by decide) (hts _ k_477) (fun _ h9 => h9) rfl (by decide +kernel) rfl rfl (Nat.le_of_ble_eq_true rfl) d_M_type_82 (fun H locs hP hD hS => ?_)
          have hP : va_P (dC, dI) vwCl [(q 0, .inr (6, (mF q (nI 1) F nt ab be))), (q 4, .inl (cI, 6, .inl (fun j => nI (rm j)))), (q 5, .inl (cI, 6, .inl (fun j => nI (sd j)))), (q 6, .inl (cI, 6, .inl (fun j => nI (dr j)))), (q 7, .inl (cI, 6, .inl (fun j => nI (pe j)))), (q 8, .inl (cI, 6, .inl (fun j => nI (ce j))))] H := hP
          have hD : va_D A [(q 0, .inr (6, (mF q (nI 1) F nt ab be))), (q 4, .inl (cI, 6, .inl (fun j => nI (rm j)))), (q 5, .inl (cI, 6, .inl (fun j => nI (sd j)))), (q 6, .inl (cI, 6, .inl (fun j => nI (dr j)))), (q 7, .inl (cI, 6, .inl (fun j => nI (pe j)))), (q 8, .inl (cI, 6, .inl (fun j => nI (ce j))))] := hD
          refine lv_aload_n hx hb d_M_type_85 rfl (lv_at hl 1 rfl) ?_
          refine va_get (D := (dC, dI)) (ci := 6) (v := .int (nI 1)) (C := R_M) (T := F_M) (N := 17) hx hb hts i_M hown hK hP 0 rfl rfl 0 (by decide) (hts _ k_477) (fun _ h9 => h9) rfl d_M_type_86 ?_
          refine nx_if_le (tgt := 94) hx hb d_M_type_89 (by decide) (by omega) (fun h9 => ?_) (fun h9 => ?_)
          · exact absurd h9 (by omega)
          · refine lv_iconst (v := nI 0) hx hb d_M_type_92 (by decide) ?_
            exact W.iret hx hb hr (fun t ht hW => ⟨⟨_, (), rfl, rfl, by rw [ht]; exact hP, hD⟩, hS.F ht⟩) hS.2.2 d_M_type_93
      · refine lv_iload hx hb d_M_type_29 (lv_at hl 4 rfl) ?_
        refine lv_iconst (v := nI 0) hx hb d_M_type_31 (by decide) ?_
        refine lv_bipush (v := nI 10) hx hb d_M_type_32 (by decide) ?_
        refine ro_calli (va_runS (As := [.int p3, .int (nI 0), .int (nI 10)]) (rest := []) ⟨hx, hb, hml, hown, hts⟩ (c_M_isIn l p3 (nI 0) (nI 10) 0 10 (nI_toInt (by decide)) (nI_toInt (by decide))) (cwS 3 hts (gw_S k_539 k_537 k_538 k_6) rfl rfl rfl (by decide +kernel) ⟨Nat.le_trans (Nat.le_of_ble_eq_true rfl) hfr, Nat.le_trans (Nat.le_of_ble_eq_true rfl) hlo⟩) ⟨pr_blind, pr_at hC (fun k q h => by simp at h)⟩ rfl rfl hl.1 rfl (lv_room (Nat.le_of_ble_eq_true rfl)) d_M_type_34 ⟨hce, hsl⟩) (fun r9 h9 => ?_)
        subst h9
        refine nx_b_eq (tgt := 55) hx hb d_M_type_37 (by decide) (fun h3 => ?_) (fun h3 => ?_)
        · refine lv_iconst (v := nI 0) hx hb d_M_type_55 (by decide) ?_
          refine lv_istore (lv' := [(6, .int (nI 0)), (0, .ref (q 0)), (1, .int p0), (2, .int p1), (3, .int p2), (4, .int p3), (5, .int p4)]) hx hb d_M_type_56 hl (by decide) rfl (fun ls hl => ?_)
          refine lv_aload_n hx hb d_M_type_58 rfl (lv_at hl 1 rfl) ?_
          refine lv_iload hx hb d_M_type_59 (lv_at hl 0 rfl) ?_
          refine nx_if_ne (tgt := 68) hx hb d_M_type_61 (by decide) (by omega) (fun h8 => ?_) (fun h8 => ?_)
          · exact absurd h8 (by omega)
          · refine lv_iconst (v := nI 1) hx hb d_M_type_64 (by decide) ?_
            refine lv_goto (tgt := 82) hx hb d_M_type_65 (by decide) ?_
            refine va_put (D := (dC, dI)) (ci := 6) (v := .int (nI 1)) (ty := (.int)) (C := R_M) (T := F_M) (N := 17) hx hb hts i_M ft_M ft_M_ok n_M hown hK hP hD hS 0 rfl rfl 0 (by decide) (hts _ k_477) (fun _ h9 => h9) rfl (by decide +kernel) rfl rfl (Nat.le_of_ble_eq_true rfl) d_M_type_82 (fun H locs hP hD hS => ?_)
            have hP : va_P (dC, dI) vwCl [(q 0, .inr (6, (mF q (nI 1) F nt ab be))), (q 4, .inl (cI, 6, .inl (fun j => nI (rm j)))), (q 5, .inl (cI, 6, .inl (fun j => nI (sd j)))), (q 6, .inl (cI, 6, .inl (fun j => nI (dr j)))), (q 7, .inl (cI, 6, .inl (fun j => nI (pe j)))), (q 8, .inl (cI, 6, .inl (fun j => nI (ce j))))] H := hP
            have hD : va_D A [(q 0, .inr (6, (mF q (nI 1) F nt ab be))), (q 4, .inl (cI, 6, .inl (fun j => nI (rm j)))), (q 5, .inl (cI, 6, .inl (fun j => nI (sd j)))), (q 6, .inl (cI, 6, .inl (fun j => nI (dr j)))), (q 7, .inl (cI, 6, .inl (fun j => nI (pe j)))), (q 8, .inl (cI, 6, .inl (fun j => nI (ce j))))] := hD
            refine lv_aload_n hx hb d_M_type_85 rfl (lv_at hl 1 rfl) ?_
            refine va_get (D := (dC, dI)) (ci := 6) (v := .int (nI 1)) (C := R_M) (T := F_M) (N := 17) hx hb hts i_M hown hK hP 0 rfl rfl 0 (by decide) (hts _ k_477) (fun _ h9 => h9) rfl d_M_type_86 ?_
            refine nx_if_le (tgt := 94) hx hb d_M_type_89 (by decide) (by omega) (fun h9 => ?_) (fun h9 => ?_)
            · exact absurd h9 (by omega)
            · refine lv_iconst (v := nI 0) hx hb d_M_type_92 (by decide) ?_
              exact W.iret hx hb hr (fun t ht hW => ⟨⟨_, (), rfl, rfl, by rw [ht]; exact hP, hD⟩, hS.F ht⟩) hS.2.2 d_M_type_93
        · refine lv_iload hx hb d_M_type_40 (lv_at hl 5 rfl) ?_
          refine lv_iconst (v := nI 1) hx hb d_M_type_42 (by decide) ?_
          refine lv_ldc (v := nI 100000) hx hb hown (hts _ k_556) d_M_type_43 ?_
          refine ro_calli (va_runS (As := [.int p4, .int (nI 1), .int (nI 100000)]) (rest := []) ⟨hx, hb, hml, hown, hts⟩ (c_M_isIn l p4 (nI 1) (nI 100000) 1 100000 (nI_toInt (by decide)) (nI_toInt (by decide))) (cwS 3 hts (gw_S k_539 k_537 k_538 k_6) rfl rfl rfl (by decide +kernel) ⟨Nat.le_trans (Nat.le_of_ble_eq_true rfl) hfr, Nat.le_trans (Nat.le_of_ble_eq_true rfl) hlo⟩) ⟨pr_blind, pr_at hC (fun k q h => by simp at h)⟩ rfl rfl hl.1 rfl (lv_room (Nat.le_of_ble_eq_true rfl)) d_M_type_45 ⟨hce, hsl⟩) (fun r9 h9 => ?_)
          subst h9
          refine nx_b_eq (tgt := 55) hx hb d_M_type_48 (by decide) (fun h4 => ?_) (fun h4 => ?_)
          · refine lv_iconst (v := nI 0) hx hb d_M_type_55 (by decide) ?_
            refine lv_istore (lv' := [(6, .int (nI 0)), (0, .ref (q 0)), (1, .int p0), (2, .int p1), (3, .int p2), (4, .int p3), (5, .int p4)]) hx hb d_M_type_56 hl (by decide) rfl (fun ls hl => ?_)
            refine lv_aload_n hx hb d_M_type_58 rfl (lv_at hl 1 rfl) ?_
            refine lv_iload hx hb d_M_type_59 (lv_at hl 0 rfl) ?_
            refine nx_if_ne (tgt := 68) hx hb d_M_type_61 (by decide) (by omega) (fun h8 => ?_) (fun h8 => ?_)
            · exact absurd h8 (by omega)
            · refine lv_iconst (v := nI 1) hx hb d_M_type_64 (by decide) ?_
              refine lv_goto (tgt := 82) hx hb d_M_type_65 (by decide) ?_
              refine va_put (D := (dC, dI)) (ci := 6) (v := .int (nI 1)) (ty := (.int)) (C := R_M) (T := F_M) (N := 17) hx hb hts i_M ft_M ft_M_ok n_M hown hK hP hD hS 0 rfl rfl 0 (by decide) (hts _ k_477) (fun _ h9 => h9) rfl (by decide +kernel) rfl rfl (Nat.le_of_ble_eq_true rfl) d_M_type_82 (fun H locs hP hD hS => ?_)
              have hP : va_P (dC, dI) vwCl [(q 0, .inr (6, (mF q (nI 1) F nt ab be))), (q 4, .inl (cI, 6, .inl (fun j => nI (rm j)))), (q 5, .inl (cI, 6, .inl (fun j => nI (sd j)))), (q 6, .inl (cI, 6, .inl (fun j => nI (dr j)))), (q 7, .inl (cI, 6, .inl (fun j => nI (pe j)))), (q 8, .inl (cI, 6, .inl (fun j => nI (ce j))))] H := hP
              have hD : va_D A [(q 0, .inr (6, (mF q (nI 1) F nt ab be))), (q 4, .inl (cI, 6, .inl (fun j => nI (rm j)))), (q 5, .inl (cI, 6, .inl (fun j => nI (sd j)))), (q 6, .inl (cI, 6, .inl (fun j => nI (dr j)))), (q 7, .inl (cI, 6, .inl (fun j => nI (pe j)))), (q 8, .inl (cI, 6, .inl (fun j => nI (ce j))))] := hD
              refine lv_aload_n hx hb d_M_type_85 rfl (lv_at hl 1 rfl) ?_
              refine va_get (D := (dC, dI)) (ci := 6) (v := .int (nI 1)) (C := R_M) (T := F_M) (N := 17) hx hb hts i_M hown hK hP 0 rfl rfl 0 (by decide) (hts _ k_477) (fun _ h9 => h9) rfl d_M_type_86 ?_
              refine nx_if_le (tgt := 94) hx hb d_M_type_89 (by decide) (by omega) (fun h9 => ?_) (fun h9 => ?_)
              · exact absurd h9 (by omega)
              · refine lv_iconst (v := nI 0) hx hb d_M_type_92 (by decide) ?_
                exact W.iret hx hb hr (fun t ht hW => ⟨⟨_, (), rfl, rfl, by rw [ht]; exact hP, hD⟩, hS.F ht⟩) hS.2.2 d_M_type_93
          · exact absurd ⟨h0, h1, h2, h3, h4⟩ hbad
set_option maxHeartbeats 4000000 in
set_option maxRecDepth 100000 in
theorem c_M_type_b2 (l : Launch) {dC : Nat → ClassId} {dI : Nat → Nat → Nat} {cI cL cT : ClassId} {sa : Nat → Nat} (sz : Nat) (q : Nat → Nat) (th : Int32) (F nt : Nat) (ab be : Int64) (rm sd dr pe ce : Nat → Nat) (a0 a1 a2 a3 a4 : Nat) (ha0 : 1 ≤ a0 ∧ a0 ≤ 5) (ha1 : 1 ≤ a1 ∧ a1 ≤ 100) (ha2 : 0 ≤ a2 ∧ a2 ≤ 30) (ha3 : 0 ≤ a3 ∧ a3 ≤ 10) (ha4 : 1 ≤ a4 ∧ a4 ≤ 100000) (hn6 : nt ≤ 6) (hbad : nt = 6) : Met l y_M_type (Cond.code y_M_type b_M_type 7 (some .int) :: gw) ({ frames := 1, cells := 0, slots := 0, locals := 22 } : Room) (wr dC dI cI cL cT sa [.ref (q 0), .int (nI a0), .int (nI a1), .int (nI a2), .int (nI a3), .int (nI a4)] [(q 0, .inr (6, (mF q th F nt ab be))), (q 4, .inl (cI, 6, .inl (fun j => nI (rm j)))), (q 5, .inl (cI, 6, .inl (fun j => nI (sd j)))), (q 6, .inl (cI, 6, .inl (fun j => nI (dr j)))), (q 7, .inl (cI, 6, .inl (fun j => nI (pe j)))), (q 8, .inl (cI, 6, .inl (fun j => nI (ce j))))] sz) (va_Qi (fun r (_ : Unit) => r = nI 0) (wB dC dI [(q 0, .inr (6, (mF q th F nt ab be))), (q 4, .inl (cI, 6, .inl (fun j => nI (rm j)))), (q 5, .inl (cI, 6, .inl (fun j => nI (sd j)))), (q 6, .inl (cI, 6, .inl (fun j => nI (dr j)))), (q 7, .inl (cI, 6, .inl (fun j => nI (pe j)))), (q 8, .inl (cI, 6, .inl (fun j => nI (ce j))))] [(q 0, .inr (6, (mF q (nI 2) F nt ab be))), (q 4, .inl (cI, 6, .inl (fun j => nI (rm j)))), (q 5, .inl (cI, 6, .inl (fun j => nI (sd j)))), (q 6, .inl (cI, 6, .inl (fun j => nI (dr j)))), (q 7, .inl (cI, 6, .inl (fun j => nI (pe j)))), (q 8, .inl (cI, 6, .inl (fun j => nI (ce j))))] sz) (va_A [(q 0, .inr (6, (mF q th F nt ab be))), (q 4, .inl (cI, 6, .inl (fun j => nI (rm j)))), (q 5, .inl (cI, 6, .inl (fun j => nI (sd j)))), (q 6, .inl (cI, 6, .inl (fun j => nI (dr j)))), (q 7, .inl (cI, 6, .inl (fun j => nI (pe j)))), (q 8, .inl (cI, 6, .inl (fun j => nI (ce j))))] sz)) 0 0 (va_A [(q 0, .inr (6, (mF q th F nt ab be))), (q 4, .inl (cI, 6, .inl (fun j => nI (rm j)))), (q 5, .inl (cI, 6, .inl (fun j => nI (sd j)))), (q 6, .inl (cI, 6, .inl (fun j => nI (dr j)))), (q 7, .inl (cI, 6, .inl (fun j => nI (pe j)))), (q 8, .inl (cI, 6, .inl (fun j => nI (ce j))))] sz) := by
  refine Met.ofW (cc := b_M_type) (maxL := 7) (ret := (some .int)) (by decide) rfl ?_
  intro p e s m args below meth c s₁ B hml hv
  obtain ⟨rfl, hsz, hC, hP, hD0⟩ := hv
  have hx := B.exec
  have hb := B.bytes
  have hr := B.returns
  have hts : ∀ w ∈ gw, w.before ([.ref (q 0), .int (nI a0), .int (nI a1), .int (nI a2), .int (nI a3), .int (nI a4)] : List Value).toArray s = true := fun w hw => atoms_spec (ws := Cond.code y_M_type b_M_type 7 (some .int) :: gw) B.pre w (List.mem_cons_of_mem _ hw)
  have hown : s.vm.findClass R_M = some m.cls := findClass_of_methodNamed B.named
  have hlocks := B.notSynchronized
  have hK := hC.1
  have hfr : 1 ≤ (headSpec (Cond.code y_M_type b_M_type 7 (some .int) :: gw) ({ frames := 1, cells := 0, slots := 0, locals := 22 } : Room)).room.frames := Nat.le_refl _
  have hlo : 22 ≤ (headSpec (Cond.code y_M_type b_M_type 7 (some .int) :: gw) ({ frames := 1, cells := 0, slots := 0, locals := 22 } : Room)).room.locals := Nat.le_refl _
  have hce : 0 ≤ (headSpec (Cond.code y_M_type b_M_type 7 (some .int) :: gw) ({ frames := 1, cells := 0, slots := 0, locals := 22 } : Room)).room.cells := Nat.zero_le _
  have hsl : 0 ≤ (headSpec (Cond.code y_M_type b_M_type 7 (some .int) :: gw) ({ frames := 1, cells := 0, slots := 0, locals := 22 } : Room)).room.slots := Nat.zero_le _
  subst hsz
  have hD := hD0.self (sz := s.heap.size)
  unfold wB
  generalize hAe : va_A [(q 0, .inr (6, (mF q th F nt ab be))), (q 4, .inl (cI, 6, .inl (fun j => nI (rm j)))), (q 5, .inl (cI, 6, .inl (fun j => nI (sd j)))), (q 6, .inl (cI, 6, .inl (fun j => nI (dr j)))), (q 7, .inl (cI, 6, .inl (fun j => nI (pe j)))), (q 8, .inl (cI, 6, .inl (fun j => nI (ce j))))] s.heap.size = A at hD ⊢
  have hA : ∀ q : Nat, s.heap.size ≤ q → A q := fun q h => by rw [← hAe]; exact Or.inr h
  have hS : va_S A s.heap s.heap [] := va_S.rf
  have hl := lv_entry ([.ref (q 0), .int (nI a0), .int (nI a1), .int (nI a2), .int (nI a3), .int (nI a4)]) (n := 7) (Nat.le_of_ble_eq_true rfl)
  rw [lg_entry_eq]
  generalize (lg_sl ([.ref (q 0), .int (nI a0), .int (nI a1), .int (nI a2), .int (nI a3), .int (nI a4)]) ++ List.replicate (7 - (lg_sl ([.ref (q 0), .int (nI a0), .int (nI a1), .int (nI a2), .int (nI a3), .int (nI a4)])).length) Slot.unset).toArray = ls at hl ⊢
  have hl : lv_has ls 7 [(0, .ref (q 0)), (1, .int (nI a0)), (2, .int (nI a1)), (3, .int (nI a2)), (4, .int (nI a3)), (5, .int (nI a4))] := hl
  refine lv_iload_n hx hb d_M_type_0 rfl (lv_at hl 1 rfl) ?_
  refine lv_iconst (v := nI 1) hx hb d_M_type_1 (by decide) ?_
  refine lv_iconst (v := nI 5) hx hb d_M_type_2 (by decide) ?_
  refine ro_calli (va_runS (As := [.int (nI a0), .int (nI 1), .int (nI 5)]) (rest := []) ⟨hx, hb, hml, hown, hts⟩ (c_M_isInN l a0 1 5 (by omega) (by decide) (by decide)) (cwS 3 hts (gw_S k_539 k_537 k_538 k_6) rfl rfl rfl (by decide +kernel) ⟨Nat.le_trans (Nat.le_of_ble_eq_true rfl) hfr, Nat.le_trans (Nat.le_of_ble_eq_true rfl) hlo⟩) ⟨pr_blind, pr_at hC (fun k q h => by simp at h)⟩ rfl rfl hl.1 rfl (lv_room (Nat.le_of_ble_eq_true rfl)) d_M_type_3 ⟨hce, hsl⟩) (fun r9 h9 => ?_)
  subst h9
  refine nx_b_eq (tgt := 55) hx hb d_M_type_6 (by decide) (fun h0 => ?_) (fun h0 => ?_)
  · exact absurd ha0 h0
  · refine lv_iload_n hx hb d_M_type_9 rfl (lv_at hl 2 rfl) ?_
    refine lv_iconst (v := nI 1) hx hb d_M_type_10 (by decide) ?_
    refine lv_bipush (v := nI 100) hx hb d_M_type_11 (by decide) ?_
    refine ro_calli (va_runS (As := [.int (nI a1), .int (nI 1), .int (nI 100)]) (rest := []) ⟨hx, hb, hml, hown, hts⟩ (c_M_isInN l a1 1 100 (by omega) (by decide) (by decide)) (cwS 3 hts (gw_S k_539 k_537 k_538 k_6) rfl rfl rfl (by decide +kernel) ⟨Nat.le_trans (Nat.le_of_ble_eq_true rfl) hfr, Nat.le_trans (Nat.le_of_ble_eq_true rfl) hlo⟩) ⟨pr_blind, pr_at hC (fun k q h => by simp at h)⟩ rfl rfl hl.1 rfl (lv_room (Nat.le_of_ble_eq_true rfl)) d_M_type_13 ⟨hce, hsl⟩) (fun r9 h9 => ?_)
    subst h9
    refine nx_b_eq (tgt := 55) hx hb d_M_type_16 (by decide) (fun h1 => ?_) (fun h1 => ?_)
    · exact absurd ha1 h1
    · refine lv_iload_n hx hb d_M_type_19 rfl (lv_at hl 3 rfl) ?_
      refine lv_iconst (v := nI 0) hx hb d_M_type_20 (by decide) ?_
      refine lv_bipush (v := nI 30) hx hb d_M_type_21 (by decide) ?_
      refine ro_calli (va_runS (As := [.int (nI a2), .int (nI 0), .int (nI 30)]) (rest := []) ⟨hx, hb, hml, hown, hts⟩ (c_M_isInN l a2 0 30 (by omega) (by decide) (by decide)) (cwS 3 hts (gw_S k_539 k_537 k_538 k_6) rfl rfl rfl (by decide +kernel) ⟨Nat.le_trans (Nat.le_of_ble_eq_true rfl) hfr, Nat.le_trans (Nat.le_of_ble_eq_true rfl) hlo⟩) ⟨pr_blind, pr_at hC (fun k q h => by simp at h)⟩ rfl rfl hl.1 rfl (lv_room (Nat.le_of_ble_eq_true rfl)) d_M_type_23 ⟨hce, hsl⟩) (fun r9 h9 => ?_)
      subst h9
      refine nx_b_eq (tgt := 55) hx hb d_M_type_26 (by decide) (fun h2 => ?_) (fun h2 => ?_)
      · exact absurd ha2 h2
      · refine lv_iload hx hb d_M_type_29 (lv_at hl 4 rfl) ?_
        refine lv_iconst (v := nI 0) hx hb d_M_type_31 (by decide) ?_
        refine lv_bipush (v := nI 10) hx hb d_M_type_32 (by decide) ?_
        refine ro_calli (va_runS (As := [.int (nI a3), .int (nI 0), .int (nI 10)]) (rest := []) ⟨hx, hb, hml, hown, hts⟩ (c_M_isInN l a3 0 10 (by omega) (by decide) (by decide)) (cwS 3 hts (gw_S k_539 k_537 k_538 k_6) rfl rfl rfl (by decide +kernel) ⟨Nat.le_trans (Nat.le_of_ble_eq_true rfl) hfr, Nat.le_trans (Nat.le_of_ble_eq_true rfl) hlo⟩) ⟨pr_blind, pr_at hC (fun k q h => by simp at h)⟩ rfl rfl hl.1 rfl (lv_room (Nat.le_of_ble_eq_true rfl)) d_M_type_34 ⟨hce, hsl⟩) (fun r9 h9 => ?_)
        subst h9
        refine nx_b_eq (tgt := 55) hx hb d_M_type_37 (by decide) (fun h3 => ?_) (fun h3 => ?_)
        · exact absurd ha3 h3
        · refine lv_iload hx hb d_M_type_40 (lv_at hl 5 rfl) ?_
          refine lv_iconst (v := nI 1) hx hb d_M_type_42 (by decide) ?_
          refine lv_ldc (v := nI 100000) hx hb hown (hts _ k_556) d_M_type_43 ?_
          refine ro_calli (va_runS (As := [.int (nI a4), .int (nI 1), .int (nI 100000)]) (rest := []) ⟨hx, hb, hml, hown, hts⟩ (c_M_isInN l a4 1 100000 (by omega) (by decide) (by decide)) (cwS 3 hts (gw_S k_539 k_537 k_538 k_6) rfl rfl rfl (by decide +kernel) ⟨Nat.le_trans (Nat.le_of_ble_eq_true rfl) hfr, Nat.le_trans (Nat.le_of_ble_eq_true rfl) hlo⟩) ⟨pr_blind, pr_at hC (fun k q h => by simp at h)⟩ rfl rfl hl.1 rfl (lv_room (Nat.le_of_ble_eq_true rfl)) d_M_type_45 ⟨hce, hsl⟩) (fun r9 h9 => ?_)
          subst h9
          refine nx_b_eq (tgt := 55) hx hb d_M_type_48 (by decide) (fun h4 => ?_) (fun h4 => ?_)
          · exact absurd ha4 h4
          · refine lv_iconst (v := nI 1) hx hb d_M_type_51 (by decide) ?_
            refine lv_goto (tgt := 56) hx hb d_M_type_52 (by decide) ?_
            refine lv_istore (lv' := [(6, .int (nI 1)), (0, .ref (q 0)), (1, .int (nI a0)), (2, .int (nI a1)), (3, .int (nI a2)), (4, .int (nI a3)), (5, .int (nI a4))]) hx hb d_M_type_56 hl (by decide) rfl (fun ls hl => ?_)
            refine lv_aload_n hx hb d_M_type_58 rfl (lv_at hl 1 rfl) ?_
            refine lv_iload hx hb d_M_type_59 (lv_at hl 0 rfl) ?_
            refine nx_if_ne (tgt := 68) hx hb d_M_type_61 (by decide) (by omega) (fun h8 => ?_) (fun h8 => ?_)
            · refine lv_aload_n hx hb d_M_type_68 rfl (lv_at hl 1 rfl) ?_
              refine va_get (D := (dC, dI)) (ci := 6) (v := .int (nI nt)) (C := R_M) (T := F_M) (N := 17) hx hb hts i_M hown hK hP 0 rfl rfl 9 (by decide) (hts _ k_486) (fun _ h9 => h9) rfl d_M_type_69 ?_
              refine lv_bipush (v := nI 6) hx hb d_M_type_72 (by decide) ?_
              refine nx_icmp_ne (tgt := 81) hx hb d_M_type_74 (by decide) (by omega) (by omega) (fun h7 => ?_) (fun h7 => ?_)
              · exact absurd hbad h7
              · refine lv_iconst (v := nI 2) hx hb d_M_type_77 (by decide) ?_
                refine lv_goto (tgt := 82) hx hb d_M_type_78 (by decide) ?_
                refine va_put (D := (dC, dI)) (ci := 6) (v := .int (nI 2)) (ty := (.int)) (C := R_M) (T := F_M) (N := 17) hx hb hts i_M ft_M ft_M_ok n_M hown hK hP hD hS 0 rfl rfl 0 (by decide) (hts _ k_477) (fun _ h9 => h9) rfl (by decide +kernel) rfl rfl (Nat.le_of_ble_eq_true rfl) d_M_type_82 (fun H locs hP hD hS => ?_)
                have hP : va_P (dC, dI) vwCl [(q 0, .inr (6, (mF q (nI 2) F nt ab be))), (q 4, .inl (cI, 6, .inl (fun j => nI (rm j)))), (q 5, .inl (cI, 6, .inl (fun j => nI (sd j)))), (q 6, .inl (cI, 6, .inl (fun j => nI (dr j)))), (q 7, .inl (cI, 6, .inl (fun j => nI (pe j)))), (q 8, .inl (cI, 6, .inl (fun j => nI (ce j))))] H := hP
                have hD : va_D A [(q 0, .inr (6, (mF q (nI 2) F nt ab be))), (q 4, .inl (cI, 6, .inl (fun j => nI (rm j)))), (q 5, .inl (cI, 6, .inl (fun j => nI (sd j)))), (q 6, .inl (cI, 6, .inl (fun j => nI (dr j)))), (q 7, .inl (cI, 6, .inl (fun j => nI (pe j)))), (q 8, .inl (cI, 6, .inl (fun j => nI (ce j))))] := hD
                refine lv_aload_n hx hb d_M_type_85 rfl (lv_at hl 1 rfl) ?_
                refine va_get (D := (dC, dI)) (ci := 6) (v := .int (nI 2)) (C := R_M) (T := F_M) (N := 17) hx hb hts i_M hown hK hP 0 rfl rfl 0 (by decide) (hts _ k_477) (fun _ h9 => h9) rfl d_M_type_86 ?_
                refine nx_if_le (tgt := 94) hx hb d_M_type_89 (by decide) (by omega) (fun h9 => ?_) (fun h9 => ?_)
                · exact absurd h9 (by omega)
                · refine lv_iconst (v := nI 0) hx hb d_M_type_92 (by decide) ?_
                  exact W.iret hx hb hr (fun t ht hW => ⟨⟨_, (), rfl, rfl, by rw [ht]; exact hP, hD⟩, hS.F ht⟩) hS.2.2 d_M_type_93
            · exact absurd h8 (by omega)
set_option maxHeartbeats 4000000 in
set_option maxRecDepth 100000 in
theorem c_M_type (l : Launch) {dC : Nat → ClassId} {dI : Nat → Nat → Nat} {cI cL cT : ClassId} {sa : Nat → Nat} (sz : Nat) (q : Nat → Nat) (th : Int32) (F nt : Nat) (ab be : Int64) (rm sd dr pe ce : Nat → Nat) (a0 a1 a2 a3 a4 : Nat) (ha0 : 1 ≤ a0 ∧ a0 ≤ 5) (ha1 : 1 ≤ a1 ∧ a1 ≤ 100) (ha2 : 0 ≤ a2 ∧ a2 ≤ 30) (ha3 : 0 ≤ a3 ∧ a3 ≤ 10) (ha4 : 1 ≤ a4 ∧ a4 ≤ 100000) (hn6 : nt ≤ 6) (hgood : nt < 6) : Met l y_M_type (Cond.code y_M_type b_M_type 7 (some .int) :: gw) ({ frames := 1, cells := 0, slots := 0, locals := 22 } : Room) (wr dC dI cI cL cT sa [.ref (q 0), .int (nI a0), .int (nI a1), .int (nI a2), .int (nI a3), .int (nI a4)] [(q 0, .inr (6, (mF q th F nt ab be))), (q 4, .inl (cI, 6, .inl (fun j => nI (rm j)))), (q 5, .inl (cI, 6, .inl (fun j => nI (sd j)))), (q 6, .inl (cI, 6, .inl (fun j => nI (dr j)))), (q 7, .inl (cI, 6, .inl (fun j => nI (pe j)))), (q 8, .inl (cI, 6, .inl (fun j => nI (ce j))))] sz) (va_Qi (fun r (_ : Unit) => r = nI nt) (wB dC dI [(q 0, .inr (6, (mF q th F nt ab be))), (q 4, .inl (cI, 6, .inl (fun j => nI (rm j)))), (q 5, .inl (cI, 6, .inl (fun j => nI (sd j)))), (q 6, .inl (cI, 6, .inl (fun j => nI (dr j)))), (q 7, .inl (cI, 6, .inl (fun j => nI (pe j)))), (q 8, .inl (cI, 6, .inl (fun j => nI (ce j))))] [(q 0, .inr (6, (mF q (nI 0) F (nt + 1) ab be))), (q 4, .inl (cI, 6, .inl (fun j => nI ((up rm nt a0) j)))), (q 5, .inl (cI, 6, .inl (fun j => nI ((up sd nt a1) j)))), (q 6, .inl (cI, 6, .inl (fun j => nI ((up dr nt a2) j)))), (q 7, .inl (cI, 6, .inl (fun j => nI ((up pe nt a3) j)))), (q 8, .inl (cI, 6, .inl (fun j => nI ((up ce nt a4) j))))] sz) (va_A [(q 0, .inr (6, (mF q th F nt ab be))), (q 4, .inl (cI, 6, .inl (fun j => nI (rm j)))), (q 5, .inl (cI, 6, .inl (fun j => nI (sd j)))), (q 6, .inl (cI, 6, .inl (fun j => nI (dr j)))), (q 7, .inl (cI, 6, .inl (fun j => nI (pe j)))), (q 8, .inl (cI, 6, .inl (fun j => nI (ce j))))] sz)) 0 0 (va_A [(q 0, .inr (6, (mF q th F nt ab be))), (q 4, .inl (cI, 6, .inl (fun j => nI (rm j)))), (q 5, .inl (cI, 6, .inl (fun j => nI (sd j)))), (q 6, .inl (cI, 6, .inl (fun j => nI (dr j)))), (q 7, .inl (cI, 6, .inl (fun j => nI (pe j)))), (q 8, .inl (cI, 6, .inl (fun j => nI (ce j))))] sz) := by
  refine Met.ofW (cc := b_M_type) (maxL := 7) (ret := (some .int)) (by decide) rfl ?_
  intro p e s m args below meth c s₁ B hml hv
  obtain ⟨rfl, hsz, hC, hP, hD0⟩ := hv
  have hx := B.exec
  have hb := B.bytes
  have hr := B.returns
  have hts : ∀ w ∈ gw, w.before ([.ref (q 0), .int (nI a0), .int (nI a1), .int (nI a2), .int (nI a3), .int (nI a4)] : List Value).toArray s = true := fun w hw => atoms_spec (ws := Cond.code y_M_type b_M_type 7 (some .int) :: gw) B.pre w (List.mem_cons_of_mem _ hw)
  have hown : s.vm.findClass R_M = some m.cls := findClass_of_methodNamed B.named
  have hlocks := B.notSynchronized
  have hK := hC.1
  have hfr : 1 ≤ (headSpec (Cond.code y_M_type b_M_type 7 (some .int) :: gw) ({ frames := 1, cells := 0, slots := 0, locals := 22 } : Room)).room.frames := Nat.le_refl _
  have hlo : 22 ≤ (headSpec (Cond.code y_M_type b_M_type 7 (some .int) :: gw) ({ frames := 1, cells := 0, slots := 0, locals := 22 } : Room)).room.locals := Nat.le_refl _
  have hce : 0 ≤ (headSpec (Cond.code y_M_type b_M_type 7 (some .int) :: gw) ({ frames := 1, cells := 0, slots := 0, locals := 22 } : Room)).room.cells := Nat.zero_le _
  have hsl : 0 ≤ (headSpec (Cond.code y_M_type b_M_type 7 (some .int) :: gw) ({ frames := 1, cells := 0, slots := 0, locals := 22 } : Room)).room.slots := Nat.zero_le _
  subst hsz
  have hD := hD0.self (sz := s.heap.size)
  unfold wB
  generalize hAe : va_A [(q 0, .inr (6, (mF q th F nt ab be))), (q 4, .inl (cI, 6, .inl (fun j => nI (rm j)))), (q 5, .inl (cI, 6, .inl (fun j => nI (sd j)))), (q 6, .inl (cI, 6, .inl (fun j => nI (dr j)))), (q 7, .inl (cI, 6, .inl (fun j => nI (pe j)))), (q 8, .inl (cI, 6, .inl (fun j => nI (ce j))))] s.heap.size = A at hD ⊢
  have hA : ∀ q : Nat, s.heap.size ≤ q → A q := fun q h => by rw [← hAe]; exact Or.inr h
  have hS : va_S A s.heap s.heap [] := va_S.rf
  have hl := lv_entry ([.ref (q 0), .int (nI a0), .int (nI a1), .int (nI a2), .int (nI a3), .int (nI a4)]) (n := 7) (Nat.le_of_ble_eq_true rfl)
  rw [lg_entry_eq]
  generalize (lg_sl ([.ref (q 0), .int (nI a0), .int (nI a1), .int (nI a2), .int (nI a3), .int (nI a4)]) ++ List.replicate (7 - (lg_sl ([.ref (q 0), .int (nI a0), .int (nI a1), .int (nI a2), .int (nI a3), .int (nI a4)])).length) Slot.unset).toArray = ls at hl ⊢
  have hl : lv_has ls 7 [(0, .ref (q 0)), (1, .int (nI a0)), (2, .int (nI a1)), (3, .int (nI a2)), (4, .int (nI a3)), (5, .int (nI a4))] := hl
  refine lv_iload_n hx hb d_M_type_0 rfl (lv_at hl 1 rfl) ?_
  refine lv_iconst (v := nI 1) hx hb d_M_type_1 (by decide) ?_
  refine lv_iconst (v := nI 5) hx hb d_M_type_2 (by decide) ?_
  refine ro_calli (va_runS (As := [.int (nI a0), .int (nI 1), .int (nI 5)]) (rest := []) ⟨hx, hb, hml, hown, hts⟩ (c_M_isInN l a0 1 5 (by omega) (by decide) (by decide)) (cwS 3 hts (gw_S k_539 k_537 k_538 k_6) rfl rfl rfl (by decide +kernel) ⟨Nat.le_trans (Nat.le_of_ble_eq_true rfl) hfr, Nat.le_trans (Nat.le_of_ble_eq_true rfl) hlo⟩) ⟨pr_blind, pr_at hC (fun k q h => by simp at h)⟩ rfl rfl hl.1 rfl (lv_room (Nat.le_of_ble_eq_true rfl)) d_M_type_3 ⟨hce, hsl⟩) (fun r9 h9 => ?_)
  subst h9
  refine nx_b_eq (tgt := 55) hx hb d_M_type_6 (by decide) (fun h0 => ?_) (fun h0 => ?_)
  · exact absurd ha0 h0
  · refine lv_iload_n hx hb d_M_type_9 rfl (lv_at hl 2 rfl) ?_
    refine lv_iconst (v := nI 1) hx hb d_M_type_10 (by decide) ?_
    refine lv_bipush (v := nI 100) hx hb d_M_type_11 (by decide) ?_
    refine ro_calli (va_runS (As := [.int (nI a1), .int (nI 1), .int (nI 100)]) (rest := []) ⟨hx, hb, hml, hown, hts⟩ (c_M_isInN l a1 1 100 (by omega) (by decide) (by decide)) (cwS 3 hts (gw_S k_539 k_537 k_538 k_6) rfl rfl rfl (by decide +kernel) ⟨Nat.le_trans (Nat.le_of_ble_eq_true rfl) hfr, Nat.le_trans (Nat.le_of_ble_eq_true rfl) hlo⟩) ⟨pr_blind, pr_at hC (fun k q h => by simp at h)⟩ rfl rfl hl.1 rfl (lv_room (Nat.le_of_ble_eq_true rfl)) d_M_type_13 ⟨hce, hsl⟩) (fun r9 h9 => ?_)
    subst h9
    refine nx_b_eq (tgt := 55) hx hb d_M_type_16 (by decide) (fun h1 => ?_) (fun h1 => ?_)
    · exact absurd ha1 h1
    · refine lv_iload_n hx hb d_M_type_19 rfl (lv_at hl 3 rfl) ?_
      refine lv_iconst (v := nI 0) hx hb d_M_type_20 (by decide) ?_
      refine lv_bipush (v := nI 30) hx hb d_M_type_21 (by decide) ?_
      refine ro_calli (va_runS (As := [.int (nI a2), .int (nI 0), .int (nI 30)]) (rest := []) ⟨hx, hb, hml, hown, hts⟩ (c_M_isInN l a2 0 30 (by omega) (by decide) (by decide)) (cwS 3 hts (gw_S k_539 k_537 k_538 k_6) rfl rfl rfl (by decide +kernel) ⟨Nat.le_trans (Nat.le_of_ble_eq_true rfl) hfr, Nat.le_trans (Nat.le_of_ble_eq_true rfl) hlo⟩) ⟨pr_blind, pr_at hC (fun k q h => by simp at h)⟩ rfl rfl hl.1 rfl (lv_room (Nat.le_of_ble_eq_true rfl)) d_M_type_23 ⟨hce, hsl⟩) (fun r9 h9 => ?_)
      subst h9
      refine nx_b_eq (tgt := 55) hx hb d_M_type_26 (by decide) (fun h2 => ?_) (fun h2 => ?_)
      · exact absurd ha2 h2
      · refine lv_iload hx hb d_M_type_29 (lv_at hl 4 rfl) ?_
        refine lv_iconst (v := nI 0) hx hb d_M_type_31 (by decide) ?_
        refine lv_bipush (v := nI 10) hx hb d_M_type_32 (by decide) ?_
        refine ro_calli (va_runS (As := [.int (nI a3), .int (nI 0), .int (nI 10)]) (rest := []) ⟨hx, hb, hml, hown, hts⟩ (c_M_isInN l a3 0 10 (by omega) (by decide) (by decide)) (cwS 3 hts (gw_S k_539 k_537 k_538 k_6) rfl rfl rfl (by decide +kernel) ⟨Nat.le_trans (Nat.le_of_ble_eq_true rfl) hfr, Nat.le_trans (Nat.le_of_ble_eq_true rfl) hlo⟩) ⟨pr_blind, pr_at hC (fun k q h => by simp at h)⟩ rfl rfl hl.1 rfl (lv_room (Nat.le_of_ble_eq_true rfl)) d_M_type_34 ⟨hce, hsl⟩) (fun r9 h9 => ?_)
        subst h9
        refine nx_b_eq (tgt := 55) hx hb d_M_type_37 (by decide) (fun h3 => ?_) (fun h3 => ?_)
        · exact absurd ha3 h3
        · refine lv_iload hx hb d_M_type_40 (lv_at hl 5 rfl) ?_
          refine lv_iconst (v := nI 1) hx hb d_M_type_42 (by decide) ?_
          refine lv_ldc (v := nI 100000) hx hb hown (hts _ k_556) d_M_type_43 ?_
          refine ro_calli (va_runS (As := [.int (nI a4), .int (nI 1), .int (nI 100000)]) (rest := []) ⟨hx, hb, hml, hown, hts⟩ (c_M_isInN l a4 1 100000 (by omega) (by decide) (by decide)) (cwS 3 hts (gw_S k_539 k_537 k_538 k_6) rfl rfl rfl (by decide +kernel) ⟨Nat.le_trans (Nat.le_of_ble_eq_true rfl) hfr, Nat.le_trans (Nat.le_of_ble_eq_true rfl) hlo⟩) ⟨pr_blind, pr_at hC (fun k q h => by simp at h)⟩ rfl rfl hl.1 rfl (lv_room (Nat.le_of_ble_eq_true rfl)) d_M_type_45 ⟨hce, hsl⟩) (fun r9 h9 => ?_)
          subst h9
          refine nx_b_eq (tgt := 55) hx hb d_M_type_48 (by decide) (fun h4 => ?_) (fun h4 => ?_)
          · exact absurd ha4 h4
          · refine lv_iconst (v := nI 1) hx hb d_M_type_51 (by decide) ?_
            refine lv_goto (tgt := 56) hx hb d_M_type_52 (by decide) ?_
            refine lv_istore (lv' := [(6, .int (nI 1)), (0, .ref (q 0)), (1, .int (nI a0)), (2, .int (nI a1)), (3, .int (nI a2)), (4, .int (nI a3)), (5, .int (nI a4))]) hx hb d_M_type_56 hl (by decide) rfl (fun ls hl => ?_)
            refine lv_aload_n hx hb d_M_type_58 rfl (lv_at hl 1 rfl) ?_
            refine lv_iload hx hb d_M_type_59 (lv_at hl 0 rfl) ?_
            refine nx_if_ne (tgt := 68) hx hb d_M_type_61 (by decide) (by omega) (fun h8 => ?_) (fun h8 => ?_)
            · refine lv_aload_n hx hb d_M_type_68 rfl (lv_at hl 1 rfl) ?_
              refine va_get (D := (dC, dI)) (ci := 6) (v := .int (nI nt)) (C := R_M) (T := F_M) (N := 17) hx hb hts i_M hown hK hP 0 rfl rfl 9 (by decide) (hts _ k_486) (fun _ h9 => h9) rfl d_M_type_69 ?_
              refine lv_bipush (v := nI 6) hx hb d_M_type_72 (by decide) ?_
              refine nx_icmp_ne (tgt := 81) hx hb d_M_type_74 (by decide) (by omega) (by omega) (fun h7 => ?_) (fun h7 => ?_)
              · refine lv_iconst (v := nI 0) hx hb d_M_type_81 (by decide) ?_
                refine va_put (D := (dC, dI)) (ci := 6) (v := .int (nI 0)) (ty := (.int)) (C := R_M) (T := F_M) (N := 17) hx hb hts i_M ft_M ft_M_ok n_M hown hK hP hD hS 0 rfl rfl 0 (by decide) (hts _ k_477) (fun _ h9 => h9) rfl (by decide +kernel) rfl rfl (Nat.le_of_ble_eq_true rfl) d_M_type_82 (fun H locs hP hD hS => ?_)
                have hP : va_P (dC, dI) vwCl [(q 0, .inr (6, (mF q (nI 0) F nt ab be))), (q 4, .inl (cI, 6, .inl (fun j => nI (rm j)))), (q 5, .inl (cI, 6, .inl (fun j => nI (sd j)))), (q 6, .inl (cI, 6, .inl (fun j => nI (dr j)))), (q 7, .inl (cI, 6, .inl (fun j => nI (pe j)))), (q 8, .inl (cI, 6, .inl (fun j => nI (ce j))))] H := hP
                have hD : va_D A [(q 0, .inr (6, (mF q (nI 0) F nt ab be))), (q 4, .inl (cI, 6, .inl (fun j => nI (rm j)))), (q 5, .inl (cI, 6, .inl (fun j => nI (sd j)))), (q 6, .inl (cI, 6, .inl (fun j => nI (dr j)))), (q 7, .inl (cI, 6, .inl (fun j => nI (pe j)))), (q 8, .inl (cI, 6, .inl (fun j => nI (ce j))))] := hD
                refine lv_aload_n hx hb d_M_type_85 rfl (lv_at hl 1 rfl) ?_
                refine va_get (D := (dC, dI)) (ci := 6) (v := .int (nI 0)) (C := R_M) (T := F_M) (N := 17) hx hb hts i_M hown hK hP 0 rfl rfl 0 (by decide) (hts _ k_477) (fun _ h9 => h9) rfl d_M_type_86 ?_
                refine nx_if_le (tgt := 94) hx hb d_M_type_89 (by decide) (by omega) (fun h9 => ?_) (fun h9 => ?_)
                · refine lv_aload_n hx hb d_M_type_94 rfl (lv_at hl 1 rfl) ?_
                  refine va_get (D := (dC, dI)) (ci := 6) (v := .ref (q 4)) (C := R_M) (T := F_M) (N := 17) hx hb hts i_M hown hK hP 0 rfl rfl 4 (by decide) (hts _ k_481) (fun _ h9 => h9) rfl d_M_type_95 ?_
                  refine lv_aload_n hx hb d_M_type_98 rfl (lv_at hl 1 rfl) ?_
                  refine va_get (D := (dC, dI)) (ci := 6) (v := .int (nI nt)) (C := R_M) (T := F_M) (N := 17) hx hb hts i_M hown hK hP 0 rfl rfl 9 (by decide) (hts _ k_486) (fun _ h9 => h9) rfl d_M_type_99 ?_
                  refine lv_iload_n hx hb d_M_type_102 rfl (lv_at hl 2 rfl) ?_
                  refine nx_iast hx hb hK hP hD hS 1 0 rfl rfl (k := nt) (x := nI a0) (by omega) (by decide) d_M_type_103 (fun H locs hP hD hS => ?_)
                  have hP : va_P (dC, dI) vwCl [(q 0, .inr (6, (mF q (nI 0) F nt ab be))), (q 4, .inl (cI, 6, .inl (upd (fun j => nI (rm j)) (nt) (nI a0)))), (q 5, .inl (cI, 6, .inl (fun j => nI (sd j)))), (q 6, .inl (cI, 6, .inl (fun j => nI (dr j)))), (q 7, .inl (cI, 6, .inl (fun j => nI (pe j)))), (q 8, .inl (cI, 6, .inl (fun j => nI (ce j))))] H := hP
                  have hD : va_D A [(q 0, .inr (6, (mF q (nI 0) F nt ab be))), (q 4, .inl (cI, 6, .inl (upd (fun j => nI (rm j)) (nt) (nI a0)))), (q 5, .inl (cI, 6, .inl (fun j => nI (sd j)))), (q 6, .inl (cI, 6, .inl (fun j => nI (dr j)))), (q 7, .inl (cI, 6, .inl (fun j => nI (pe j)))), (q 8, .inl (cI, 6, .inl (fun j => nI (ce j))))] := hD
                  rw [up_eq] at hP hD
                  refine lv_aload_n hx hb d_M_type_104 rfl (lv_at hl 1 rfl) ?_
                  refine va_get (D := (dC, dI)) (ci := 6) (v := .ref (q 5)) (C := R_M) (T := F_M) (N := 17) hx hb hts i_M hown hK hP 0 rfl rfl 5 (by decide) (hts _ k_482) (fun _ h9 => h9) rfl d_M_type_105 ?_
                  refine lv_aload_n hx hb d_M_type_108 rfl (lv_at hl 1 rfl) ?_
                  refine va_get (D := (dC, dI)) (ci := 6) (v := .int (nI nt)) (C := R_M) (T := F_M) (N := 17) hx hb hts i_M hown hK hP 0 rfl rfl 9 (by decide) (hts _ k_486) (fun _ h9 => h9) rfl d_M_type_109 ?_
                  refine lv_iload_n hx hb d_M_type_112 rfl (lv_at hl 3 rfl) ?_
                  refine nx_iast hx hb hK hP hD hS 2 0 rfl rfl (k := nt) (x := nI a1) (by omega) (by decide) d_M_type_113 (fun H locs hP hD hS => ?_)
                  have hP : va_P (dC, dI) vwCl [(q 0, .inr (6, (mF q (nI 0) F nt ab be))), (q 4, .inl (cI, 6, .inl (fun j => nI ((up rm nt a0) j)))), (q 5, .inl (cI, 6, .inl (upd (fun j => nI (sd j)) (nt) (nI a1)))), (q 6, .inl (cI, 6, .inl (fun j => nI (dr j)))), (q 7, .inl (cI, 6, .inl (fun j => nI (pe j)))), (q 8, .inl (cI, 6, .inl (fun j => nI (ce j))))] H := hP
                  have hD : va_D A [(q 0, .inr (6, (mF q (nI 0) F nt ab be))), (q 4, .inl (cI, 6, .inl (fun j => nI ((up rm nt a0) j)))), (q 5, .inl (cI, 6, .inl (upd (fun j => nI (sd j)) (nt) (nI a1)))), (q 6, .inl (cI, 6, .inl (fun j => nI (dr j)))), (q 7, .inl (cI, 6, .inl (fun j => nI (pe j)))), (q 8, .inl (cI, 6, .inl (fun j => nI (ce j))))] := hD
                  rw [up_eq] at hP hD
                  refine lv_aload_n hx hb d_M_type_114 rfl (lv_at hl 1 rfl) ?_
                  refine va_get (D := (dC, dI)) (ci := 6) (v := .ref (q 6)) (C := R_M) (T := F_M) (N := 17) hx hb hts i_M hown hK hP 0 rfl rfl 6 (by decide) (hts _ k_483) (fun _ h9 => h9) rfl d_M_type_115 ?_
                  refine lv_aload_n hx hb d_M_type_118 rfl (lv_at hl 1 rfl) ?_
                  refine va_get (D := (dC, dI)) (ci := 6) (v := .int (nI nt)) (C := R_M) (T := F_M) (N := 17) hx hb hts i_M hown hK hP 0 rfl rfl 9 (by decide) (hts _ k_486) (fun _ h9 => h9) rfl d_M_type_119 ?_
                  refine lv_iload_n hx hb d_M_type_122 rfl (lv_at hl 4 rfl) ?_
                  refine nx_iast hx hb hK hP hD hS 3 0 rfl rfl (k := nt) (x := nI a2) (by omega) (by decide) d_M_type_123 (fun H locs hP hD hS => ?_)
                  have hP : va_P (dC, dI) vwCl [(q 0, .inr (6, (mF q (nI 0) F nt ab be))), (q 4, .inl (cI, 6, .inl (fun j => nI ((up rm nt a0) j)))), (q 5, .inl (cI, 6, .inl (fun j => nI ((up sd nt a1) j)))), (q 6, .inl (cI, 6, .inl (upd (fun j => nI (dr j)) (nt) (nI a2)))), (q 7, .inl (cI, 6, .inl (fun j => nI (pe j)))), (q 8, .inl (cI, 6, .inl (fun j => nI (ce j))))] H := hP
                  have hD : va_D A [(q 0, .inr (6, (mF q (nI 0) F nt ab be))), (q 4, .inl (cI, 6, .inl (fun j => nI ((up rm nt a0) j)))), (q 5, .inl (cI, 6, .inl (fun j => nI ((up sd nt a1) j)))), (q 6, .inl (cI, 6, .inl (upd (fun j => nI (dr j)) (nt) (nI a2)))), (q 7, .inl (cI, 6, .inl (fun j => nI (pe j)))), (q 8, .inl (cI, 6, .inl (fun j => nI (ce j))))] := hD
                  rw [up_eq] at hP hD
                  refine lv_aload_n hx hb d_M_type_124 rfl (lv_at hl 1 rfl) ?_
                  refine va_get (D := (dC, dI)) (ci := 6) (v := .ref (q 7)) (C := R_M) (T := F_M) (N := 17) hx hb hts i_M hown hK hP 0 rfl rfl 7 (by decide) (hts _ k_484) (fun _ h9 => h9) rfl d_M_type_125 ?_
                  refine lv_aload_n hx hb d_M_type_128 rfl (lv_at hl 1 rfl) ?_
                  refine va_get (D := (dC, dI)) (ci := 6) (v := .int (nI nt)) (C := R_M) (T := F_M) (N := 17) hx hb hts i_M hown hK hP 0 rfl rfl 9 (by decide) (hts _ k_486) (fun _ h9 => h9) rfl d_M_type_129 ?_
                  refine lv_iload hx hb d_M_type_132 (lv_at hl 5 rfl) ?_
                  refine nx_iast hx hb hK hP hD hS 4 0 rfl rfl (k := nt) (x := nI a3) (by omega) (by decide) d_M_type_134 (fun H locs hP hD hS => ?_)
                  have hP : va_P (dC, dI) vwCl [(q 0, .inr (6, (mF q (nI 0) F nt ab be))), (q 4, .inl (cI, 6, .inl (fun j => nI ((up rm nt a0) j)))), (q 5, .inl (cI, 6, .inl (fun j => nI ((up sd nt a1) j)))), (q 6, .inl (cI, 6, .inl (fun j => nI ((up dr nt a2) j)))), (q 7, .inl (cI, 6, .inl (upd (fun j => nI (pe j)) (nt) (nI a3)))), (q 8, .inl (cI, 6, .inl (fun j => nI (ce j))))] H := hP
                  have hD : va_D A [(q 0, .inr (6, (mF q (nI 0) F nt ab be))), (q 4, .inl (cI, 6, .inl (fun j => nI ((up rm nt a0) j)))), (q 5, .inl (cI, 6, .inl (fun j => nI ((up sd nt a1) j)))), (q 6, .inl (cI, 6, .inl (fun j => nI ((up dr nt a2) j)))), (q 7, .inl (cI, 6, .inl (upd (fun j => nI (pe j)) (nt) (nI a3)))), (q 8, .inl (cI, 6, .inl (fun j => nI (ce j))))] := hD
                  rw [up_eq] at hP hD
                  refine lv_aload_n hx hb d_M_type_135 rfl (lv_at hl 1 rfl) ?_
                  refine va_get (D := (dC, dI)) (ci := 6) (v := .ref (q 8)) (C := R_M) (T := F_M) (N := 17) hx hb hts i_M hown hK hP 0 rfl rfl 8 (by decide) (hts _ k_485) (fun _ h9 => h9) rfl d_M_type_136 ?_
                  refine lv_aload_n hx hb d_M_type_139 rfl (lv_at hl 1 rfl) ?_
                  refine va_get (D := (dC, dI)) (ci := 6) (v := .int (nI nt)) (C := R_M) (T := F_M) (N := 17) hx hb hts i_M hown hK hP 0 rfl rfl 9 (by decide) (hts _ k_486) (fun _ h9 => h9) rfl d_M_type_140 ?_
                  refine lv_iload hx hb d_M_type_143 (lv_at hl 6 rfl) ?_
                  refine nx_iast hx hb hK hP hD hS 5 0 rfl rfl (k := nt) (x := nI a4) (by omega) (by decide) d_M_type_145 (fun H locs hP hD hS => ?_)
                  have hP : va_P (dC, dI) vwCl [(q 0, .inr (6, (mF q (nI 0) F nt ab be))), (q 4, .inl (cI, 6, .inl (fun j => nI ((up rm nt a0) j)))), (q 5, .inl (cI, 6, .inl (fun j => nI ((up sd nt a1) j)))), (q 6, .inl (cI, 6, .inl (fun j => nI ((up dr nt a2) j)))), (q 7, .inl (cI, 6, .inl (fun j => nI ((up pe nt a3) j)))), (q 8, .inl (cI, 6, .inl (upd (fun j => nI (ce j)) (nt) (nI a4))))] H := hP
                  have hD : va_D A [(q 0, .inr (6, (mF q (nI 0) F nt ab be))), (q 4, .inl (cI, 6, .inl (fun j => nI ((up rm nt a0) j)))), (q 5, .inl (cI, 6, .inl (fun j => nI ((up sd nt a1) j)))), (q 6, .inl (cI, 6, .inl (fun j => nI ((up dr nt a2) j)))), (q 7, .inl (cI, 6, .inl (fun j => nI ((up pe nt a3) j)))), (q 8, .inl (cI, 6, .inl (upd (fun j => nI (ce j)) (nt) (nI a4))))] := hD
                  rw [up_eq] at hP hD
                  refine lv_aload_n hx hb d_M_type_146 rfl (lv_at hl 1 rfl) ?_
                  refine lv_dup hx hb d_M_type_147 rfl ?_
                  refine va_get (D := (dC, dI)) (ci := 6) (v := .int (nI nt)) (C := R_M) (T := F_M) (N := 17) hx hb hts i_M hown hK hP 0 rfl rfl 9 (by decide) (hts _ k_486) (fun _ h9 => h9) rfl d_M_type_148 ?_
                  refine lv_iconst (v := nI 1) hx hb d_M_type_151 (by decide) ?_
                  refine nx_iadd hx hb d_M_type_152 ?_
                  refine va_put (D := (dC, dI)) (ci := 6) (v := .int (nI (nt + 1))) (ty := (.int)) (C := R_M) (T := F_M) (N := 17) hx hb hts i_M ft_M ft_M_ok n_M hown hK hP hD hS 0 rfl rfl 9 (by decide) (hts _ k_486) (fun _ h9 => h9) rfl (by decide +kernel) rfl rfl (Nat.le_of_ble_eq_true rfl) d_M_type_153 (fun H locs hP hD hS => ?_)
                  have hP : va_P (dC, dI) vwCl [(q 0, .inr (6, (mF q (nI 0) F (nt + 1) ab be))), (q 4, .inl (cI, 6, .inl (fun j => nI ((up rm nt a0) j)))), (q 5, .inl (cI, 6, .inl (fun j => nI ((up sd nt a1) j)))), (q 6, .inl (cI, 6, .inl (fun j => nI ((up dr nt a2) j)))), (q 7, .inl (cI, 6, .inl (fun j => nI ((up pe nt a3) j)))), (q 8, .inl (cI, 6, .inl (fun j => nI ((up ce nt a4) j))))] H := hP
                  have hD : va_D A [(q 0, .inr (6, (mF q (nI 0) F (nt + 1) ab be))), (q 4, .inl (cI, 6, .inl (fun j => nI ((up rm nt a0) j)))), (q 5, .inl (cI, 6, .inl (fun j => nI ((up sd nt a1) j)))), (q 6, .inl (cI, 6, .inl (fun j => nI ((up dr nt a2) j)))), (q 7, .inl (cI, 6, .inl (fun j => nI ((up pe nt a3) j)))), (q 8, .inl (cI, 6, .inl (fun j => nI ((up ce nt a4) j))))] := hD
                  refine lv_aload_n hx hb d_M_type_156 rfl (lv_at hl 1 rfl) ?_
                  refine va_get (D := (dC, dI)) (ci := 6) (v := .int (nI (nt + 1))) (C := R_M) (T := F_M) (N := 17) hx hb hts i_M hown hK hP 0 rfl rfl 9 (by decide) (hts _ k_486) (fun _ h9 => h9) rfl d_M_type_157 ?_
                  refine lv_iconst (v := nI 1) hx hb d_M_type_160 (by decide) ?_
                  refine nx_isub hx hb d_M_type_161 (by omega) ?_
                  rw [Nat.add_sub_cancel]
                  exact W.iret hx hb hr (fun t ht hW => ⟨⟨_, (), rfl, rfl, by rw [ht]; exact hP, hD⟩, hS.F ht⟩) hS.2.2 d_M_type_162
                · exact absurd h9 (by omega)
              · exact absurd h7 (by omega)
            · exact absurd h8 (by omega)
end
