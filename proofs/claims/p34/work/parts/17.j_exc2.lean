section
/-! throwing NoSuchElementException, whose constructor (a text) goes on by an entry of its own: the rows of EXCEPTIONS (vx_ctorMadeS, vx_makeS) turned to that -/
section VYK
variable {p : Program} {l : Launch} {e : Env} {R : Room} {s : State} {m₀ : MethodId} {args : Array Value} {below : List Frame} {meth : Method} {c : Code} {W : State} {locs : List Loc} {cells slots : Nat}
def vyA (own : String) (ic ix : Nat) (rx : ByteArray) (X Y : String) (names : List String) : List Cond :=
  Bundle.throwableAtoms ++ Bundle.throwableSAtoms ++ Bundle.passSAtoms X Y ix rx ++ Bundle.chainSAtoms Y names ++
  ((Bundle.ownAtoms own ic X []).drop (Bundle.throwableAtoms.length + Bundle.throwableSAtoms.length + (Bundle.chainSAtoms X []).length))
theorem vyA_own {own : String} {ic ix : Nat} {rx : ByteArray} {X Y : String} {names : List String} : vyA own ic ix rx X Y names = Bundle.throwableAtoms ++ Bundle.throwableSAtoms ++ Bundle.passSAtoms X Y ix rx ++ Bundle.chainSAtoms Y names ++
  [.methodLink own ic (Bundle.initS X), .instantiable X 6, .castable X X, .selects X Bundle.tFill0 Bundle.tFill0, .selects X Bundle.tFill Bundle.tFill,
   .lays X Bundle.tN "cause" "Ljava/lang/Throwable;", .lays X Bundle.tN "stackTrace" Bundle.steD, .lays X Bundle.tN "suppressedExceptions" Bundle.listD, .lays X Bundle.tN "detailMessage" "Ljava/lang/String;",
   .isRef (.static Bundle.tN "UNASSIGNED_STACK" Bundle.steD), .isRef (.static Bundle.tN "SUPPRESSED_SENTINEL" Bundle.listD),
   .fieldLink Bundle.tN 198 Bundle.tN "backtrace" "Ljava/lang/Object;", .lays Bundle.tN Bundle.tN "backtrace" "Ljava/lang/Object;", .lays X Bundle.tN "backtrace" "Ljava/lang/Object;"] := by
  unfold vyA Bundle.ownAtoms
  congr 1
set_option maxHeartbeats 2000000 in
theorem vy_ctorMadeS (X : Stand p l e R s m₀ args below meth c W locs cells slots) (hexec : p.tables.exec = Jvm.exec) (htr : e.platform.stackTraces = false) {own cls Y9 : String} {names : List String} {ic ix : Nat} {rx : ByteArray}
    (hown : s.vm.findClass own = some m₀.cls) (hcls : Bundle.fit cls = true) (hY : Bundle.fit Y9 = true) (hnames : ∀ n ∈ names, Bundle.fit n = true) (r0 : decode rx 0 = .ok (.aload_n 0, 1)) (r1 : decode rx 1 = .ok (.aload_n 1, 1)) (r2 : decode rx 2 = .ok (.invokespecial ix, 3)) (r5 : decode rx 5 = .ok (.return_, 1))
    (h : ∀ a ∈ vyA own ic ix rx cls Y9 names, a.before args s = true)
    (hlocs : ∀ x ∈ locs, ∀ cell, s.heap[x.base]? = some cell → cell.vm.isStatics = false)
    {a : Addr} {cX : ClassId} {kX : Class} (hfoundX : s.vm.findClass cls = some cX) (hkX : s.vm.classes[cX]? = some kX) (hcell : W.heap[a]? = some (freshCell cX kX)) (hnew : s.heap.size ≤ a)
    {msg : Value} (hmsg : msg.isRef = true)
    {g : JFrame} (hg : g.method = m₀) (hsize : g.locals.size = c.maxLocals) {rest : List Value} (hstack : g.stack = msg :: .ref a :: .ref a :: rest)
    (hd6 : decode c.code g.pc = .ok (.invokespecial ic, 3))
    (hRframes : names.length + 1 + 3 < R.frames) (hRlocals : 2 * g.monitorRoom + ((Value.ref a :: rest).map fun v => v.category).sum + (13 * (names.length + 1 + 1) + 42) ≤ R.locals) :
    ∃ (V : State) (ce : Cell) (L : List Loc), Stand p l e R s m₀ args below meth c (V.setCell a ce) (locs ++ L) cells slots ∧ (∀ y ∈ L, y.base = a) ∧ a < V.heap.size ∧ ce.cls = cX ∧ ce.vm = .none ∧
      ∀ target, Steps p.tables e below ((V.setCell a ce).setTop { g with stack := .ref a :: rest, pc := g.pc + 3 }) target → Steps p.tables e below (W.setTop g) target := by
  have howns : e.platform.frameOwnsMonitors = true := by rw [X.admits.platform]
  have hfin : e.platform.finalization = false := by rw [X.admits.platform]
  have hpl : e.platform.magicAccessors = ({} : Platform).magicAccessors := by rw [X.admits.platform]
  have a' : ∀ x, x ∈ vyA own ic ix rx cls Y9 names → x.holds args s none s [] = true := fun x hx => h x hx
  obtain ⟨T, Z0, L, -, Y⟩ := ThrowableC.of_atoms (args := args) howns hfin hpl (fun x hx => h x (by simp [vyA_own, hx]))
  obtain ⟨Z, M, LZ, LM, hnZ⟩ := Init0T.ofS_atoms (args := args) hpl L Y (fun x hx => h x (by simp [vyA_own, hx]))
  obtain ⟨P1, L1, hP1m, hs1⟩ := PassC.ofS_atoms (args := args) (s := s) hpl (X := cls) (Y := Y9) (Bundle.fit_spec hcls).1 (Bundle.fit_spec hY).2 r0 r1 r2 r5 (fun x hx => h x (by simp [vyA_own, hx]))
  obtain ⟨P2, Ps2, hlen2, L2, hL2, hP2m, hlink21, hlink2⟩ := Bundle.chainS (args := args) hpl hnZ names Y9 hY hnames (fun x hx => h x (by simp [vyA_own, hx]))
  have hlen : (P2 :: Ps2).length = names.length + 1 := by rw [List.length_cons, hlen2]
  have hL : ∀ P, P ∈ P2 :: Ps2 → P.LinksS e.platform s := fun P hP => by
    rcases List.mem_cons.mp hP with rfl | hP
    · exact L2
    · exact hL2 P hP
  have hfound : s.vm.findClass cls = some P1.m.cls := findClass_of_methodNamed hP1m
  cases Option.some.inj (hfoundX.symm.trans hfound)
  obtain ⟨c1, kX', hc1, hk, hord, -, -, hn6⟩ := Cond.instantiable_spec (a' (.instantiable cls 6) (by simp [vyA_own]))
  cases Option.some.inj (hc1.symm.trans hfound)
  cases Option.some.inj (hkX.symm.trans hk)
  have hsel0 : selectMethod e.platform s.vm P1.m.cls T.fill0 = .method T.fill0 := by
    obtain ⟨c2, r2, m2, q1, q2, q3, q4, -⟩ := Cond.selects_spec (a' (.selects cls Bundle.tFill0 Bundle.tFill0) (by simp [vyA_own]))
    cases Option.some.inj (q1.symm.trans hfound)
    cases Option.some.inj (q2.symm.trans (State.methodFound?_of_named Y.fill0 (by decide)))
    cases Option.some.inj (q3.symm.trans Y.fill0)
    rw [Launch.admits_selectMethod X.admits]; exact q4
  have hselF : selectMethod e.platform s.vm P1.m.cls T.fill = .method T.fill := by
    obtain ⟨c2, r2, m2, q1, q2, q3, q4, -⟩ := Cond.selects_spec (a' (.selects cls Bundle.tFill Bundle.tFill) (by simp [vyA_own]))
    cases Option.some.inj (q1.symm.trans hfound)
    cases Option.some.inj (q2.symm.trans (State.methodFound?_of_named Y.fill (by decide)))
    cases Option.some.inj (q3.symm.trans Y.fill)
    rw [Launch.admits_selectMethod X.admits]; exact q4
  obtain ⟨cellS0, hcS0, hiss⟩ := Y.statics
  obtain ⟨u0, hu0⟩ := Cond.staticRefV Y.unassigned L.unassignedStatic L.statics hcS0 hiss (a' (.isRef (.static Bundle.tN "UNASSIGNED_STACK" Bundle.steD)) (by simp [vyA_own]))
  obtain ⟨sen, hsen⟩ := Cond.staticRefV Y.sentinel L.sentinelStatic L.statics hcS0 hiss (a' (.isRef (.static Bundle.tN "SUPPRESSED_SENTINEL" Bundle.listD)) (by simp [vyA_own]))
  obtain ⟨ci198, i198, fB, hk198, hg198, ha198, hsB, -, hnB, htB, hffB⟩ := Cond.ownField (t := .object "java/lang/Object") Y.found L.cls (by decide +kernel) (a' (.fieldLink Bundle.tN 198 Bundle.tN "backtrace" "Ljava/lang/Object;") (by simp [vyA_own])) (a' (.lays Bundle.tN Bundle.tN "backtrace" "Ljava/lang/Object;") (by simp [vyA_own])) e.platform hpl
  obtain ⟨cellS, hcS', heS, -, hkeep⟩ := X.same.2.2.2.2.2 T.aS cellS0 hcS0
  have hcellS : W.heap[T.aS]? = some cellS := hcS'
  have hout' : ∀ i, (⟨T.aS, i⟩ : Loc) ∉ locs := fun i hmem => by
    have := hlocs _ hmem cellS0 hcS0
    rw [hiss] at this; cases this
  have hknownS : cellS.vm ≠ .unknown := by
    rw [heS]; intro hu
    rw [show cellS0.vm = .unknown from hu] at hiss
    cases hiss
  have hneS : T.aS ≠ a := Nat.ne_of_lt (Nat.lt_of_lt_of_le (Array.getElem?_eq_some_iff.mp hcS0).1 hnew)
  obtain ⟨iM, hffM⟩ := Y.msg
  obtain ⟨tyC, dC, hdC, hdnC⟩ := Cond.laysAt hfound hk Y.cause (a' (.lays cls Bundle.tN "cause" "Ljava/lang/Throwable;") (by simp [vyA_own]))
  obtain ⟨tyS, dS, hdS, hdnS⟩ := Cond.laysAt hfound hk Y.stack (a' (.lays cls Bundle.tN "stackTrace" Bundle.steD) (by simp [vyA_own]))
  obtain ⟨tyP, dP, hdP, hdnP⟩ := Cond.laysAt hfound hk Y.supp (a' (.lays cls Bundle.tN "suppressedExceptions" Bundle.listD) (by simp [vyA_own]))
  obtain ⟨tyM, dM, hdM, hdnM⟩ := Cond.laysAt hfound hk hffM (a' (.lays cls Bundle.tN "detailMessage" "Ljava/lang/String;") (by simp [vyA_own]))
  obtain ⟨tyB, dB, hdB, hdnB⟩ := Cond.laysAt hfound hk hffB (a' (.lays cls Bundle.tN "backtrace" "Ljava/lang/Object;") (by simp [vyA_own]))
  have bC := Cond.laysApart hdB hdC hdnB hdnC (by rw [hnB, Y.causeName]; decide)
  have bS := Cond.laysApart hdB hdS hdnB hdnS (by rw [hnB, Y.stackName]; decide)
  have bP := Cond.laysApart hdB hdP hdnB hdnP (by rw [hnB, Y.suppName]; decide)
  have hskip : SkipFacts T e.platform s (fun u => u) u0 ((preparedCellV T.toThrowableT (freshCell P1.m.cls kX) a u0 sen).withEntry W.cur) :=
    ⟨{ ci198 := ci198, i198 := i198, fBack := fB }, ⟨hk198, hg198, ha198, hsB⟩, by
      have := fresh_default (c := P1.m.cls) tyB
      rw [htB] at this
      simpa [preparedCellV, Cell.setSlot, Cell.withEntry, Array.getElem?_setIfInBounds, bC, bS, bP, bC.symm, bS.symm, bP.symm, defaultValue] using this, fun _ _ => rfl⟩
  obtain ⟨tm, methC, cdC, kC, vm₁, hnC, -, -, -, -, -, -, -, hW₁, st1⟩ := Steps.initColdS (tb := p.tables) (e := e) (below := below) (s := s) (U := W) X.here hexec X.warmed hpl hown (t := Bundle.initS cls) rfl rfl (Bundle.fit_spec hcls).2
    (a' (.methodLink own ic (Bundle.initS cls)) (by simp [vyA_own])) (h (.instanceMethod (Bundle.initS cls)) (by simp [vyA_own, Bundle.passSAtoms])) (bytes := rx) (maxL := 2) (h (.code (Bundle.initS cls) rx 2 none) (by simp [vyA_own, Bundle.passSAtoms]))
    (f := g) hg (a := a) (msg := msg) (rest := .ref a :: rest) hstack hd6
  cases Option.some.inj (hnC.symm.trans hP1m)
  have X₁ := X.noted hW₁
  obtain ⟨vm₂, X₂, st2⟩ := X₁.ctorMessageOffV hexec (g := { g with stack := .ref a :: rest }) hg hsize T L Z LZ M LM (P1 :: P2 :: Ps2)
    (fun P hP => by rcases List.mem_cons.mp hP with rfl | hP; exact L1; exact hL P hP) ⟨Option.some.inj (hs1.symm.trans hP2m), hlink21, hlink2⟩ (u0 := u0) (sen := sen) (self := a) hmsg (cell := freshCell P1.m.cls kX) (cellS := cellS)
    hcell (fun _ => by simp) (by simp) rfl rfl hsel0 hselF hcellS hneS hknownS (by rw [hkeep _ (hout' _)]; exact hu0) (by rw [hkeep _ (hout' _)]; exact hsen)
    (Takes.of_laid hk hord tyC (by rw [Y.causeType]; rfl)) (Takes.of_laid hk hord tyS (by rw [Y.stackType]; exact fits_refV_array _ u0)) (Takes.of_laid hk hord tyP (by rw [Y.suppType]; exact fits_refV_object _ sen))
    (Takes.of_laid hk hord tyM (by rw [Y.msgType]; exact fits_refV_object _ ⟨msg, hmsg⟩)) Y.objLocals hskip htr [] hd6
    (by simp only [List.length_cons, hlen2]; omega) (by simp only [List.length_cons, hlen2]; exact hRlocals)
  have hlt : a < ((W.setVm vm₁).setVm vm₂).heap.size := (Array.getElem?_eq_some_iff.mp hcell).1
  refine ⟨(W.setVm vm₁).setVm vm₂, _, _, X₂, fun y hy => ?_, hlt, rfl, rfl, fun target hwalk => st1 _ (fun acts => ?_)⟩
  · simp only [List.mem_cons, List.not_mem_nil, or_false] at hy
    rcases hy with rfl | rfl | rfl | rfl | rfl <;> rfl
  · rw [doInvoke_state]
    exact st2 _ hwalk
end VYK
section VYK2
variable {p : Program} {l : Launch} {e : Env} {R : Room} {s : State} {m : MethodId} {args : Array Value} {below : List Frame} {meth : Method} {c : Code} {H : Heap} {locs : List Loc} {cells slots : Nat} {Q : State → Prop}
variable {ls : Array Slot} {rest : List Value}
set_option maxHeartbeats 2000000 in
theorem vy_makeS {cc : ByteArray} {pc : Nat} (hexec : p.tables.exec = Jvm.exec) (hb : c.code = cc) (hl : l.stackTraces = false) {own cls Y9 text : String} {names : List String} {ik is ic ix sa : Nat} {rx : ByteArray} {A : Nat → Prop}
    (hown : s.vm.findClass own = some m.cls) (hcls : Bundle.fit cls = true) (hY : Bundle.fit Y9 = true) (hnames : ∀ n ∈ names, Bundle.fit n = true) (r0 : decode rx 0 = .ok (.aload_n 0, 1)) (r1 : decode rx 1 = .ok (.aload_n 1, 1)) (r2 : decode rx 2 = .ok (.invokespecial ix, 3)) (r5 : decode rx 5 = .ok (.return_, 1))
    (hk : (Cond.classLink own ik cls).before args s = true) (hini : (Cond.initialized cls).before args s = true) (hstr : vk_R own is text sa s) (hat : ∀ w ∈ (vyA own ic ix rx cls Y9 names).filter vx_no, w.before args s = true)
    (hgood : ∀ w ∈ Cond.classLink own ik cls :: Cond.initialized cls :: (vyA own ic ix rx cls Y9 names).filter vx_no, vx_ot w = true)
    (hU : vx_Zq Bundle.tN "UNASSIGNED_STACK" Bundle.steD A s s.heap) (hN : vx_Zq Bundle.tN "SUPPRESSED_SENTINEL" Bundle.listD A s s.heap) (hS : va_S A s.heap H locs) (hsize : ls.size = c.maxLocals)
    (d0 : decode cc pc = .ok (.new ik, 3)) (d3 : decode cc (pc + 3) = .ok (.dup, 1)) (d4 : decode cc (pc + 4) = .ok (.ldc is, 2)) (d6 : decode cc (pc + 6) = .ok (.invokespecial ic, 3))
    (hRframes : names.length + 1 + 3 < R.frames) (hRlocals : (rest.map fun v => v.category).sum + (13 * (names.length + 1 + 1) + 43) ≤ R.locals) (hRcells : cells + 1 ≤ R.cells) (hRslots : slots + 6 ≤ R.slots)
    (kk : ∀ (q : Nat) (H1 : Heap) (ce : Cell), H1[q]? = some ce → ce.vm = .none → s.vm.findClass cls = some ce.cls → H.size ≤ H1.size → (∀ x, x < H.size → H1[x]? = H[x]?) → W p l e R s m args below meth c H1 locs (cells + 1) (slots + 6) Q (F0 m (pc + 9) ls (.ref q :: rest))) :
    W p l e R s m args below meth c H locs cells slots Q (F0 m pc ls rest) := by
  intro T hT X
  subst hT
  have htr : e.platform.stackTraces = false := (show e.platform.stackTraces = l.stackTraces by rw [X.admits.platform]).trans hl
  have Y := vx_rebase X (R' := { frames := R.frames, locals := R.locals, cells := 1, slots := 6 }) (Nat.le_refl _) (Nat.le_refl _) hRcells hRslots
  obtain ⟨s', hA'⟩ : ∃ z, z = (T.setVm s.vm).setFrames (.invoking m args :: below) := ⟨_, rfl⟩
  rw [← hA'] at Y
  have hvm : s'.vm = s.vm := by rw [hA']; rfl
  have hhp : s'.heap = T.heap := by rw [hA']; rfl
  have hW0 : s.WarmedH s'.vm := by rw [hvm]; exact State.WarmedH.refl s
  have hat' : ∀ w ∈ (vyA own ic ix rx cls Y9 names).filter vx_no, w.before args s' = true := fun w hw => vx_ot_at hW0 hvm.symm (hgood w (List.mem_cons_of_mem _ (List.mem_cons_of_mem _ hw))) (hat w hw)
  have hk' : (Cond.classLink own ik cls).before args s' = true := vx_ot_at hW0 hvm.symm (hgood _ List.mem_cons_self) hk
  have hini' : (Cond.initialized cls).before args s' = true := vx_ot_at hW0 hvm.symm (hgood _ (List.mem_cons_of_mem _ List.mem_cons_self)) hini
  have hU' : vx_Zq Bundle.tN "UNASSIGNED_STACK" Bundle.steD A s' s'.heap := by rw [hhp]; exact vx_Zq.moved hW0.alike (hU.kept hS.2.1)
  have hN' : vx_Zq Bundle.tN "SUPPRESSED_SENTINEL" Bundle.listD A s' s'.heap := by rw [hhp]; exact vx_Zq.moved hW0.alike (hN.kept hS.2.1)
  have h : ∀ w ∈ vyA own ic ix rx cls Y9 names, w.before args s' = true := vx_own hat' (vx_isRefq hU'.1) (vx_isRefq hN'.1) hU'.2.word hN'.2.word
  have hown' : s'.vm.findClass own = some m.cls := by rw [hvm]; exact hown
  have hins : (Cond.instantiable cls 6).before args s' = true := h _ (by simp [vyA_own])
  obtain ⟨vm₁, cX, kX, hfX, hkX, -, -, X₁, st1⟩ := Y.newCold hexec (own := own) (C := cls) (index := ik) (n := 6) hown' hk' hins hini'
    (g := F0 m pc ls rest) rfl (by rw [hb]; exact d0) (Nat.le_refl _) (Nat.le_refl _)
  generalize hT1 : (T.setVm vm₁).pushCell { cls := cX, slots := kX.instanceTypes.map defaultValue, vm := .none } = T1 at X₁ st1
  have hcat : (Value.ref T.heap.size).category = 1 := rfl
  have hcellA : T1.heap[T.heap.size]? = some (freshCell cX kX) := by rw [← hT1]; exact State.heap_pushCell_size _ _
  have d3' : decode c.code (pc + 3) = .ok (.dup, 1) := by rw [hb]; exact d3
  have d4' : decode c.code (pc + 4) = .ok (.ldc is, 2) := by rw [hb]; exact d4
  have hstr' : vk_R own is text sa s' := vk_R.warm hW0 hstr
  obtain ⟨V, ce, L, Z, hL, hlt, hcl9, hvm9, st⟩ := vy_ctorMadeS X₁ hexec htr (own := own) (cls := cls) (names := names) (ic := ic) (ix := ix) (rx := rx) hown' hcls hY hnames r0 r1 r2 r5 h (fun x hx => nomatch hx) hfX hkX hcellA (by rw [hhp]; exact Nat.le_refl _) (msg := .ref sa) rfl
    (g := { method := m, pc := pc + 6, locals := ls, stack := .ref sa :: .ref T.heap.size :: .ref T.heap.size :: rest, locked := none }) rfl hsize (rest := rest) rfl
    (by rw [hb]; exact d6) hRframes (by simp only [List.map_cons, List.sum_cons, hcat]; omega)
  have Z0 := Stand.forget (locs := []) Z (fun y hy => by rw [hL y hy, hhp]; exact Nat.le_refl _)
  obtain ⟨f1, f2⟩ := vx_frame Z0.same
  rw [hhp] at f1 f2
  have hh : (V.setCell T.heap.size ce).heap[T.heap.size]? = some ce := heapAt_setCell_self (s := V) ce hlt
  subst hA'
  have X5 := vx_back9 X Y Z0
  have X6 : Stand p l e R s m args below meth c (V.setCell T.heap.size ce) locs (cells + 1) (slots + 6) := { X5 with same := X5.same.mono (by omega) (by omega) }
  obtain ⟨t, a1, b1⟩ := kk T.heap.size (V.setCell T.heap.size ce).heap ce hh hvm9 (by rw [hcl9, ← hvm]; exact hfX) f1 (fun x hx => f2 x hx (fun z hz => nomatch hz)) _ rfl X6
  refine ⟨t, st1 _ ?_, b1⟩
  show Steps p.tables e below (T1.setTop { method := m, pc := pc + 3, locals := ls, stack := .ref T.heap.size :: rest, locked := none }) _
  jvm_step X₁.here [X₁.here.top, hexec, d3', Value.category]
  exact X₁.ldcString hexec (own := own) (text := text) (index := is) (a := sa) hown' hstr'.1 hstr'.2
    (g := { method := m, pc := pc + 4, locals := ls, stack := .ref T.heap.size :: .ref T.heap.size :: rest, locked := none }) rfl d4' _ (st _ a1)
set_option maxHeartbeats 2000000 in
theorem vy_makeSW {cc : ByteArray} {pc : Nat} (hexec : p.tables.exec = Jvm.exec) (hb : c.code = cc) (hl : l.stackTraces = false) {own cls Y9 text : String} {names : List String} {ik is ic ix sa : Nat} {rx : ByteArray} {A : Nat → Prop}
    (hown : s.vm.findClass own = some m.cls) (hcls : Bundle.fit cls = true) (hY : Bundle.fit Y9 = true) (hnames : ∀ n ∈ names, Bundle.fit n = true) (r0 : decode rx 0 = .ok (.aload_n 0, 1)) (r1 : decode rx 1 = .ok (.aload_n 1, 1)) (r2 : decode rx 2 = .ok (.invokespecial ix, 3)) (r5 : decode rx 5 = .ok (.return_, 1))
    (hk : (Cond.classLink own ik cls).before args s = true) (hini : (Cond.initialized cls).before args s = true) (hstr : vk_R own is text sa s) (hat : ∀ w ∈ (vyA own ic ix rx cls Y9 names).filter vx_no, w.before args s = true)
    (hgood : ∀ w ∈ Cond.classLink own ik cls :: Cond.initialized cls :: (vyA own ic ix rx cls Y9 names).filter vx_no, vx_ot w = true)
    (hU : vx_Zq Bundle.tN "UNASSIGNED_STACK" Bundle.steD A s s.heap) (hN : vx_Zq Bundle.tN "SUPPRESSED_SENTINEL" Bundle.listD A s s.heap) (hS : va_S A s.heap H locs) (hsize : ls.size = c.maxLocals)
    (d0 : decode cc pc = .ok (.new ik, 3)) (d3 : decode cc (pc + 3) = .ok (.dup, 1)) (d4 : decode cc (pc + 4) = .ok (.ldc_w is, 3)) (d6 : decode cc (pc + 7) = .ok (.invokespecial ic, 3))
    (hRframes : names.length + 1 + 3 < R.frames) (hRlocals : (rest.map fun v => v.category).sum + (13 * (names.length + 1 + 1) + 43) ≤ R.locals) (hRcells : cells + 1 ≤ R.cells) (hRslots : slots + 6 ≤ R.slots)
    (kk : ∀ (q : Nat) (H1 : Heap) (ce : Cell), H1[q]? = some ce → ce.vm = .none → s.vm.findClass cls = some ce.cls → H.size ≤ H1.size → (∀ x, x < H.size → H1[x]? = H[x]?) → W p l e R s m args below meth c H1 locs (cells + 1) (slots + 6) Q (F0 m (pc + 10) ls (.ref q :: rest))) :
    W p l e R s m args below meth c H locs cells slots Q (F0 m pc ls rest) := by
  intro T hT X
  subst hT
  have htr : e.platform.stackTraces = false := (show e.platform.stackTraces = l.stackTraces by rw [X.admits.platform]).trans hl
  have Y := vx_rebase X (R' := { frames := R.frames, locals := R.locals, cells := 1, slots := 6 }) (Nat.le_refl _) (Nat.le_refl _) hRcells hRslots
  obtain ⟨s', hA'⟩ : ∃ z, z = (T.setVm s.vm).setFrames (.invoking m args :: below) := ⟨_, rfl⟩
  rw [← hA'] at Y
  have hvm : s'.vm = s.vm := by rw [hA']; rfl
  have hhp : s'.heap = T.heap := by rw [hA']; rfl
  have hW0 : s.WarmedH s'.vm := by rw [hvm]; exact State.WarmedH.refl s
  have hat' : ∀ w ∈ (vyA own ic ix rx cls Y9 names).filter vx_no, w.before args s' = true := fun w hw => vx_ot_at hW0 hvm.symm (hgood w (List.mem_cons_of_mem _ (List.mem_cons_of_mem _ hw))) (hat w hw)
  have hk' : (Cond.classLink own ik cls).before args s' = true := vx_ot_at hW0 hvm.symm (hgood _ List.mem_cons_self) hk
  have hini' : (Cond.initialized cls).before args s' = true := vx_ot_at hW0 hvm.symm (hgood _ (List.mem_cons_of_mem _ List.mem_cons_self)) hini
  have hU' : vx_Zq Bundle.tN "UNASSIGNED_STACK" Bundle.steD A s' s'.heap := by rw [hhp]; exact vx_Zq.moved hW0.alike (hU.kept hS.2.1)
  have hN' : vx_Zq Bundle.tN "SUPPRESSED_SENTINEL" Bundle.listD A s' s'.heap := by rw [hhp]; exact vx_Zq.moved hW0.alike (hN.kept hS.2.1)
  have h : ∀ w ∈ vyA own ic ix rx cls Y9 names, w.before args s' = true := vx_own hat' (vx_isRefq hU'.1) (vx_isRefq hN'.1) hU'.2.word hN'.2.word
  have hown' : s'.vm.findClass own = some m.cls := by rw [hvm]; exact hown
  have hins : (Cond.instantiable cls 6).before args s' = true := h _ (by simp [vyA_own])
  obtain ⟨vm₁, cX, kX, hfX, hkX, -, -, X₁, st1⟩ := Y.newCold hexec (own := own) (C := cls) (index := ik) (n := 6) hown' hk' hins hini'
    (g := F0 m pc ls rest) rfl (by rw [hb]; exact d0) (Nat.le_refl _) (Nat.le_refl _)
  generalize hT1 : (T.setVm vm₁).pushCell { cls := cX, slots := kX.instanceTypes.map defaultValue, vm := .none } = T1 at X₁ st1
  have hcat : (Value.ref T.heap.size).category = 1 := rfl
  have hcellA : T1.heap[T.heap.size]? = some (freshCell cX kX) := by rw [← hT1]; exact State.heap_pushCell_size _ _
  have d3' : decode c.code (pc + 3) = .ok (.dup, 1) := by rw [hb]; exact d3
  have d4' : decode c.code (pc + 4) = .ok (.ldc_w is, 3) := by rw [hb]; exact d4
  have hstr' : vk_R own is text sa s' := vk_R.warm hW0 hstr
  obtain ⟨V, ce, L, Z, hL, hlt, hcl9, hvm9, st⟩ := vy_ctorMadeS X₁ hexec htr (own := own) (cls := cls) (names := names) (ic := ic) (ix := ix) (rx := rx) hown' hcls hY hnames r0 r1 r2 r5 h (fun x hx => nomatch hx) hfX hkX hcellA (by rw [hhp]; exact Nat.le_refl _) (msg := .ref sa) rfl
    (g := { method := m, pc := pc + 7, locals := ls, stack := .ref sa :: .ref T.heap.size :: .ref T.heap.size :: rest, locked := none }) rfl hsize (rest := rest) rfl
    (by rw [hb]; exact d6) hRframes (by simp only [List.map_cons, List.sum_cons, hcat]; omega)
  have Z0 := Stand.forget (locs := []) Z (fun y hy => by rw [hL y hy, hhp]; exact Nat.le_refl _)
  obtain ⟨f1, f2⟩ := vx_frame Z0.same
  rw [hhp] at f1 f2
  have hh : (V.setCell T.heap.size ce).heap[T.heap.size]? = some ce := heapAt_setCell_self (s := V) ce hlt
  subst hA'
  have X5 := vx_back9 X Y Z0
  have X6 : Stand p l e R s m args below meth c (V.setCell T.heap.size ce) locs (cells + 1) (slots + 6) := { X5 with same := X5.same.mono (by omega) (by omega) }
  obtain ⟨t, a1, b1⟩ := kk T.heap.size (V.setCell T.heap.size ce).heap ce hh hvm9 (by rw [hcl9, ← hvm]; exact hfX) f1 (fun x hx => f2 x hx (fun z hz => nomatch hz)) _ rfl X6
  refine ⟨t, st1 _ ?_, b1⟩
  show Steps p.tables e below (T1.setTop { method := m, pc := pc + 3, locals := ls, stack := .ref T.heap.size :: rest, locked := none }) _
  jvm_step X₁.here [X₁.here.top, hexec, d3', Value.category]
  exact X₁.ldcStringW hexec (own := own) (text := text) (index := is) (a := sa) hown' hstr'.1 hstr'.2
    (g := { method := m, pc := pc + 4, locals := ls, stack := .ref T.heap.size :: .ref T.heap.size :: rest, locked := none }) rfl d4' _ (st _ a1)
end VYK2
end
section
/-! methods that throw: contracts, the throw itself -/
def THR : Int := 4294967296
def nse : String := "java/util/NoSuchElementException"
def vyL : List Cond := (vyA "EachBringsAnother" 115 13 prog_24_method_4_code "java/util/NoSuchElementException" "java/lang/RuntimeException" ["java/lang/Exception"]).filter vx_no
theorem vyL_in : ∀ w ∈ vyL, w ∈ gw_tbl ∨ w ∈ nw_tbl := by
  have h : vyL.all (fun w => (decide (w ∈ lw_tbl.drop 1120) || (decide (w ∈ lw_tbl.take 130) || decide (w ∈ lw_tbl))) && (goodWord w || isNest w)) = true := by decide +kernel
  intro w hw
  have h9 : ((decide (w ∈ lw_tbl.drop 1120) || (decide (w ∈ lw_tbl.take 130) || decide (w ∈ lw_tbl))) && (goodWord w || isNest w)) = true := List.all_eq_true.mp h w hw
  rw [Bool.and_eq_true, Bool.or_eq_true, Bool.or_eq_true, Bool.or_eq_true] at h9
  have h1 : w ∈ lw_tbl ∧ (goodWord w = true ∨ isNest w = true) := by
    refine ⟨?_, h9.2⟩
    rcases h9.1 with h3 | h3 | h3
    · exact List.mem_of_mem_drop (of_decide_eq_true h3)
    · exact List.mem_of_mem_take (of_decide_eq_true h3)
    · exact of_decide_eq_true h3
  rcases h1.2 with h2 | h2
  · exact Or.inl (List.mem_filter.mpr ⟨h1.1, h2⟩)
  · exact Or.inr (List.mem_filter.mpr ⟨h1.1, h2⟩)
theorem vyL_good : ∀ w ∈ Cond.classLink "EachBringsAnother" 111 "java/util/NoSuchElementException" :: Cond.initialized "java/util/NoSuchElementException" :: vyL, vx_ot w = true := by decide +kernel
def rmX (d : Nat) : Room := { frames := d, cells := 1, slots := 6, locals := 60 * d }
def ZX (A : Nat → Prop) (U : State) : Prop := vx_Zq Bundle.tN "UNASSIGNED_STACK" Bundle.steD A U U.heap ∧ vx_Zq Bundle.tN "SUPPRESSED_SENTINEL" Bundle.listD A U U.heap
def SX (U : State) : Prop := (∃ sa, vk_R "EachBringsAnother" 113 "none such of PEOPLE" sa U) ∧ (∃ sa, vk_R "EachBringsAnother" 154 "nothing such is told of PEOPLE" sa U) ∧ ∃ sa, vk_R "EachBringsAnother" 361 "the ROW has no such number" sa U
theorem SX.warm {s U : State} (hW : s.WarmedH U.vm) (h : SX s) : SX U := ⟨h.1.elim fun a q => ⟨a, vk_R.warm hW q⟩, h.2.1.elim fun a q => ⟨a, vk_R.warm hW q⟩, h.2.2.elim fun a q => ⟨a, vk_R.warm hW q⟩⟩
theorem SX.same {s U : State} (e : U.vm = s.vm) (h : SX s) : SX U := ⟨h.1.elim fun a q => ⟨a, vk_R.same e q⟩, h.2.1.elim fun a q => ⟨a, vk_R.same e q⟩, h.2.2.elim fun a q => ⟨a, vk_R.same e q⟩⟩
def ThS (cc : ByteArray) (pc is : Nat) : Prop := decode cc pc = .ok (.new 111, 3) ∧ decode cc (pc + 3) = .ok (.dup, 1) ∧ decode cc (pc + 4) = .ok (.ldc is, 2) ∧ decode cc (pc + 6) = .ok (.invokespecial 115, 3) ∧ decode cc (pc + 9) = .ok (.athrow, 1)
def ThW (cc : ByteArray) (pc is : Nat) : Prop := decode cc pc = .ok (.new 111, 3) ∧ decode cc (pc + 3) = .ok (.dup, 1) ∧ decode cc (pc + 4) = .ok (.ldc_w is, 3) ∧ decode cc (pc + 7) = .ok (.invokespecial 115, 3) ∧ decode cc (pc + 10) = .ok (.athrow, 1)
def Tw (X : jX) (Qf : Int × Wd → State → Prop) (ad : Nat → Nat) (cc : ByteArray) : Prop := ∀ (pc : Nat) (w : Wd) (L : List (Nat × jv)), (ThS cc pc 113 ∨ ThS cc pc 154 ∨ ThW cc pc 361) → VF X Qf ad NF 0 0 w pc L [] (some (THR, w))
def PBX (D : va_G) (cA : Nat → ClassId) (ad : Nat → Nat) (w : Wd) : State → Prop := fun U => PB D cA ad w U ∧ ZX (AF ad) U ∧ SX U
def QBX (D : va_G) (cA : Nat → ClassId) (ad : Nat → Nat) (o : Int × Wd) : Array Value → State → Outcome → State → Prop := fun a st oc t => o.1 ≠ THR ∧ QB D cA ad 0 o a st oc t
def XCX (D : va_G) (cA : Nat → ClassId) (ad : Nat → Nat) (o : Int × Wd) : String → State → State → Prop := fun E st t => E = nse ∧ o.1 = THR ∧ wok o.2 ∧ wpt o.2 ∧ va_P D cl (wl ad cA o.2 NF) t.heap ∧ va_F (AF ad) st t
def CtX (y : MethodName) (cc : ByteArray) (mL : Nat) (rt : Option FieldType) (dep : Nat) (avs : List jv) (w : Wd) (g : Option (Int × Wd)) : Prop :=
  ∀ (l : Launch) (D : va_G) (cA : Nat → ClassId) (ad : Nat → Nat) (o : Int × Wd), l.stackTraces = false → g = some o → wok w → wpt w → (∀ v ∈ avs, jo v) → jadd ad →
    vx_Met l y (wsy y cc mL rt) (rmX dep) (va_Pc (avs.map (jc ad)) (PBX D cA ad w)) (QBX D cA ad o) (XCX D cA ad o) 1 6 (AF ad)
theorem jrm_x {X : jX} {d dep mL : Nat} (h : xR X = rmX d) (hd : (decide (dep + 1 ≤ d) && decide (mL ≤ 41)) = true) : jrm X dep mL 0 0 := by
  simp only [Bool.and_eq_true, decide_eq_true_eq] at hd
  unfold jrm
  rw [h]
  simp only [rmX]
  omega
theorem kT_cl : Cond.classLink "EachBringsAnother" 111 "java/util/NoSuchElementException" ∈ gw_tbl := mem_h 1128 (by decide +kernel)
theorem kT_in : Cond.initialized "java/util/NoSuchElementException" ∈ gw_tbl := mem_h 102 (by decide +kernel)
theorem ctx_of {y : MethodName} {cc : ByteArray} {mL : Nat} {dep : Nat} {avs : List jv} {w : Wd} {g : Option (Int × Wd)} (hy : plainName y.cls = true) (hyc : y.cls = "EachBringsAnother") (hdep : 8 ≤ dep) (hlen : jwords avs ≤ mL)
    (hb : ∀ (X : jX) (Qf : Int × Wd → State → Prop) (ad : Nat → Nat), Cx X cc "EachBringsAnother" → xn X = mL → xR X = rmX dep → Rt X Qf ad cc 0 → Tw X Qf ad cc → VF X Qf ad NF 0 0 w 0 (jargs 0 avs) [] g) : CtX y cc mL (some .int) dep avs w g := by
  intro l D cA ad o hst ho hw hp ha hinj
  refine vx_ofW (cc := cc) (maxL := mL) (ret := some .int) hy rfl ?_
  intro p e s m args below meth c s₁ B hml hnt hv
  obtain ⟨rfl, ⟨hP, hK, hNW⟩, hZX, hSX⟩ := hv
  have hts := atoms_spec (ws := wsy y cc mL (some .int)) B.pre
  have hr := B.returns
  have hlocks := B.notSynchronized
  let X : jX := (p, l, e, rmX dep, s, m, (avs.map (jc ad)).toArray, below, meth, c, D, cA, AF ad, mL)
  have hown : s.vm.findClass "EachBringsAnother" = some m.cls := by rw [← hyc]; exact findClass_of_methodNamed B.named
  have C : Cx X cc "EachBringsAnother" := ⟨B.exec, B.bytes, hown, fun w hw => hts w (List.mem_cons_of_mem _ hw), hK, hml, hNW⟩
  have hS : va_S (AF ad) s.heap s.heap [] := va_S.rf
  have hIn : jinj ad NF (xA X) := ⟨hinj, fun i hi => ⟨i, hi, rfl⟩⟩
  have hl := lv_entry (avs.map (jc ad)) (n := mL) (by rw [jwords_eq]; exact hlen)
  rw [← jargs_eq ad avs 0] at hl
  rw [lg_entry_eq]
  refine hb X (fun o => vx_MQ below (QBX D cA ad o) (XCX D cA ad o) (avs.map (jc ad)).toArray s 1 6 (AF ad)) ad C rfl rfl ?_ ?_ o ho hw (fun _ => hp) (jargs_jo avs 0 ha) (fun _ h => by cases h) s.heap [] _ hP hS hl hIn
  · intro pc w' L r hz hd o' ho' hw' hp' hL' hS' H locs ls hP' hV' hl' hI'
    cases ho'
    have hj : jo (0, r) := hS' (0, r) (List.mem_singleton.mpr rfl)
    have hfree : ∀ q ∈ locs, AF ad q.base := fun q h => hV'.2.2 q h
    refine W.widen (k := 1) (n := 6) (by omega) (by omega) (vx_ret ?_)
    refine W.iret B.exec B.bytes hr (fun t ht hW => ⟨?_, ⟨rfl, hj, hw', hp' rfl, by rw [ht]; exact hP'⟩, hV'.F ht⟩) hfree hd hlocks
    have h2 : -2147483648 ≤ r ∧ r < 2147483648 := hj
    show r ≠ 4294967296
    omega
  · intro pc w' L hth o' ho' hw' hp' hL' hS' H locs ls hP' hV' hl' hI'
    cases ho'
    have hat : ∀ w ∈ vyL, w.before (avs.map (jc ad)).toArray s = true := fun w hw => by
      rcases vyL_in w hw with h | h
      · exact C.2.2.2.1 w h
      · have h2 := (List.mem_filter.mp h).2
        have h3 : w.onTables = true := by cases w <;> first | rfl | cases h2
        exact va_Nw.use h3 (hNW w h)
    have fin : ∀ (pc9 : Nat) (H1 : Heap) (q : Nat) (ce : Cell), decode cc pc9 = .ok (.athrow, 1) → H1[q]? = some ce → ce.vm = .none → s.vm.findClass "java/util/NoSuchElementException" = some ce.cls → H.size ≤ H1.size → (∀ x, x < H.size → H1[x]? = H[x]?) → W p l e (rmX dep) s m (avs.map (jc ad)).toArray below meth c H1 locs (0 + 1) (0 + 6) (vx_MQ below (QBX D cA ad (THR, w')) (XCX D cA ad (THR, w')) (avs.map (jc ad)).toArray s 1 6 (AF ad)) (F0 m pc9 ls (.ref q :: [])) := by
      intro pc9 H1 q ce hd9 h1 h2 h3 h4 h5
      refine vx_athrow B.exec B.bytes hd9 ?_
      refine vx_out (fun x hx => (hnt x hx).elim) hlocks h1 h2 h3 (fun t ht _ => ⟨rfl, rfl, hw', hp' rfl, ?_, ?_, ?_⟩) (fun z hz => hV'.2.2 z hz) (Nat.le_refl _) (Nat.le_refl _)
      · rw [ht]
        exact hP'.kept fun k x hx => h5 x.1 ((hP' k x hx).lt)
      · rw [ht]; exact Nat.le_trans hV'.1 h4
      · intro x hx hn
        rw [ht, h5 x (Nat.lt_of_lt_of_le hx hV'.1)]
        exact hV'.2.1 x hx hn
    have hsz : ls.size = c.maxLocals := by rw [hml]; exact hl'.1
    have hfr : ["java/lang/Exception"].length + 1 + 3 < (rmX dep).frames := by show 5 < dep; omega
    have hlo : (([] : List Value).map fun v => v.category).sum + (13 * (["java/lang/Exception"].length + 1 + 1) + 43) ≤ (rmX dep).locals := by show 0 + (13 * 3 + 43) ≤ 60 * dep; omega
    rcases hth with ⟨d0, d3, d4, d6, d9⟩ | ⟨d0, d3, d4, d6, d9⟩ | ⟨d0, d3, d4, d6, d9⟩
    · obtain ⟨sa, hsa⟩ := hSX.1
      exact vy_makeS (Y9 := "java/lang/RuntimeException") (names := ["java/lang/Exception"]) (ix := 13) (rx := prog_24_method_4_code) B.exec B.bytes hst hown (by decide +kernel) (by decide +kernel) (by decide +kernel) (by decide +kernel) (by decide +kernel) (by decide +kernel) (by decide +kernel) (C.2.2.2.1 _ kT_cl) (C.2.2.2.1 _ kT_in) hsa hat vyL_good hZX.1 hZX.2 hV' hsz d0 d3 d4 d6 hfr hlo (Nat.le_refl _) (Nat.le_refl _) (fun q H1 ce h1 h2 h3 h4 h5 => fin _ H1 q ce d9 h1 h2 h3 h4 h5)
    · obtain ⟨sa, hsa⟩ := hSX.2.1
      exact vy_makeS (Y9 := "java/lang/RuntimeException") (names := ["java/lang/Exception"]) (ix := 13) (rx := prog_24_method_4_code) B.exec B.bytes hst hown (by decide +kernel) (by decide +kernel) (by decide +kernel) (by decide +kernel) (by decide +kernel) (by decide +kernel) (by decide +kernel) (C.2.2.2.1 _ kT_cl) (C.2.2.2.1 _ kT_in) hsa hat vyL_good hZX.1 hZX.2 hV' hsz d0 d3 d4 d6 hfr hlo (Nat.le_refl _) (Nat.le_refl _) (fun q H1 ce h1 h2 h3 h4 h5 => fin _ H1 q ce d9 h1 h2 h3 h4 h5)
    · obtain ⟨sa, hsa⟩ := hSX.2.2
      exact vy_makeSW (Y9 := "java/lang/RuntimeException") (names := ["java/lang/Exception"]) (ix := 13) (rx := prog_24_method_4_code) B.exec B.bytes hst hown (by decide +kernel) (by decide +kernel) (by decide +kernel) (by decide +kernel) (by decide +kernel) (by decide +kernel) (by decide +kernel) (C.2.2.2.1 _ kT_cl) (C.2.2.2.1 _ kT_in) hsa hat vyL_good hZX.1 hZX.2 hV' hsz d0 d3 d4 d6 hfr hlo (Nat.le_refl _) (Nat.le_refl _) (fun q H1 ce h1 h2 h3 h4 h5 => fin _ H1 q ce d9 h1 h2 h3 h4 h5)
end
section
def f_E_of (v1 v2 : Int) (w : Wd) : Option (Int × Wd) :=
  jcall (f_F_isThere v1 w) fun r1 u2 =>
  if r1 = 0 then
    some (THR, u2)
  else
    if v2 < 0 ∨ 6 < v2 then
      some (THR, u2)
    else
    if v2 = 0 then
      jgd ((0 : Int) ≤ v1 ∧ v1 < 10) <|
      some (u2 6 v1.toNat, u2)
    else
    if v2 = 1 then
      jgd ((0 : Int) ≤ v1 ∧ v1 < 10) <|
      some (u2 7 v1.toNat, u2)
    else
    if v2 = 2 then
      jcall (f_E_has (u2 5 5) v1 u2) fun r3 u4 =>
      if r3 = 0 then
        some (0, u4)
      else
        some (1, u4)
    else
    if v2 = 3 then
      jcall (f_F_strangers u2) fun r5 u6 =>
      jcall (f_E_has r5 v1 u6) fun r7 u8 =>
      if r7 = 0 then
        jcall (f_F_guests u8) fun r9 u10 =>
        jcall (f_E_has r9 v1 u10) fun r11 u12 =>
        if r11 = 0 then
          some (2, u12)
        else
          some (1, u12)
      else
        some (0, u8)
    else
    if v2 = 4 then
      jcall (f_O_late (u2 5 4) v1 u2) fun r13 u14 =>
      some (r13, u14)
    else
    if v2 = 5 then
      jgd ((0 : Int) ≤ v1 ∧ v1 < 10) <|
      some (u2 8 v1.toNat, u2)
    else
    if v2 = 6 then
      jcall (f_D_firstWeekOf v1 u2) fun r15 u16 =>
      some (r15, u16)
    else
    none
theorem ct_E_of (v1 v2 : Int) (w : Wd) : CtX y_E_of prog_1_method_6_code 3 (some .int) 8 [(2, 1), (0, v1), (0, v2)] w (f_E_of v1 v2 w) := by
  refine ctx_of (by decide +kernel) rfl (by decide) (Nat.le_of_ble_eq_true rfl) ?_
  intro X Qf ad C hn hR hr tx
  unfold f_E_of
  show VF X Qf ad NF 0 0 w 0 [(0, (2, 1)), (1, (0, v1)), (2, (0, v2))] [] _
  refine vf_aload_n C (f := 0) (zdg dz_E_of_0 0 rfl) 0 rfl rfl ?_
  refine vf_getp C fl_E_26 sh_0 rfl (by decide) rfl (x := 6) rfl (zdg dz_E_of_0 1 rfl) ?_
  refine vf_iload_n C (f := 1) (zdg dz_E_of_0 2 rfl) 1 rfl rfl ?_
  refine vf_callVz C cy_F_isThere ml_E_108 rfl (ct_F_isThere _ _) (S := []) sh_5 (by decide) rfl (jrm_x hR rfl) rfl rfl (Nat.le_of_ble_eq_true rfl) (zdg dz_E_of_0 3 rfl) (fun r1 u2 => ?_)
  refine vf_if_ne C (off := 13) (tgt := 21) (zdg dz_E_of_0 4 rfl) (by decide) ?_ ?_
  · refine vf_iload_n C (f := 2) (zdg dz_E_of_0 10 rfl) 2 rfl rfl ?_
    refine vf_if _ (fun h => ?_) (fun _ => ?_)
    · refine vf_swd C (dflt := 151) (lo := 0) (hi := 6) (offs := #[42, 52, 62, 82, 120, 132, 142]) (len := 42) (tgt := 173) (by decide +kernel) h (by decide) ?_
      exact tx _ _ _ (Or.inr (Or.inl ⟨by decide +kernel, by decide +kernel, by decide +kernel, by decide +kernel, by decide +kernel⟩))
    refine vf_if _ (fun h => ?_) (fun _ => ?_)
    · refine vf_swx C (dflt := 151) (lo := 0) (hi := 6) (offs := #[42, 52, 62, 82, 120, 132, 142]) (len := 42) (z := 0) (off := 42) (tgt := 64) (by decide +kernel) h (by decide) (by decide) rfl (by decide) ?_
      refine vf_aload_n C (f := 0) (zdg dz_E_of_0 11 rfl) 0 rfl rfl ?_
      refine vf_getp C fl_E_26 sh_0 rfl (by decide) rfl (x := 6) rfl (zdg dz_E_of_0 12 rfl) ?_
      refine vf_getp C fl_E_118 sh_5 rfl (by decide) rfl (x := 7) rfl (zdg dz_E_of_0 13 rfl) ?_
      refine vf_iload_n C (f := 1) (zdg dz_E_of_0 14 rfl) 1 rfl rfl ?_
      refine vf_iald C sh_6 (by decide) rfl (mz := 10) rfl (zdg dz_E_of_0 15 rfl) ?_
      exact hr _ _ _ _ (fun h => absurd h (by decide)) (zdg dz_E_of_0 16 rfl)
    refine vf_if _ (fun h => ?_) (fun _ => ?_)
    · refine vf_swx C (dflt := 151) (lo := 0) (hi := 6) (offs := #[42, 52, 62, 82, 120, 132, 142]) (len := 42) (z := 1) (off := 52) (tgt := 74) (by decide +kernel) h (by decide) (by decide) rfl (by decide) ?_
      refine vf_aload_n C (f := 0) (zdg dz_E_of_0 17 rfl) 0 rfl rfl ?_
      refine vf_getp C fl_E_26 sh_0 rfl (by decide) rfl (x := 6) rfl (zdg dz_E_of_0 18 rfl) ?_
      refine vf_getp C fl_E_122 sh_5 rfl (by decide) rfl (x := 8) rfl (zdg dz_E_of_0 19 rfl) ?_
      refine vf_iload_n C (f := 1) (zdg dz_E_of_0 20 rfl) 1 rfl rfl ?_
      refine vf_iald C sh_7 (by decide) rfl (mz := 10) rfl (zdg dz_E_of_0 21 rfl) ?_
      exact hr _ _ _ _ (fun h => absurd h (by decide)) (zdg dz_E_of_0 22 rfl)
    refine vf_if _ (fun h => ?_) (fun _ => ?_)
    · refine vf_swx C (dflt := 151) (lo := 0) (hi := 6) (offs := #[42, 52, 62, 82, 120, 132, 142]) (len := 42) (z := 2) (off := 62) (tgt := 84) (by decide +kernel) h (by decide) (by decide) rfl (by decide) ?_
      refine vf_aload_n C (f := 0) (zdg dz_E_of_0 23 rfl) 0 rfl rfl ?_
      refine vf_getp C fl_E_26 sh_0 rfl (by decide) rfl (x := 6) rfl (zdg dz_E_of_1 0 rfl) ?_
      refine vf_get C (kd := 0) fl_E_125 sh_5 rfl (by decide) rfl rfl (zdg dz_E_of_1 1 rfl) ?_
      refine vf_iload_n C (f := 1) (zdg dz_E_of_1 2 rfl) 1 rfl rfl ?_
      refine vf_callSz C cy_E_has ml_E_128 (ct_E_has _ _ _) (S := []) (jrm_x hR rfl) rfl rfl (Nat.le_of_ble_eq_true rfl) (zdg dz_E_of_1 3 rfl) (fun r3 u4 => ?_)
      refine vf_if_eq C (off := 7) (tgt := 102) (zdg dz_E_of_1 4 rfl) (by decide) ?_ ?_
      · refine vf_iconst C (z := 0) (zdg dz_E_of_1 7 rfl) (jz rfl) ?_
        exact hr _ _ _ _ (fun h => absurd h (by decide)) (zdg dz_E_of_1 8 rfl)
      · refine vf_iconst C (z := 1) (zdg dz_E_of_1 5 rfl) (jz rfl) ?_
        refine vf_goto C (off := 4) (tgt := 103) (zdg dz_E_of_1 6 rfl) (by decide) ?_
        exact hr _ _ _ _ (fun h => absurd h (by decide)) (zdg dz_E_of_1 8 rfl)
    refine vf_if _ (fun h => ?_) (fun _ => ?_)
    · refine vf_swx C (dflt := 151) (lo := 0) (hi := 6) (offs := #[42, 52, 62, 82, 120, 132, 142]) (len := 42) (z := 3) (off := 82) (tgt := 104) (by decide +kernel) h (by decide) (by decide) rfl (by decide) ?_
      refine vf_aload_n C (f := 0) (zdg dz_E_of_1 9 rfl) 0 rfl rfl ?_
      refine vf_getp C fl_E_26 sh_0 rfl (by decide) rfl (x := 6) rfl (zdg dz_E_of_1 10 rfl) ?_
      refine vf_callVi C cy_F_strangers ml_E_132 rfl (ct_F_strangers _) (S := []) sh_5 (by decide) rfl (jrm_x hR rfl) rfl rfl (Nat.le_of_ble_eq_true rfl) (zdg dz_E_of_1 11 rfl) (fun r5 u6 => ?_)
      refine vf_iload_n C (f := 1) (zdg dz_E_of_1 12 rfl) 1 rfl rfl ?_
      refine vf_callSz C cy_E_has ml_E_128 (ct_E_has _ _ _) (S := []) (jrm_x hR rfl) rfl rfl (Nat.le_of_ble_eq_true rfl) (zdg dz_E_of_1 13 rfl) (fun r7 u8 => ?_)
      refine vf_if_eq C (off := 7) (tgt := 122) (zdg dz_E_of_1 14 rfl) (by decide) ?_ ?_
      · refine vf_aload_n C (f := 0) (zdg dz_E_of_1 17 rfl) 0 rfl rfl ?_
        refine vf_getp C fl_E_26 sh_0 rfl (by decide) rfl (x := 6) rfl (zdg dz_E_of_1 18 rfl) ?_
        refine vf_callVi C cy_F_guests ml_E_136 rfl (ct_F_guests _) (S := []) sh_5 (by decide) rfl (jrm_x hR rfl) rfl rfl (Nat.le_of_ble_eq_true rfl) (zdg dz_E_of_1 19 rfl) (fun r9 u10 => ?_)
        refine vf_iload_n C (f := 1) (zdg dz_E_of_1 20 rfl) 1 rfl rfl ?_
        refine vf_callSz C cy_E_has ml_E_128 (ct_E_has _ _ _) (S := []) (jrm_x hR rfl) rfl rfl (Nat.le_of_ble_eq_true rfl) (zdg dz_E_of_1 21 rfl) (fun r11 u12 => ?_)
        refine vf_if_eq C (off := 7) (tgt := 140) (zdg dz_E_of_1 22 rfl) (by decide) ?_ ?_
        · refine vf_iconst C (z := 2) (zdg dz_E_of_2 1 rfl) (jz rfl) ?_
          exact hr _ _ _ _ (fun h => absurd h (by decide)) (zdg dz_E_of_2 2 rfl)
        · refine vf_iconst C (z := 1) (zdg dz_E_of_1 23 rfl) (jz rfl) ?_
          refine vf_goto C (off := 4) (tgt := 141) (zdg dz_E_of_2 0 rfl) (by decide) ?_
          exact hr _ _ _ _ (fun h => absurd h (by decide)) (zdg dz_E_of_2 2 rfl)
      · refine vf_iconst C (z := 0) (zdg dz_E_of_1 15 rfl) (jz rfl) ?_
        refine vf_goto C (off := 22) (tgt := 141) (zdg dz_E_of_1 16 rfl) (by decide) ?_
        exact hr _ _ _ _ (fun h => absurd h (by decide)) (zdg dz_E_of_2 2 rfl)
    refine vf_if _ (fun h => ?_) (fun _ => ?_)
    · refine vf_swx C (dflt := 151) (lo := 0) (hi := 6) (offs := #[42, 52, 62, 82, 120, 132, 142]) (len := 42) (z := 4) (off := 120) (tgt := 142) (by decide +kernel) h (by decide) (by decide) rfl (by decide) ?_
      refine vf_aload_n C (f := 0) (zdg dz_E_of_2 3 rfl) 0 rfl rfl ?_
      refine vf_getp C fl_E_26 sh_0 rfl (by decide) rfl (x := 6) rfl (zdg dz_E_of_2 4 rfl) ?_
      refine vf_get C (kd := 0) fl_E_139 sh_5 rfl (by decide) rfl rfl (zdg dz_E_of_2 5 rfl) ?_
      refine vf_iload_n C (f := 1) (zdg dz_E_of_2 6 rfl) 1 rfl rfl ?_
      refine vf_callSi C cy_O_late ml_E_142 (ct_O_late _ _ _) (S := []) (jrm_x hR rfl) rfl rfl (Nat.le_of_ble_eq_true rfl) (zdg dz_E_of_2 7 rfl) (fun r13 u14 => ?_)
      exact hr _ _ _ _ (fun h => absurd h (by decide)) (zdg dz_E_of_2 8 rfl)
    refine vf_if _ (fun h => ?_) (fun _ => ?_)
    · refine vf_swx C (dflt := 151) (lo := 0) (hi := 6) (offs := #[42, 52, 62, 82, 120, 132, 142]) (len := 42) (z := 5) (off := 132) (tgt := 154) (by decide +kernel) h (by decide) (by decide) rfl (by decide) ?_
      refine vf_aload_n C (f := 0) (zdg dz_E_of_2 9 rfl) 0 rfl rfl ?_
      refine vf_getp C fl_E_26 sh_0 rfl (by decide) rfl (x := 6) rfl (zdg dz_E_of_2 10 rfl) ?_
      refine vf_getp C fl_E_148 sh_5 rfl (by decide) rfl (x := 9) rfl (zdg dz_E_of_2 11 rfl) ?_
      refine vf_iload_n C (f := 1) (zdg dz_E_of_2 12 rfl) 1 rfl rfl ?_
      refine vf_iald C sh_8 (by decide) rfl (mz := 10) rfl (zdg dz_E_of_2 13 rfl) ?_
      exact hr _ _ _ _ (fun h => absurd h (by decide)) (zdg dz_E_of_2 14 rfl)
    refine vf_if _ (fun h => ?_) (fun _ => ?_)
    · refine vf_swx C (dflt := 151) (lo := 0) (hi := 6) (offs := #[42, 52, 62, 82, 120, 132, 142]) (len := 42) (z := 6) (off := 142) (tgt := 164) (by decide +kernel) h (by decide) (by decide) rfl (by decide) ?_
      refine vf_aload_n C (f := 0) (zdg dz_E_of_2 15 rfl) 0 rfl rfl ?_
      refine vf_getp C fl_E_47 sh_0 rfl (by decide) rfl (x := 16) rfl (zdg dz_E_of_2 16 rfl) ?_
      refine vf_iload_n C (f := 1) (zdg dz_E_of_2 17 rfl) 1 rfl rfl ?_
      refine vf_callVi C cy_D_firstWeekOf ml_E_151 rfl (ct_D_firstWeekOf _ _) (S := []) sh_15 (by decide) rfl (jrm_x hR rfl) rfl rfl (Nat.le_of_ble_eq_true rfl) (zdg dz_E_of_2 18 rfl) (fun r15 u16 => ?_)
      exact hr _ _ _ _ (fun h => absurd h (by decide)) (zdg dz_E_of_2 19 rfl)
    exact vf_no
  · exact tx _ _ _ (Or.inl ⟨by decide +kernel, by decide +kernel, by decide +kernel, by decide +kernel, by decide +kernel⟩)
def f_E_row (v1 : Int) (w : Wd) : Option (Int × Wd) :=
  if v1 < 0 then
    some (THR, w)
  else
    if v1 < (w 3 1) then
      jcall (f_N_number v1 w) fun r1 u2 =>
      some (r1, u2)
    else
      some (THR, w)
theorem ct_E_row (v1 : Int) (w : Wd) : CtX y_E_row prog_1_method_43_code 2 (some .int) 8 [(2, 1), (0, v1)] w (f_E_row v1 w) := by
  refine ctx_of (by decide +kernel) rfl (by decide) (Nat.le_of_ble_eq_true rfl) ?_
  intro X Qf ad C hn hR hr tx
  unfold f_E_row
  show VF X Qf ad NF 0 0 w 0 [(0, (2, 1)), (1, (0, v1))] [] _
  refine vf_iload_n C (f := 1) (zdg dz_E_row_0 0 rfl) 1 rfl rfl ?_
  refine vf_if_lt C (off := 14) (tgt := 15) (zdg dz_E_row_0 1 rfl) (by decide) ?_ ?_
  · exact tx _ _ _ (Or.inr (Or.inr ⟨by decide +kernel, by decide +kernel, by decide +kernel, by decide +kernel, by decide +kernel⟩))
  · refine vf_iload_n C (f := 1) (zdg dz_E_row_0 2 rfl) 1 rfl rfl ?_
    refine vf_aload_n C (f := 0) (zdg dz_E_row_0 3 rfl) 0 rfl rfl ?_
    refine vf_getp C fl_E_19 sh_0 rfl (by decide) rfl (x := 4) rfl (zdg dz_E_row_0 4 rfl) ?_
    refine vf_get C (kd := 0) fl_E_244 sh_3 rfl (by decide) rfl rfl (zdg dz_E_row_0 5 rfl) ?_
    refine vf_icmp_lt C (off := 14) (tgt := 26) (zdg dz_E_row_0 6 rfl) (by decide) ?_ ?_
    · refine vf_aload_n C (f := 0) (zdg dz_E_row_0 12 rfl) 0 rfl rfl ?_
      refine vf_getp C fl_E_19 sh_0 rfl (by decide) rfl (x := 4) rfl (zdg dz_E_row_0 13 rfl) ?_
      refine vf_iload_n C (f := 1) (zdg dz_E_row_0 14 rfl) 1 rfl rfl ?_
      refine vf_callVi C cy_N_number ml_E_363 rfl (ct_N_number _ _) (S := []) sh_3 (by decide) rfl (jrm_x hR rfl) rfl rfl (Nat.le_of_ble_eq_true rfl) (zdg dz_E_row_0 15 rfl) (fun r1 u2 => ?_)
      exact hr _ _ _ _ (fun h => absurd h (by decide)) (zdg dz_E_row_0 16 rfl)
    · exact tx _ _ _ (Or.inr (Or.inr ⟨by decide +kernel, by decide +kernel, by decide +kernel, by decide +kernel, by decide +kernel⟩))
end
section
/-! THE LAW'S TWO HELPERS: a call that may throw, caught -/
section
variable {X : jX} {cc cy : ByteArray} {own : String} {Qf : Int × Wd → State → Prop} {ad : Nat → Nat} {k n pc idx mL dep na : Nat} {w : Wd} {L : List (Nat × jv)} {S S0 avs : List jv} {y : MethodName} {rt : Option FieldType}
theorem ZX.kept {A : Nat → Prop} {s U : State} {H : Heap} {B : Nat → Prop} {locs : List Loc} (h : ZX A s) (hV : va_S A s.heap H locs) (hW : s.vm.Alike U.vm) (hU : U.heap = H) (hB : ∀ q, B q → A q) : ZX B U := by
  obtain ⟨h1, h2⟩ := h
  refine ⟨?_, ?_⟩
  · rw [hU]; exact (vx_Zq.moved hW (h1.kept hV.2.1)).narrow hB
  · rw [hU]; exact (vx_Zq.moved hW (h2.kept hV.2.1)).narrow hB
theorem PBX_blind {avs : List Value} {D : va_G} {cA : Nat → ClassId} {ad : Nat → Nat} {w : Wd} : FrameBlind (va_Pc avs (PBX D cA ad w)) := fun a U g mk h =>
  ⟨h.1, (PB_blind (avs := avs) a U g mk ⟨h.1, h.2.1⟩).2, ⟨vx_Zq.moved (u := U) (U := U.calling g mk a) (Vm.Alike.refl U.vm) h.2.2.1.1, vx_Zq.moved (u := U) (U := U.calling g mk a) (Vm.Alike.refl U.vm) h.2.2.1.2⟩, SX.same (s := U) (U := U.calling g mk a) rfl h.2.2.2⟩
theorem vrx_go {H : Heap} {locs : List Loc} {ls : Array Slot} {st0 rest : List Value} {a : Array Value} {o : Int × Wd} {Q : State → Prop}
    (hr : vx_Run (xp X) (xl X) (xe X) (xR X) (xs X) (xm X) (xa X) (xb X) (xM X) (xc X) H locs k n 1 6 (F0 (xm X) pc ls st0) rest (QBX (xD X) (xC X) ad o a) (XCX (xD X) (xC X) ad o) (AF ad)) (hS : va_S (xA X) (xs X).heap H locs) (hI : jinj ad NF (xA X))
    (kx : ∀ (H1 : Heap) (locs1 : List Loc) (q : Addr) (ce : Cell), o.1 = THR → wok o.2 → wpt o.2 → va_P (xD X) cl (wl ad (xC X) o.2 NF) H1 → va_S (xA X) (xs X).heap H1 locs1 → H1[q]? = some ce → ce.vm = .none → (xs X).vm.findClass nse = some ce.cls → vx_W (xp X) (xl X) (xe X) (xR X) (xs X) (xm X) (xa X) (xb X) (xM X) (xc X) H1 locs1 (k + 1) (n + 6) Q (F0 (xm X) pc ls rest) q)
    (kk : ∀ (H1 : Heap) (locs1 : List Loc), o.1 ≠ THR → jo (0, o.1) → wok o.2 → wpt o.2 → va_P (xD X) cl (wl ad (xC X) o.2 NF) H1 → va_S (xA X) (xs X).heap H1 locs1 → W (xp X) (xl X) (xe X) (xR X) (xs X) (xm X) (xa X) (xb X) (xM X) (xc X) H1 locs1 (k + 1) (n + 6) Q (F0 (xm X) (pc + 3) ls (jc ad (0, o.1) :: rest))) :
    W (xp X) (xl X) (xe X) (xR X) (xs X) (xm X) (xa X) (xb X) (xM X) (xc X) H locs k n Q (F0 (xm X) pc ls st0) := by
  have hf : ∀ q, AF ad q → xA X q := fun q ⟨c, hc, e⟩ => by rw [e]; exact hI.2 c hc
  have hloc : ∀ (L9 : List Loc), (∀ q ∈ L9, AF ad q.base) → ∀ (h h1 : Heap), va_S (xA X) (xs X).heap h locs → h.size ≤ h1.size → (∀ q, q < h.size → ¬ AF ad q → h1[q]? = h[q]?) → va_S (xA X) (xs X).heap h1 (locs ++ L9) := fun L9 hL h h1 hS hz hk =>
    ⟨Nat.le_trans hS.1 hz, fun q h1 h2 => by rw [hk q (Nat.lt_of_lt_of_le h1 hS.1) (fun z => h2 (hf q z))]; exact hS.2.1 q h1 h2, fun q hq => by
      rcases List.mem_append.mp hq with h | h
      · exact hS.2.2 q h
      · exact hf _ (hL q h)⟩
  intro T hT XX
  rcases hr T hT XX with ⟨v, st₀, t, T', L9, h0, X', hL, e1, e2, ⟨hne, ⟨hv, hj, hw, hp, hP⟩, hz, hk⟩, st⟩ | ⟨q, st₀, t, T', L9, E, ce, h0, X', hL, e1, e2, ⟨hE, hT1, hw, hp, hP, hz, hk⟩, hce, hvm, hcl, st⟩
  · cases hv
    rw [h0] at hz hk
    obtain ⟨t2, a1, b1⟩ := kk T'.heap (locs ++ L9) hne hj hw hp (by rw [e1]; exact hP) (hloc L9 hL H T'.heap hS (by rw [e1]; exact hz) (fun q a b => by rw [e1]; exact hk q a b)) T' rfl X'
    exact ⟨t2, st t2 a1, b1⟩
  · subst hE
    rw [h0] at hz hk
    obtain ⟨t2, a1, b1⟩ := kx T'.heap (locs ++ L9) q ce hT1 hw hp (by rw [e1]; exact hP) (hloc L9 hL H T'.heap hS (by rw [e1]; exact hz) (fun q a b => by rw [e1]; exact hk q a b)) (by rw [e1]; exact hce) hvm hcl T' rfl X'
    exact ⟨t2, st.trans a1, b1⟩
theorem vf_callX (C : Cx X cc own) (hy : CY y cy mL (some .int) na false) (hl : Cond.methodLink own idx y ∈ gw_tbl) {g : Option (Int × Wd)} {F : Int → Wd → Option (Int × Wd)} {c ci : Nat} {r0 : Int} {fs : List (Nat × Nat)} {T : u_T} {fn : Nat} (hr : r0 = ((c + 1 : Nat) : Int)) (hct : CtX y cy mL (some .int) dep ((2, r0) :: avs) w g) (hs : sh c = some (.inl (ci, fs))) (hc : c < NF) (hcl : cl[ci]? = some (y.cls, T, fn)) (hR : jrm X dep mL (k + 1) (n + 6)) (hn : avs.length = na) (hst : S0 = avs.reverse ++ (2, r0) :: S) (hS8 : jwords S ≤ 8) (d : decode cc pc = .ok (.invokevirtual idx, 3))
    (hlt : (xl X).stackTraces = false) (hZ : ZX (xA X) (xs X)) (hX : SX (xs X)) {x9 : ExceptionTableEntry} (htab : (xc X).exceptionTable.toList = [x9]) (hcov : covers x9 pc = true) (h09 : x9.catchType ≠ 0) (hlk9 : Cond.classLink own x9.catchType nse ∈ gw_tbl) (hca9 : Cond.castable nse nse ∈ nw_tbl)
    (kx : ∀ (q : Nat) w', VF X Qf ad NF (k + 1) (n + 6) w' x9.handlerPc L [(3, (q : Int))] (F THR w'))
    (kk : ∀ r w', r ≠ THR → VF X Qf ad NF (k + 1) (n + 6) w' (pc + 3) L ((0, r) :: S) (F r w')) : VF X Qf ad NF k n w pc L S0 (jcall g F) := by
  intro o ho hw hp hL hS H locs ls hP hV hl9 hI
  subst hst
  subst hr
  cases hg : g with
  | none => rw [hg] at ho; cases ho
  | some q =>
    rw [hg] at ho
    have ha : ∀ v ∈ ((2, ((c + 1 : Nat) : Int)) :: avs : List jv), jo v := fun v hv => by
      rcases List.mem_cons.mp hv with rfl | hv
      · exact hS _ (List.mem_append_right _ List.mem_cons_self)
      · exact hS v (List.mem_append_left _ (List.mem_reverse.mpr hv))
    have hM := hct (xl X) (xD X) (xC X) ad q hlt hg hw (hp rfl) ha hI.1
    obtain ⟨hd, hini, hcode, hst⟩ := hy
    have hst' : Cond.instanceMethod y ∈ gw_tbl ∧ Cond.selects y.cls y y ∈ gw_tbl := by simpa using hst
    have ht := C.2.2.2.1
    have he : (wl ad (xC X) w NF)[c]? = some (ad c, .inr (ci, jfs ad w c fs)) := by rw [wl_at hc]; simp only [jcell, hs]
    have e0 : jc ad (2, ((c + 1 : Nat) : Int)) = .ref (ad c) := jc_rf
    have hB : ∀ q, AF ad q → xA X q := fun q ⟨c, hc, e⟩ => by rw [e]; exact hI.2 c hc
    have hrun : vx_Run (xp X) (xl X) (xe X) (xR X) (xs X) (xm X) (xa X) (xb X) (xM X) (xc X) H locs k n 1 6 (F0 (xm X) pc ls ((avs.reverse ++ (2, ((c + 1 : Nat) : Int)) :: S).map (jc ad))) (S.map (jc ad)) (QBX (xD X) (xC X) ad q (Value.ref (ad c) :: avs.map (jc ad)).toArray) (XCX (xD X) (xC X) ad q) (AF ad) := by
      have hpre : PreV (xs X) H y.cls (ad c) (va_Pc (((2, ((c + 1 : Nat) : Int)) :: avs).map (jc ad)) (PBX (xD X) (xC X) ad w)) (avs.map (jc ad)) := ⟨PBX_blind, va_recv C.2.2.2.2.1 hP hcl he, fun U hU hW => ⟨by simp only [List.map_cons]; rw [e0], ⟨by rw [hU]; exact hP, va_K.moved hW.alike C.2.2.2.2.1, NW.warm hW C.2.2.2.2.2.2⟩, hZ.kept hV hW.alike hU hB, SX.warm hW hX⟩⟩
      have hsk : (F0 (xm X) pc ls ((avs.reverse ++ (2, ((c + 1 : Nat) : Int)) :: S).map (jc ad))).stack = (avs.map (jc ad)).reverse ++ .ref (ad c) :: S.map (jc ad) := by
        simp only [List.map_append, List.map_cons, List.map_reverse]; rw [e0]
      exact vx_runV ⟨C.1, C.2.1, C.2.2.2.2.2.1, C.2.2.1, ht⟩ hM ⟨callB_of na ht (gw_in hcode) rfl rfl rfl (ht _ hini) (ht _ hl) hd ⟨hR.1, by have := hR.2.1; show 8 + (mL + 11) + 60 * dep ≤ _; omega⟩, ht _ hst'.1, ht _ hst'.2⟩ hpre rfl (by simpa using hn) hl9.1 hsk (lv_room (jwords_room ad hS8)) d ⟨hR.2.2.1, hR.2.2.2⟩
    refine vrx_go hrun hV hI (fun H1 locs1 q9 ce hT1 hw1 hp1 P1 V1 hce hvm hcl9 => ?_) (fun H1 locs1 hne hj hw1 hp1 P1 V1 => ?_)
    · have hk2 := kx q9 q.2 o (by rw [← hT1]; exact ho) hw1 (fun _ => hp1) hL (fun v hv => by rw [List.mem_singleton.mp hv]; exact Int.natCast_nonneg q9) H1 locs1 ls P1 V1 hl9 hI
      exact vx_catch C.2.2.1 [] x9 [] htab (fun z hz => by cases hz) hcov h09 (ht _ hlk9) (va_Nw.use rfl (C.2.2.2.2.2.2 _ hca9)) hce hvm hcl9 hk2
    · exact kk q.1 q.2 hne o ho hw1 (fun _ => hp1) hL (fun v hv => by
        rcases List.mem_cons.mp hv with rfl | h
        · exact hj
        · exact hS v (List.mem_append_right _ (List.mem_cons_of_mem _ h))) H1 locs1 ls P1 V1 hl9 hI
end
theorem met_ofWH {l : Launch} {y : MethodName} {ws ws' : List Cond} {rm : Room} {Pc : Array Value → State → Prop} {Qc : Array Value → State → Outcome → State → Prop} {mc ms : Nat} {free : Addr → Prop} {cc : ByteArray} {maxL : Nat} {ret : Option FieldType} {hh : List (Nat × Nat × Nat × Nat)}
    (hy : plainName y.cls = true) (hw : ws = Cond.codeWith y cc maxL ret hh :: ws')
    (body : ∀ p e s m args below meth c s₁, BodyLoose p l y (headSpec ws rm) cc maxL ret e s m args below meth c s₁ → c.maxLocals = maxL → Pc args s →
      W p l e (headSpec ws rm).room s m args below meth c s.heap [] 0 0 (MQ below Qc args s mc ms free) (entryFrame m args maxL)) : Met l y ws rm Pc Qc mc ms free := by
  refine MetFree.of_bodyS (code := cc) (maxLocals := maxL) (ret := ret) hy ?_ ?_
  · intro args s m h hn
    obtain ⟨m9, meth, c, hn9, h1, h2, h3, h4, -, h5, h6, -⟩ := Cond.codeWith_spec (atoms_spec (ws := ws) h _ (by rw [hw]; exact List.mem_cons_self))
    cases hn.symm.trans hn9
    exact ⟨meth, c, h1, h2, h3, h4, h5, h6⟩
  · intro p e s m args below meth c s₁ B hml hP _
    have hh0 : s₁.heap = s.heap := by rw [B.state]; rfl
    obtain ⟨t, a1, o, b1, b2, b3⟩ := body p e s m args below meth c s₁ B hml hP s₁ hh0 (Stand.of_body B)
    exact ⟨t, o, a1, b1, b2, ⟨b3.1, b3.2⟩⟩
/-- a static helper with one handler -/
def CtH (y : MethodName) (cc : ByteArray) (mL : Nat) (hh : List (Nat × Nat × Nat × Nat)) (dep : Nat) (avs : List jv) (w : Wd) (g : Option (Int × Wd)) : Prop :=
  ∀ (l : Launch) (D : va_G) (cA : Nat → ClassId) (ad : Nat → Nat) (o : Int × Wd), l.stackTraces = false → g = some o → wok w → wpt w → (∀ v ∈ avs, jo v) → jadd ad →
    Met l y (Cond.codeWith y cc mL (some .int) hh :: gw_tbl) (rmX dep) (va_Pc (avs.map (jc ad)) (PBX D cA ad w)) (QB D cA ad 0 o) 1 6 (AF ad)
/-- the helper's own end -/
def RtH (X : jX) (Qf : Int × Wd → State → Prop) (ad : Nat → Nat) (cc : ByteArray) : Prop :=
  ∀ (pc : Nat) (w : Wd) (L : List (Nat × jv)) (r : Int), decode cc pc = .ok (.ireturn, 1) → VF X Qf ad NF 1 6 w pc L [(0, r)] (some (r, w))
theorem cth_of {y : MethodName} {cc : ByteArray} {mL dep : Nat} {hh : List (Nat × Nat × Nat × Nat)} {avs : List jv} {w : Wd} {g : Option (Int × Wd)} (hy : plainName y.cls = true) (hlen : jwords avs ≤ mL)
    (hb : ∀ (X : jX) (Qf : Int × Wd → State → Prop) (ad : Nat → Nat), Cx X cc y.cls → xn X = mL → xR X = rmX dep → (xl X).stackTraces = false → ZX (xA X) (xs X) → SX (xs X) → (xc X).exceptionTable.toList = tableOf hh → RtH X Qf ad cc → VF X Qf ad NF 0 0 w 0 (jargs 0 avs) [] g) : CtH y cc mL hh dep avs w g := by
  intro l D cA ad o hst ho hw hp ha hinj
  refine met_ofWH (cc := cc) (maxL := mL) (ret := some .int) (hh := hh) hy rfl ?_
  intro p e s m args below meth c s₁ B hml hv
  obtain ⟨rfl, ⟨hP, hK, hNW⟩, hZX, hSX⟩ := hv
  have hts := atoms_spec (ws := Cond.codeWith y cc mL (some .int) hh :: gw_tbl) B.pre
  have htab := vx_table (x := y) B (hts _ List.mem_cons_self)
  have hr := B.returns
  have hlocks := B.notSynchronized
  let X : jX := (p, l, e, rmX dep, s, m, (avs.map (jc ad)).toArray, below, meth, c, D, cA, AF ad, mL)
  have C : Cx X cc y.cls := ⟨B.exec, B.bytes, findClass_of_methodNamed B.named, fun w hw => hts w (List.mem_cons_of_mem _ hw), hK, hml, hNW⟩
  have hS : va_S (AF ad) s.heap s.heap [] := va_S.rf
  have hIn : jinj ad NF (xA X) := ⟨hinj, fun i hi => ⟨i, hi, rfl⟩⟩
  have hl := lv_entry (avs.map (jc ad)) (n := mL) (by rw [jwords_eq]; exact hlen)
  rw [← jargs_eq ad avs 0] at hl
  rw [lg_entry_eq]
  refine hb X (fun o => MQ below (QB D cA ad 0 o) (avs.map (jc ad)).toArray s 1 6 (AF ad)) ad C rfl rfl hst hZX hSX htab ?_ o ho hw (fun _ => hp) (jargs_jo avs 0 ha) (fun _ h => by cases h) s.heap [] _ hP hS hl hIn
  intro pc w' L r hd o' ho' hw' hp' hL' hS' H locs ls hP' hV' hl' hI'
  cases ho'
  have hj : jo (0, r) := hS' (0, r) (List.mem_singleton.mpr rfl)
  have hfree : ∀ q ∈ locs, AF ad q.base := fun q h => hV'.2.2 q h
  exact W.iret B.exec B.bytes hr (fun t ht hW => ⟨⟨rfl, hj, hw', hp' rfl, by rw [ht]; exact hP'⟩, hV'.F ht⟩) hfree hd hlocks
theorem vf_astore3 {X : jX} {cc : ByteArray} {own : String} {Qf : Int × Wd → State → Prop} {ad : Nat → Nat} {N k n pc : Nat} {w : Wd} {L L' : List (Nat × jv)} {S : List jv} {g : Option (Int × Wd)} {i nL : Nat} {x : Int} (C : Cx X cc own) (d : decode cc pc = .ok (.astore i, 2)) (ps : List Nat) (h : jrest L i 3 ps L') (hn : xn X = nL) (hb : i < nL) (kk : VF X Qf ad N k n w (pc + 2) L' S g) : VF X Qf ad N k n w pc L ((3, x) :: S) g := by
  subst hn
  intro o ho hw hp hL hS H locs ls hP hV hl hI
  exact lv_astore C.1 C.2.1 d hl hb rfl fun ls' hl' => kk o ho hw hp (jrest_ok h hL) (al_t hS) H locs ls' hP hV (lv_sup hl' (fun q hq => jrest_in (ad := ad) (v := (3, x)) h rfl q (List.mem_cons_of_mem _ hq))) hI
theorem vf_astore3_n {X : jX} {cc : ByteArray} {own : String} {Qf : Int × Wd → State → Prop} {ad : Nat → Nat} {N k n pc : Nat} {w : Wd} {L L' : List (Nat × jv)} {S : List jv} {g : Option (Int × Wd)} {f : Fin 4} {i nL : Nat} {x : Int} (C : Cx X cc own) (d : decode cc pc = .ok (.astore_n f, 1)) (ps : List Nat) (h : jrest L i 3 ps L') (hn : xn X = nL) (hb : i < nL) (hf : (f : Nat) = i) (kk : VF X Qf ad N k n w (pc + 1) L' S g) : VF X Qf ad N k n w pc L ((3, x) :: S) g := by
  subst hn
  intro o ho hw hp hL hS H locs ls hP hV hl hI
  exact lv_astore_n C.1 C.2.1 d hf hl hb rfl fun ls' hl' => kk o ho hw hp (jrest_ok h hL) (al_t hS) H locs ls' hP hV (lv_sup hl' (fun q hq => jrest_in (ad := ad) (v := (3, x)) h rfl q (List.mem_cons_of_mem _ hq))) hI
end
section
theorem cy_E_of : CY y_E_of prog_1_method_6_code 3 (some .int) 2 false := cy_i 84 1127 1125 1126 (by decide +kernel)
theorem cy_E_row : CY y_E_row prog_1_method_43_code 2 (some .int) 1 false := cy_i 84 1206 1204 1205 (by decide +kernel)
theorem sh_82 : sh 82 = some (.inr (1, 1, [])) := rfl
def y_A_of : MethodName := ⟨"EachBringsAnotherLaw", "of", "(LEachBringsAnother;II[J)I"⟩
def y_A_row : MethodName := ⟨"EachBringsAnotherLaw", "row", "(LEachBringsAnother;I[J)I"⟩
theorem kA_13 : Cond.classLink "EachBringsAnotherLaw" 13 nse ∈ gw_tbl := mem_h 1123 (by decide +kernel)
theorem kA_ca : Cond.castable nse nse ∈ nw_tbl := mem_nh 1130 (by decide +kernel)
theorem kA_7 : Cond.methodLink "EachBringsAnotherLaw" 7 y_E_of ∈ gw_tbl := mem_h 1124 (by decide +kernel)
theorem kA_15 : Cond.methodLink "EachBringsAnotherLaw" 15 y_E_row ∈ gw_tbl := mem_h 1203 (by decide +kernel)
theorem jrm_x1 {X : jX} {d dep mL : Nat} (h : xR X = rmX d) (hd : (decide (dep + 1 ≤ d) && decide (mL ≤ 41)) = true) : jrm X dep mL (0 + 1) (0 + 6) := by
  simp only [Bool.and_eq_true, decide_eq_true_eq] at hd
  unfold jrm
  rw [h]
  simp only [rmX]
  omega
def f_A_of (v1 v2 : Int) (w : Wd) : Option (Int × Wd) :=
  jcall (f_E_of v1 v2 w) fun r w1 =>
  if r = THR then some (1, w1) else
  jgd ((0 : Int) ≤ (0 : Int) ∧ (0 : Int) < 1) <|
  jlw (st w1 82 (0 : Int).toNat r) fun w2 =>
  some (0, w2)
theorem ct_A_of (v1 v2 : Int) (w : Wd) : CtH y_A_of method_3_code 5 [(0, 10, 13, 13)] 9 [(2, 1), (0, v1), (0, v2), (2, 83)] w (f_A_of v1 v2 w) := by
  refine cth_of (by decide +kernel) (Nat.le_of_ble_eq_true rfl) ?_
  intro X Qf ad C hn hR hst hZ hX htab hr
  unfold f_A_of
  show VF X Qf ad NF 0 0 w 0 [(0, (2, 1)), (1, (0, v1)), (2, (0, v2)), (3, (2, 83))] [] _
  refine vf_aload_n C (f := 3) (by decide +kernel) 3 rfl rfl ?_
  refine vf_iconst C (z := 0) (by decide +kernel) (jz rfl) ?_
  refine vf_aload_n C (f := 0) (by decide +kernel) 0 rfl rfl ?_
  refine vf_iload_n C (f := 1) (by decide +kernel) 1 rfl rfl ?_
  refine vf_iload_n C (f := 2) (by decide +kernel) 2 rfl rfl ?_
  refine vf_callX C cy_E_of kA_7 rfl (ct_E_of _ _ _) sh_0 (by decide) rfl (jrm_x1 hR rfl) rfl (S := [(0, 0), (2, 83)]) rfl (Nat.le_of_ble_eq_true rfl) (by decide +kernel) hst hZ hX (x9 := ⟨0, 10, 13, 13⟩) htab rfl (by decide) kA_13 kA_ca (fun q w' => ?_) (fun r w' hne => ?_)
  · refine vf_if _ (fun _ => ?_) (fun h => absurd rfl h)
    refine vf_astore3 C (i := 4) (L' := []) (by decide +kernel) [] (jrI rfl rfl) hn (by decide) ?_
    refine vf_iconst C (z := 1) (by decide +kernel) (jz rfl) ?_
    exact hr _ _ _ _ (by decide +kernel)
  · refine vf_if _ (fun h => absurd h hne) (fun _ => ?_)
    refine vf_i2l C (by decide +kernel) ?_
    refine vf_last C sh_82 (by decide) rfl (mz := 1) rfl (by decide +kernel) ?_
    refine vf_uw ?_
    refine vf_goto C (off := 7) (tgt := 17) (by decide +kernel) (by decide) ?_
    refine vf_iconst C (z := 0) (by decide +kernel) (jz rfl) ?_
    exact hr _ _ _ _ (by decide +kernel)
def f_A_row (v1 : Int) (w : Wd) : Option (Int × Wd) :=
  jcall (f_E_row v1 w) fun r w1 =>
  if r = THR then some (1, w1) else
  jgd ((0 : Int) ≤ (0 : Int) ∧ (0 : Int) < 1) <|
  jlw (st w1 82 (0 : Int).toNat r) fun w2 =>
  some (0, w2)
theorem ct_A_row (v1 : Int) (w : Wd) : CtH y_A_row method_4_code 4 [(0, 9, 12, 13)] 9 [(2, 1), (0, v1), (2, 83)] w (f_A_row v1 w) := by
  refine cth_of (by decide +kernel) (Nat.le_of_ble_eq_true rfl) ?_
  intro X Qf ad C hn hR hst hZ hX htab hr
  unfold f_A_row
  show VF X Qf ad NF 0 0 w 0 [(0, (2, 1)), (1, (0, v1)), (2, (2, 83))] [] _
  refine vf_aload_n C (f := 2) (by decide +kernel) 2 rfl rfl ?_
  refine vf_iconst C (z := 0) (by decide +kernel) (jz rfl) ?_
  refine vf_aload_n C (f := 0) (by decide +kernel) 0 rfl rfl ?_
  refine vf_iload_n C (f := 1) (by decide +kernel) 1 rfl rfl ?_
  refine vf_callX C cy_E_row kA_15 rfl (ct_E_row _ _) sh_0 (by decide) rfl (jrm_x1 hR rfl) rfl (S := [(0, 0), (2, 83)]) rfl (Nat.le_of_ble_eq_true rfl) (by decide +kernel) hst hZ hX (x9 := ⟨0, 9, 12, 13⟩) htab rfl (by decide) kA_13 kA_ca (fun q w' => ?_) (fun r w' hne => ?_)
  · refine vf_if _ (fun _ => ?_) (fun h => absurd rfl h)
    refine vf_astore3_n C (f := 3) (L' := []) (by decide +kernel) [] (jrI rfl rfl) hn (by decide) rfl ?_
    refine vf_iconst C (z := 1) (by decide +kernel) (jz rfl) ?_
    exact hr _ _ _ _ (by decide +kernel)
  · refine vf_if _ (fun h => absurd h hne) (fun _ => ?_)
    refine vf_i2l C (by decide +kernel) ?_
    refine vf_last C sh_82 (by decide) rfl (mz := 1) rfl (by decide +kernel) ?_
    refine vf_uw ?_
    refine vf_goto C (off := 6) (tgt := 15) (by decide +kernel) (by decide) ?_
    refine vf_iconst C (z := 0) (by decide +kernel) (jz rfl) ?_
    exact hr _ _ _ _ (by decide +kernel)
end
section
/-! CONSTRUCTORS: the cells lie side by side from the base b on -/
theorem kO_in : Cond.instanceMethod objectInit ∈ gw_tbl := mem_h 111 (by decide +kernel)
theorem kO_co : Cond.code objectInit ⟨#[0xb1]⟩ 1 none ∈ gw_tbl := mem_h 112 (by decide +kernel)
def nad (b : Nat) : Nat → Nat := fun i => b + i
def VN (X : jX) (Qf : Wd → State → Prop) (b : Nat) (L0 : List (Nat × Value)) (N k n : Nat) (w : Wd) (pc : Nat) (S : List Value) (w9 : Wd) : Prop :=
  wok w → (∀ c' k', N ≤ c' → w c' k' = 0) → ∀ (H : Heap) (locs : List Loc) (ls : Array Slot), H.size = b + N → va_P (xD X) cl (wl (nad b) (xC X) w N) H → va_S (xA X) (xs X).heap H locs → lv_has ls (xn X) L0 →
    W (xp X) (xl X) (xe X) (xR X) (xs X) (xm X) (xa X) (xb X) (xM X) (xc X) H locs k n (Qf w9) (F0 (xm X) pc ls S)
/-- the context of a constructor, beside Cx: new cells are its own, it has its name, the array class of Kept -/
def Cn (X : jX) (b : Nat) : Prop := (∀ q, (xs X).heap.size ≤ q → xA X q) ∧ (∀ i, xA X (b + i)) ∧ (xM X).name = "<init>" ∧ va_AO "EachBringsAnother$Kept" (xs X)
theorem nad_D {X : jX} {b N : Nat} {w : Wd} (h : ∀ i, xA X (b + i)) : va_D (xA X) (wl (nad b) (xC X) w N) := wl_D (X := X) (ad := nad b) ⟨fun i j _ _ e => Nat.add_left_cancel e, fun i _ => h i⟩
theorem wl_succ {ad : Nat → Nat} {cA : Nat → ClassId} {w : Wd} {N : Nat} : wl ad cA w (N + 1) = wl ad cA w N ++ [(ad N, jcell ad cA w N)] := by
  simp [wl, List.range_succ]
theorem jc_nad {b i : Nat} : jc (nad b) (2, ((i + 1 : Nat) : Int)) = .ref (b + i) := jc_rf
section
variable {X : jX} {cc cy : ByteArray} {own : String} {Qf : Wd → State → Prop} {b N k n pc idx n9 a0 : Nat} {L0 : List (Nat × Value)} {w w9 : Wd} {S : List Value} {fn fd : String} {T9 : u_T}
theorem vn_a0 (C : Cx X cc own) (h0 : L0[0]? = some (0, .ref a0)) (d : decode cc pc = .ok (.aload_n 0, 1)) (kk : VN X Qf b L0 N k n w (pc + 1) (.ref a0 :: S) w9) : VN X Qf b L0 N k n w pc S w9 := by
  intro hw hz H locs ls hsz hP hV hl
  exact lv_aload_n C.1 C.2.1 d rfl (lv_at hl 0 h0) (kk hw hz H locs ls hsz hP hV hl)
theorem vn_dup (C : Cx X cc own) {v : Value} (d : decode cc pc = .ok (.dup, 1)) (hv : v.category = 1) (kk : VN X Qf b L0 N k n w (pc + 1) (v :: v :: S) w9) : VN X Qf b L0 N k n w pc (v :: S) w9 := by
  intro hw hz H locs ls hsz hP hV hl
  exact lv_dup C.1 C.2.1 d hv (kk hw hz H locs ls hsz hP hV hl)
theorem vn_ic (C : Cx X cc own) {z : Int} (d : decode cc pc = .ok (.iconst z, 1)) (kk : VN X Qf b L0 N k n w (pc + 1) (.int (Int32.ofInt z) :: S) w9) : VN X Qf b L0 N k n w pc S w9 := by
  intro hw hz H locs ls hsz hP hV hl
  exact lv_iconst C.1 C.2.1 d rfl (kk hw hz H locs ls hsz hP hV hl)
theorem vn_bi (C : Cx X cc own) {z : Int} (d : decode cc pc = .ok (.bipush z, 2)) (hv : (Int8.ofInt z).toInt32 = Int32.ofInt z) (kk : VN X Qf b L0 N k n w (pc + 2) (.int (Int32.ofInt z) :: S) w9) : VN X Qf b L0 N k n w pc S w9 := by
  intro hw hz H locs ls hsz hP hV hl
  exact lv_bipush C.1 C.2.1 d hv (kk hw hz H locs ls hsz hP hV hl)
theorem vn_si (C : Cx X cc own) {z : Int} (d : decode cc pc = .ok (.sipush z, 3)) (hv : (Int16.ofInt z).toInt32 = Int32.ofInt z) (kk : VN X Qf b L0 N k n w (pc + 3) (.int (Int32.ofInt z) :: S) w9) : VN X Qf b L0 N k n w pc S w9 := by
  intro hw hz H locs ls hsz hP hV hl
  exact lv_sipush C.1 C.2.1 d hv (kk hw hz H locs ls hsz hP hV hl)
theorem vn_ldc (C : Cx X cc own) {z : Int} {i : Nat} (d : decode cc pc = .ok (.ldc i, 2)) {v : Int32} (hm : Cond.constant own i v ∈ gw_tbl) (hv : v = Int32.ofInt z) (kk : VN X Qf b L0 N k n w (pc + 2) (.int (Int32.ofInt z) :: S) w9) : VN X Qf b L0 N k n w pc S w9 := by
  subst hv
  intro hw hz H locs ls hsz hP hV hl
  exact lv_ldc C.1 C.2.1 C.2.2.1 (C.2.2.2.1 _ hm) d (kk hw hz H locs ls hsz hP hV hl)
theorem vn_obj (C : Cx X cc own) (hm : Cond.methodLink own idx objectInit ∈ gw_tbl) (hR : 1 ≤ (xR X).frames ∧ 60 ≤ (xR X).locals) (d : decode cc pc = .ok (.invokespecial idx, 3)) (kk : VN X Qf b L0 N k n w (pc + 3) [] w9) : VN X Qf b L0 N k n w pc [.ref a0] w9 := by
  intro hw hz H locs ls hsz hP hV hl
  refine W.objInit C.1 C.2.1 C.2.2.1 (C.2.2.2.1 _ hm) (C.2.2.2.1 _ kO_in) (C.2.2.2.1 _ kO_co) rfl (hl.1.trans C.2.2.2.2.2.1.symm) rfl d hR.1 (by show 2 * 0 + 0 + 12 ≤ _; omega) (kk hw hz H locs ls hsz hP hV hl)
theorem vn_astore_n (C : Cx X cc own) {f : Fin 4} {i nL a : Nat} {L1 : List (Nat × Value)} (d : decode cc pc = .ok (.astore_n f, 1)) (hf : (f : Nat) = i) (hn : xn X = nL) (hb : i < nL) (hL : (i, Value.ref a) :: L0.filter (fun q => !(q.1 == i) && !(q.1 + 1 == i && q.2.category == 2)) = L1) (kk : VN X Qf b L1 N k n w (pc + 1) S w9) : VN X Qf b L0 N k n w pc (.ref a :: S) w9 := by
  subst hn
  intro hw hz H locs ls hsz hP hV hl
  exact lv_astore_n C.1 C.2.1 d hf hl hb hL fun ls' hl' => kk hw hz H locs ls' hsz hP hV hl'
theorem vn_new (C : Cx X cc own) (_G : va_AO "EachBringsAnother$Kept" (xs X)) {ci : Nat} {fs : List (Nat × Nat)} {q : vw_C} (hs : sh N = some (.inl (ci, fs))) (hq : cl[ci]? = some q) (hl9 : fs.length = q.2.2) (hft : ∀ j, j < q.2.2 → ∀ ty : Nat → FieldType, tyL[ci]? = some ty → defaultValue (ty j) = jc (nad b) (jk (fs.getD j (0, 0)).1, 0)) (h1 : Cond.classLink own idx q.1 ∈ gw_tbl) (h2 : Cond.instantiable q.1 q.2.2 ∈ gw_tbl) (h3 : Cond.initialized q.1 ∈ gw_tbl) (hc : k + 1 ≤ (xR X).cells ∧ n + q.2.2 ≤ (xR X).slots) (d : decode cc pc = .ok (.new idx, 3))
    (kk : VN X Qf b L0 (N + 1) (k + 1) (n + q.2.2) w (pc + 3) (.ref (b + N) :: S) w9) : VN X Qf b L0 N k n w pc S w9 := by
  intro hw hz H locs ls hsz hP hV hl
  obtain ⟨hws, ⟨ty0, hty1, hty0⟩, hnm⟩ := cl_ok ci q hq
  have hz' : ∀ j, w N j = 0 := fun j => hz N j (Nat.le_refl _)
  have hKn := C.2.2.2.2.1.1 ci _ hq
  refine W.newcK C.1 C.2.1 C.2.2.1 (C.2.2.2.1 _ h1) (C.2.2.2.1 _ h2) (C.2.2.2.1 _ h3) rfl d hc.1 hc.2 hKn.2.1 rfl fun H1 kC hkC e1 z1 o1 => ?_
  have hk : ∀ (k : Nat) (x : Nat × va_E), (wl (nad b) (xC X) w N)[k]? = some x → H1[x.1]? = H[x.1]? := fun k x hx => o1 x.1 ((hP k x hx).lt)
  have hfs : ∀ j, j < q.2.2 → defaultValue (ty0 j) = vp_V (jfs (nad b) w N fs) j := fun j hj => by
    rw [hft j hj ty0 hty1]
    have hjl : j < fs.length := by rw [hl9]; exact hj
    have e : fs[j]? = some (fs[j].1, fs[j].2) := by simp [hjl]
    have e2 := jfs_at (ad := nad b) (w := w) (c := N) e
    unfold vp_V
    have e3 : (jfs (nad b) w N fs).getD j Value.null = ((jfs (nad b) w N fs)[j]?).getD Value.null := by rw [List.getD_eq_getElem?_getD]
    rw [e3, e2, hz']
    simp [List.getD_eq_getElem?_getD, hjl]
  have hS2 : va_S (xA X) (xs X).heap H1 locs := ⟨Nat.le_trans hV.1 (by omega), fun x h1 h2 => (o1 x (Nat.lt_of_lt_of_le h1 hV.1)).trans (hV.2.1 x h1 h2), hV.2.2⟩
  have hP2 : va_P (xD X) cl (wl (nad b) (xC X) w (N + 1)) H1 := by
    rw [wl_succ]
    refine (hP.kept hk).app (fun k x hx => ?_)
    have hz0 : k < 1 := (List.getElem?_eq_some_iff.mp hx).1
    rw [show k = 0 by omega] at hx
    cases hx
    show va_at _ _ (nad b N, jcell _ _ _ _) _
    simp only [jcell, hs]
    refine ⟨_, hq, ?_⟩
    have := (u_born ty0 C.2.2.2.1 hws hKn hkC e1 hty0).to hfs
    rw [hsz] at this
    exact this
  have hk2 := kk hw (fun c' k' h => hz c' k' (by omega)) H1 locs ls (by omega) hP2 hS2 hl
  rw [hsz]
  exact hk2
theorem vn_newa (C : Cx X cc own) {ak m : Nat} {ps : List Nat} {at9 : ArrayType} {z : Int} (hs : sh N = some (.inr (ak, m, ps))) (hak : ak < 6) (hak2 : ak ≠ 2) (hty : newarray.typeOf at9 = jft ak) (hzm : z = (m : Int)) (hm : m ≤ 1000000) (hcl : Cond.arrayClass (newarray.typeOf at9) ∈ gw_tbl) (hc : k + 1 ≤ (xR X).cells ∧ n + m ≤ (xR X).slots) (d : decode cc pc = .ok (.newarray at9, 2))
    (kk : VN X Qf b L0 (N + 1) (k + 1) (n + m) w (pc + 2) (.ref (b + N) :: S) w9) : VN X Qf b L0 N k n w pc (.int (Int32.ofInt z) :: S) w9 := by
  subst hzm
  intro hw hz H locs ls hsz hP hV hl
  have hmj : jo (0, (m : Int)) := ⟨by omega, by omega⟩
  have hn0 : ¬ Int32.ofInt (m : Int) < 0 := fun q => by
    have := (i32_lt hmj jo00).mp q
    omega
  have hnm : (Int32.ofInt (m : Int)).toNatClampNeg = m := by rw [ix_nat hmj (by omega)]; exact Int.toNat_natCast m
  have hby : m * componentBytes (newarray.typeOf at9) ≤ 536870912 := by
    have h8 : componentBytes (newarray.typeOf at9) ≤ 8 := by cases at9 <;> decide
    have := Nat.mul_le_mul hm h8
    omega
  have hz' : ∀ j, w N j = 0 := fun j => hz N j (Nat.le_refl _)
  refine va_newaK C.1 C.2.1 (C.2.2.2.1 _ hcl) rfl d rfl hn0 hnm hby hc.1 hc.2 rfl fun H1 cA e1 z1 o1 hAr hNm => ?_
  have hk : ∀ (k : Nat) (x : Nat × va_E), (wl (nad b) (xC X) w N)[k]? = some x → H1[x.1]? = H[x.1]? := fun k x hx => o1 x.1 ((hP k x hx).lt)
  have hcA : cA = xC X ak := by
    have h1 := (C.2.2.2.2.1.2 ak _ (jtys_at hak)).2
    rw [hty] at hNm
    have h2 : (xs X).vm.findClass ("[" ++ (jft ak).toString) = some (xC X ak) := by
      match ak, hak, hak2, h1 with
      | 0, _, _, h1 => exact h1
      | 1, _, _, h1 => exact h1
      | 2, _, h, _ => exact absurd rfl h
      | 3, _, _, h1 => exact h1
      | 4, _, _, h1 => exact h1
      | 5, _, _, h1 => exact h1
    exact Option.some.inj (hNm.symm.trans h2)
  have hS2 : va_S (xA X) (xs X).heap H1 locs := ⟨Nat.le_trans hV.1 (by omega), fun x h1 h2 => (o1 x (Nat.lt_of_lt_of_le h1 hV.1)).trans (hV.2.1 x h1 h2), hV.2.2⟩
  have hP2 : va_P (xD X) cl (wl (nad b) (xC X) w (N + 1)) H1 := by
    rw [wl_succ]
    refine (hP.kept hk).app (fun k x hx => ?_)
    have hz0 : k < 1 := (List.getElem?_eq_some_iff.mp hx).1
    rw [show k = 0 by omega] at hx
    cases hx
    show va_at _ _ (nad b N, jcell _ _ _ _) _
    simp only [jcell, hs]
    show H1[nad b N]? = some (vp_cell _ _)
    have e2 : H1[nad b N]? = some (arrV cA m (fun _ => defaultValue (newarray.typeOf at9))) := by
      have : nad b N = H.size := by rw [hsz]; rfl
      rw [this]; exact e1
    rw [e2, hcA, hty]
    congr 1
    match ak, hak, hak2 with
    | 0, _, _ => simp only [jar, vp_cell, hz']; rfl
    | 1, _, _ => simp only [jar, vp_cell, hz']; rfl
    | 2, _, h => exact absurd rfl h
    | 3, _, _ => simp only [jar, vp_cell, hz']; rfl
    | 4, _, _ => simp only [jar, vp_cell, hz']; rfl
    | 5, _, _ => simp only [jar, vp_cell, hz']; rfl
  have hk2 := kk hw (fun c' k' h => hz c' k' (by omega)) H1 locs ls (by omega) hP2 hS2 hl
  rw [hsz]
  exact hk2
theorem vn_newq (C : Cx X cc own) (G : Cn X b) {m : Nat} {ps : List Nat} {z : Int} (hs : sh N = some (.inr (2, m, ps))) (hzm : z = (m : Int)) (hm : m ≤ 1000000) (hcl : Cond.classLink own idx "EachBringsAnother$Kept" ∈ gw_tbl) (hc : k + 1 ≤ (xR X).cells ∧ n + m ≤ (xR X).slots) (d : decode cc pc = .ok (.anewarray idx, 3))
    (kk : VN X Qf b L0 (N + 1) (k + 1) (n + m) w (pc + 3) (.ref (b + N) :: S) w9) : VN X Qf b L0 N k n w pc (.int (Int32.ofInt z) :: S) w9 := by
  subst hzm
  intro hw hz H locs ls hsz hP hV hl
  have hmj : jo (0, (m : Int)) := ⟨by omega, by omega⟩
  have hn0 : ¬ Int32.ofInt (m : Int) < 0 := fun q => by
    have := (i32_lt hmj jo00).mp q
    omega
  have hnm : (Int32.ofInt (m : Int)).toNatClampNeg = m := by rw [ix_nat hmj (by omega)]; exact Int.toNat_natCast m
  have hz' : ∀ j, w N j = 0 := fun j => hz N j (Nat.le_refl _)
  refine W.anew C.1 C.2.1 C.2.2.1 (C.2.2.2.1 _ hcl) (va_AO.use G.2.2.2) rfl d rfl hn0 (by rw [hnm]; omega) hc.1 (by rw [hnm]; exact hc.2) fun cA kA comp f1 f2 f3 f4 => ?_
  generalize hH1 : H.push ({ cls := cA, slots := Array.replicate (Int32.ofInt (m : Int)).toNatClampNeg .null, vm := .none } : Cell) = H1
  have z1 : H1.size = H.size + 1 := by rw [← hH1, Array.size_push]
  have e1 : H1[H.size]? = some (arrV cA (Int32.ofInt (m : Int)).toNatClampNeg (fun _ => .null)) := by rw [← hH1, Array.getElem?_push_size, ← arrV_new]
  have o1 : ∀ q : Nat, q < H.size → H1[q]? = H[q]? := fun q hq => by rw [← hH1, Array.getElem?_push, if_neg (Nat.ne_of_lt hq)]
  have hk : ∀ (k : Nat) (x : Nat × va_E), (wl (nad b) (xC X) w N)[k]? = some x → H1[x.1]? = H[x.1]? := fun k x hx => o1 x.1 ((hP k x hx).lt)
  have hcA : cA = xC X 2 := by
    obtain ⟨kA9, comp9, g1, g2, g3, g4⟩ := (C.2.2.2.2.1.2 2 _ (jtys_at (by decide))).2
    first | exact Option.some.inj (f4.symm.trans g4) | exact Option.some.inj (f1.symm.trans g4) | exact Option.some.inj (f3.symm.trans g4)
  have hS2 : va_S (xA X) (xs X).heap H1 locs := ⟨Nat.le_trans hV.1 (by omega), fun x h1 h2 => (o1 x (Nat.lt_of_lt_of_le h1 hV.1)).trans (hV.2.1 x h1 h2), hV.2.2⟩
  have hP2 : va_P (xD X) cl (wl (nad b) (xC X) w (N + 1)) H1 := by
    rw [wl_succ]
    refine (hP.kept hk).app (fun k x hx => ?_)
    have hz0 : k < 1 := (List.getElem?_eq_some_iff.mp hx).1
    rw [show k = 0 by omega] at hx
    cases hx
    show va_at _ _ (nad b N, jcell _ _ _ _) _
    simp only [jcell, hs]
    show H1[nad b N]? = some (vp_cell _ _)
    have e2 : H1[nad b N]? = some (arrV cA m (fun _ => .null)) := by
      have : nad b N = H.size := by rw [hsz]; rfl
      rw [this, e1, hnm]
    rw [e2, hcA]
    simp only [jar, vp_cell, hz']
    rfl
  have hk2 := kk hw (fun c' k' h => hz c' k' (by omega)) H1 locs ls (by omega) hP2 hS2 hl
  rw [hsz]
  simpa only [hnm] using hk2
/-- the class ci's field i has a type of kind fk; a final one is own's own -/
def FNK (own : String) (ci i fk : Nat) : Prop := ∃ q ty, cl[ci]? = some q ∧ parseFieldDescriptor (q.2.1 i).2.2.1 = some ty ∧ ((q.2.1 i).2.2.2 = false ∨ ((q.2.1 i).2.2.2 = true ∧ (q.2.1 i).1 = own)) ∧ ((fk = 0 ∧ ty = .int) ∨ ((fk = 2 ∨ fk = 3) ∧ ((∃ C, ty = .object C) ∨ ∃ t, ty = .array t)))
theorem fit9 {ad : Nat → Nat} {fk : Nat} {z : Int} {ty : FieldType} (h : (fk = 0 ∧ ty = .int) ∨ ((fk = 2 ∨ fk = 3) ∧ ((∃ C, ty = .object C) ∨ ∃ t, ty = .array t))) : narrow ty (jc ad (jk fk, z)) = jc ad (jk fk, z) ∧ fits ty (jc ad (jk fk, z)) = true := by
  have key : ∀ ty, ((∃ C, ty = FieldType.object C) ∨ ∃ t, ty = FieldType.array t) → ∀ r, narrow ty (va_rf r) = va_rf r ∧ fits ty (va_rf r) = true := by
    intro ty h r
    rcases h with ⟨C, rfl⟩ | ⟨t, rfl⟩ <;> cases r <;> exact ⟨rfl, rfl⟩
  rcases h with ⟨rfl, rfl⟩ | ⟨rfl | rfl, h⟩
  · exact ⟨rfl, rfl⟩
  · exact key ty h _
  · exact key ty h _
theorem vn_put (C : Cx X cc own) (G : Cn X b) {c' ci fk z0 : Nat} {fs : List (Nat × Nat)} {i : Nat} {z : Int} {v : Value} (hm : Cond.fieldLink own idx own fn fd ∈ gw_tbl) (hq : ∃ q, cl[ci]? = some q ∧ i < q.2.2 ∧ (q.2.1 i).1 = own ∧ (q.2.1 i).2.1 = fn ∧ (q.2.1 i).2.2.1 = fd) (hf9 : FNK own ci i fk) (hs : sh c' = some (.inl (ci, fs))) (hk : fs[i]? = some (fk, z0)) (hc : c' < N) (hv : v = jc (nad b) (jk fk, z)) (hz9 : jo (jk fk, z)) (d : decode cc pc = .ok (.putfield idx, 3)) (kk : VN X Qf b L0 N k n (st w c' i z) (pc + 3) S w9) : VN X Qf b L0 N k n w pc (v :: .ref (b + c') :: S) w9 := by
  subst hv
  intro hw hz H locs ls hsz hP hV hl
  obtain ⟨q, h1, h2, e1, e2, e3⟩ := hq
  obtain ⟨q', ty, h1', hty, hfin, hkd⟩ := hf9
  rw [h1] at h1'; cases h1'
  have hgd : fs.getD i (0, 0) = (fk, z0) := by simp [List.getD_eq_getElem?_getD, hk]
  have hjA : jkA c' i = jk fk := by simp only [jkA, hs, hgd]
  have hw' : wok (st w c' i z) := st_wok hw (by rw [hjA]; exact hz9)
  have he : (wl (nad b) (xC X) w N)[c']? = some (b + c', .inr (ci, jfs (nad b) w c' fs)) := by rw [wl_at hc]; simp only [jcell, hs]; rfl
  obtain ⟨hn, hft⟩ := fit9 (ad := nad b) (z := z) hkd
  obtain ⟨hws, ⟨ty0, -, hty0⟩, hnm⟩ := cl_ok ci q h1
  have hset : (wl (nad b) (xC X) w N).set c' (b + c', .inr (ci, (jfs (nad b) w c' fs).set i (jc (nad b) (jk fk, z)))) = wl (nad b) (xC X) (st w c' i z) N :=
    wl_set (ad := nad b) hc (fun c9 h => by funext k'; exact st_c h) (by simp only [jcell, hs]; rw [jfs_set hk])
  have hlen : i < (jfs (nad b) w c' fs).length := by rw [jfs_len]; exact (List.getElem?_eq_some_iff.mp hk).1
  have hlk : (Cond.fieldLink own idx (q.2.1 i).1 (q.2.1 i).2.1 (q.2.1 i).2.2.1).before (xa X) (xs X) = true := by rw [e1, e2, e3]; exact C.2.2.2.1 _ hm
  have hK := C.2.2.2.2.1
  have hap := va_apart (own := own) C.2.2.2.1 hws ty0 hty0 hnm hK h1
  obtain ⟨r, hr1, cell, q1, q2, q3, q4⟩ := hP c' _ he
  have hr : r = q := Option.some.inj (hr1.symm.trans h1)
  subst hr
  obtain ⟨hSl, hfc, kC, hkC, hkind⟩ := hK.1 ci _ h1
  obtain ⟨cf, kf, fi, f, hi, hsl⟩ := hSl i h2
  have hst := (u_facts hfc hkC (u_lays C.2.2.2.1 hws h2) hi).1
  have hlay := C.2.2.2.1 _ (hws _ (u_in_lay h2))
  unfold u_lay at hlay
  have hD := nad_D (X := X) (N := N) (w := w) G.2.1
  have fin : ∀ (H' : Heap), H'[b + c']? = some (cell.setSlot (((xD X).2 ci) i) (jc (nad b) (jk fk, z))) → H'.size = H.size → (∀ q, q ≠ b + c' → H'[q]? = H[q]?) → va_P (xD X) cl ((wl (nad b) (xC X) w N).set c' (b + c', .inr (ci, (jfs (nad b) w c' fs).set i (jc (nad b) (jk fk, z))))) H' := fun H' g1 g2 g3 =>
    hP.set hD he ⟨_, h1, t_OB.to (V := updV (vp_V (jfs (nad b) w c' fs)) i (jc (nad b) (jk fk, z))) ⟨_, g1, q2, q3, t_set q4 hap h2 _⟩ (fun j _ => vp_updV_set hlen _ j)⟩ g3
  have go : ∀ (H1 : Heap) (locs1 : List Loc), H1.size = H.size → va_P (xD X) cl ((wl (nad b) (xC X) w N).set c' (b + c', .inr (ci, (jfs (nad b) w c' fs).set i (jc (nad b) (jk fk, z))))) H1 → va_S (xA X) (xs X).heap H1 locs1 → W (xp X) (xl X) (xe X) (xR X) (xs X) (xm X) (xa X) (xb X) (xM X) (xc X) H1 locs1 k n (Qf w9) (F0 (xm X) (pc + 3) ls S) := fun H1 locs1 hz1 P1 V1 =>
    kk hw' (fun c9 k9 h => by rw [st_c (by omega)]; exact hz c9 k9 h) H1 locs1 ls (by omega) (by rw [← hset]; exact P1) V1 hl
  rcases hfin with hfin | ⟨hfin, hdecl⟩
  · rw [if_neg (by rw [hfin]; decide)] at hlay
    have h6 := u_store hfc hkC hkind hlay hi hty hn hft
    refine W.putK C.1 C.2.1 (f := f) ⟨C.2.2.1, hlk, ⟨_, _, _, hi⟩, hst⟩ (by rw [q2]; exact h6) q1 q3 (by rw [hsl]; exact k2_hasslot (q4 i h2)) rfl rfl d fun H' g1 g2 g3 => ?_
    rw [hsl] at g1 ⊢
    exact go H' _ g2 (fin H' g1 g2 g3) (hV.put g2 g3 (G.2.1 c'))
  · rw [if_pos hfin] at hlay
    have hcf : (xm X).cls = cf := by
      obtain ⟨_, _, c9, _, _, _, -, -, hf', -, -, -, hown2, -⟩ := Cond.laysFinal_spec hlay
      have e9 : c9 = cf := by have := hi.symm.trans hf'; simp at this; exact this.1.symm
      rw [hdecl] at hown2
      rw [← e9]; exact Option.some.inj (C.2.2.1.symm.trans hown2)
    have h6 := u_fits hfc hkC hkind (Or.inr hlay) hi hty hn hft
    refine W.putFinK C.1 C.2.1 C.2.2.1 hlk hi hst hcf G.2.2.1 (by rw [q2]; exact h6) q1 q3 (by rw [hsl]; exact k2_hasslot (q4 i h2)) rfl rfl d fun H' g1 g2 g3 => ?_
    rw [hsl] at g1 ⊢
    exact go H' _ g2 (fin H' g1 g2 g3) (hV.put g2 g3 (G.2.1 c'))
theorem vn_ast (C : Cx X cc own) (G : Cn X b) {a v m ci : Nat} {ps : List Nat} {fs : List (Nat × Nat)} {i : Int} (hs : sh a = some (.inr (2, m, ps))) (ha : a < N) (hsv : sh v = some (.inl (ci, fs))) (hv : v < N) (hci : cl[ci]? = some ("EachBringsAnother$Kept", T9, n9)) (hi : jo (0, i)) (hin : 0 ≤ i ∧ i < (m : Int)) (d : decode cc pc = .ok (.aastore, 1)) (kk : VN X Qf b L0 N k n (st w a i.toNat ((v + 1 : Nat) : Int)) (pc + 1) S w9) : VN X Qf b L0 N k n w pc (.ref (b + v) :: .int (Int32.ofInt i) :: .ref (b + a) :: S) w9 := by
  intro hw hz H locs ls hsz hP hV hl
  have hw' : wok (st w a i.toNat ((v + 1 : Nat) : Int)) := st_wok hw (by simp only [jkA, hs]; exact Int.natCast_nonneg _)
  have he : (wl (nad b) (xC X) w N)[a]? = some (b + a, .inl (xC X 2, jar (nad b) w a 2 m)) := by rw [wl_at ha]; simp only [jcell, hs]; rfl
  have hev : (wl (nad b) (xC X) w N)[v]? = some (b + v, .inr (ci, jfs (nad b) w v fs)) := by rw [wl_at hv]; simp only [jcell, hsv]; rfl
  have hK := C.2.2.2.2.1
  have hD := nad_D (X := X) (N := N) (w := w) G.2.1
  have hix := ix_in hi hin
  have hlt : (Int32.ofInt i).toNatClampNeg < m := Nat.not_le.mp fun q => hix (Or.inr q)
  have h0 : ¬ Int32.ofInt i < 0 := fun q => hix (Or.inl q)
  obtain ⟨r', hr', cellV, g1, g2, g3, -⟩ := hP v _ hev
  have hcls := (hK.1 ci _ hci).2
  obtain ⟨kA, comp, k1, k2, k3, -⟩ := (hK.2 2 _ (jtys_at (by decide))).2
  have hcomp : comp = (xD X).1 ci := Option.some.inj (k3.symm.trans hcls.1)
  subst hcomp
  obtain ⟨kC, hkC, -⟩ := hcls.2
  refine W.aast C.1 C.2.1 (hP a _ he) (fun q h => by cases h) (fun h => by cases h) k1 k2 rfl hkC ⟨h0, by show _ < (arrV _ _ _).slots.size; rw [arrV_size]; exact hlt⟩ g1 (fun q h => by rw [g3] at h; cases h) (by rw [g2]; exact hkC) (by rw [g2]; exact va_assign hcls) rfl rfl d fun H1 e z oq => ?_
  have hset : (wl (nad b) (xC X) w N).set a (b + a, jcell (nad b) (xC X) (st w a i.toNat ((v + 1 : Nat) : Int)) a) = wl (nad b) (xC X) (st w a i.toNat ((v + 1 : Nat) : Int)) N :=
    wl_set (ad := nad b) ha (fun c9 h => by funext k'; exact st_c h) rfl
  refine kk hw' (fun c9 k9 h => by rw [st_c (by omega)]; exact hz c9 k9 h) H1 _ ls (by omega) ?_ (hV.put z oq (G.2.1 a)) hl
  rw [← hset]
  refine hP.set hD he ?_ oq
  show va_at _ _ (b + a, jcell _ _ _ a) _
  simp only [jcell, hs]
  show H1[b + a]? = some (vp_cell _ _)
  rw [e]
  simp only [jar]
  rw [vp_cell_q, vp_cell_q, arrV_store]
  congr 2
  funext q
  rw [ix_nat hi hin.1]
  by_cases hq : q = i.toNat
  · subst hq
    simp only [updV, st_eq, if_pos]
    rw [show rfz (nad b) ((v + 1 : Nat) : Int) = some (b + v) by
      unfold rfz
      rw [if_neg (by omega)]
      congr 1
      show b + (((v + 1 : Nat) : Int) - 1).toNat = b + v
      omega]
    rfl
  · simp only [updV, if_neg hq, st_k hq]
end
end
section
/-! constructors: contracts, calls, ends -/
def rmN (dep k n : Nat) : Room := { frames := dep, cells := k, slots := n, locals := 60 * dep }
def AN (b : Nat) : Nat → Prop := fun q => b ≤ q
def PN (D : va_G) (cA : Nat → ClassId) (b N : Nat) (w : Wd) : State → Prop := fun U => U.heap.size = b + N ∧ va_P D cl (wl (nad b) cA w N) U.heap ∧ va_K D cl (jtys cA) U ∧ NW U ∧ va_AO "EachBringsAnother$Kept" U
def QN (D : va_G) (cA : Nat → ClassId) (b N : Nat) (w : Wd) : Array Value → State → Outcome → State → Prop := fun _ st oc t =>
  (oc = .returned none ∧ wok w ∧ (∀ c' k', N ≤ c' → w c' k' = 0) ∧ t.heap.size = b + N ∧ va_P D cl (wl (nad b) cA w N) t.heap) ∧ va_F (AN b) st t
/-- the constructor y of the cell c: from N0 cells to N1, the world F w -/
def CtN (y : MethodName) (cc : ByteArray) (mL dep c N0 N1 k n : Nat) (F : Wd → Wd) : Prop :=
  ∀ (l : Launch) (D : va_G) (cA : Nat → ClassId) (b : Nat) (w : Wd), wok w → (∀ c' k', N0 ≤ c' → w c' k' = 0) →
    Met l y (wsy y cc mL none) (rmN dep k n) (va_Pc [.ref (b + c)] (PN D cA b N0 w)) (QN D cA b N1 (F w)) k n (AN b)
def RtN (X : jX) (Qf : Wd → State → Prop) (b c N1 k n : Nat) (cc : ByteArray) : Prop := ∀ (pc : Nat) (w : Wd), decode cc pc = .ok (.return_, 1) → VN X Qf b [(0, .ref (b + c))] N1 k n w pc [] w
theorem ctn_of {y : MethodName} {cc : ByteArray} {mL dep c N0 N1 k n : Nat} {F : Wd → Wd} (hy : plainName y.cls = true) (hyn : y.name = "<init>") (hmL : 1 ≤ mL)
    (hb : ∀ (X : jX) (Qf : Wd → State → Prop) (b : Nat) (w : Wd), Cx X cc y.cls → Cn X b → xA X = AN b → xn X = mL → xR X = rmN dep k n → RtN X Qf b c N1 k n cc → VN X Qf b [(0, .ref (b + c))] N0 0 0 w 0 [] (F w)) : CtN y cc mL dep c N0 N1 k n F := by
  intro l D cA b w hw hz
  refine Met.ofW (cc := cc) (maxL := mL) (ret := none) hy rfl ?_
  intro p e s m args below meth c1 s₁ B hml hv
  obtain ⟨rfl, hsz, hP, hK, hNW, hAO⟩ := hv
  have hts := atoms_spec (ws := wsy y cc mL none) B.pre
  have hr := B.returns
  have hlocks := B.notSynchronized
  let X : jX := (p, l, e, rmN dep k n, s, m, ([Value.ref (b + c)] : List Value).toArray, below, meth, c1, D, cA, AN b, mL)
  have C : Cx X cc y.cls := ⟨B.exec, B.bytes, findClass_of_methodNamed B.named, fun w hw => hts w (List.mem_cons_of_mem _ hw), hK, hml, hNW⟩
  have G : Cn X b := ⟨fun q hq => by have h2 : s.heap.size ≤ q := hq; show b ≤ q; omega, fun i => Nat.le_add_right b i, by rw [← hyn]; exact (name_of_methodNamed B.named B.method).1, hAO⟩
  have hS : va_S (AN b) s.heap s.heap [] := va_S.rf
  have hl := lv_entry ([.ref (b + c)]) (n := mL) hmL
  rw [lg_entry_eq]
  refine hb X (fun w9 => MQ below (QN D cA b N1 w9) ([Value.ref (b + c)] : List Value).toArray s k n (AN b)) b w C G rfl rfl rfl ?_ hw hz s.heap [] _ hsz hP hS hl
  intro pc w' hd hw' hz' H locs ls hsz' hP' hV' hl'
  exact W.vret B.exec B.bytes hr (fun t ht hW => ⟨⟨rfl, hw', hz', by rw [ht]; exact hsz', by rw [ht]; exact hP'⟩, hV'.F ht⟩) (fun q h => hV'.2.2 q h) hd hlocks
/-- a constructor by its words -/
def CYN (y : MethodName) (cc : ByteArray) (mL : Nat) : Prop :=
  (y.cls ≠ "java/lang/invoke/MethodHandle" ∧ y.cls ≠ "java/lang/invoke/VarHandle" ∧ (parseMethodDescriptor y.desc).map (fun d => d.parameters.length) = some 0) ∧ y.name = "<init>" ∧
  Cond.initialized y.cls ∈ gw_tbl ∧ Cond.code y cc mL none ∈ gw_tbl ∧ Cond.instanceMethod y ∈ gw_tbl
theorem PN_blind {avs : List Value} {D : va_G} {cA : Nat → ClassId} {b N : Nat} {w : Wd} : FrameBlind (va_Pc avs (PN D cA b N w)) := fun a U g mk h =>
  ⟨h.1, h.2.1, h.2.2.1, va_K.moved (u := U) (U := U.calling g mk a) (Vm.Alike.refl U.vm) h.2.2.2.1, NW.same (s := U) (U := U.calling g mk a) rfl h.2.2.2.2.1, va_AO.moved (u := U) (U := U.calling g mk a) (Vm.Alike.refl U.vm) h.2.2.2.2.2⟩
theorem vn_call {X : jX} {cc cy : ByteArray} {own : String} {Qf : Wd → State → Prop} {b c9 N N1 k n k9 n9 pc idx mL dep : Nat} {w w9 : Wd} {L0 : List (Nat × Value)} {S : List Value} {y : MethodName} {F : Wd → Wd} (C : Cx X cc own) (G : va_AO "EachBringsAnother$Kept" (xs X)) (hA : xA X = AN b) (hy : CYN y cy mL) (hl : ML own idx y) (hct : CtN y cy mL dep c9 N N1 k9 n9 F) (hR : dep + 1 ≤ (xR X).frames ∧ 19 + mL + 60 * dep ≤ (xR X).locals ∧ k + k9 ≤ (xR X).cells ∧ n + n9 ≤ (xR X).slots) (hS8 : (S.map fun v => v.category).sum ≤ 8) (d : decode cc pc = .ok (.invokespecial idx, 3))
    (kk : VN X Qf b L0 N1 (k + k9) (n + n9) (F w) (pc + 3) S w9) : VN X Qf b L0 N k n w pc (.ref (b + c9) :: S) w9 := by
  intro hw hz H locs ls hsz hP hV hl9
  have hM := hct (xl X) (xD X) (xC X) b w hw hz
  obtain ⟨hd, hyn, hini, hcode, hin⟩ := hy
  have ht := C.2.2.2.1
  have hrun : va_Run (xp X) (xl X) (xe X) (xR X) (xs X) (xm X) (xa X) (xb X) (xM X) (xc X) H locs k n k9 n9 (F0 (xm X) pc ls (.ref (b + c9) :: S)) S (QN (xD X) (xC X) b N1 (F w) (Value.ref (b + c9) :: []).toArray) (AN b) := by
    have hpre : PreS (xs X) H (va_Pc [.ref (b + c9)] (PN (xD X) (xC X) b N w)) (.ref (b + c9) :: []) := ⟨PN_blind, fun U hU hW => ⟨rfl, by rw [hU]; exact hsz, by rw [hU]; exact hP, va_K.moved hW.alike C.2.2.2.2.1, NW.warm hW C.2.2.2.2.2.2, va_AO.moved hW.alike G⟩⟩
    rcases hl with hlk | ⟨host, hlk⟩
    · exact va_runI ⟨C.1, C.2.1, C.2.2.2.2.2.1, C.2.2.1, ht⟩ hM ⟨callB_of 0 ht (gw_in hcode) rfl rfl rfl (ht _ hini) (ht _ hlk) hd ⟨hR.1, by have := hR.2.1; show 8 + (mL + 11) + 60 * dep ≤ _; omega⟩, hyn, ht _ hin⟩ hpre rfl rfl hl9.1 rfl (lv_room hS8) d ⟨hR.2.2.1, hR.2.2.2⟩
    · exact va_runIN ⟨C.1, C.2.1, C.2.2.2.2.2.1, C.2.2.1, ht⟩ hM ⟨va_cnB (host := host) 0 ht (gw_in hcode) rfl rfl rfl (C.2.2.2.2.2.2 _ hlk) (ht _ hini) hd ⟨hR.1, by have := hR.2.1; show 8 + (mL + 11) + 60 * dep ≤ _; omega⟩, hyn, ht _ hin⟩ hpre rfl rfl hl9.1 rfl (lv_room hS8) d ⟨hR.2.2.1, hR.2.2.2⟩
  intro T hT XX
  obtain ⟨v, st₀, t, T', L, h0, X', hL, e1, e2, ⟨⟨hv, hw1, hz1, hs1, hP1⟩, hzz, hk⟩, st⟩ := hrun T hT XX
  cases hv
  rw [h0] at hzz hk
  obtain ⟨t2, a1, b1⟩ := kk hw1 hz1 T'.heap (locs ++ L) ls (by rw [e1]; exact hs1) (by rw [e1]; exact hP1)
    ⟨Nat.le_trans hV.1 (by rw [e1]; exact hzz), fun q h1 h2 => by rw [e1, hk q (Nat.lt_of_lt_of_le h1 hV.1) (fun z => h2 (by rw [hA]; exact z))]; exact hV.2.1 q h1 h2, fun q hq => by
      rcases List.mem_append.mp hq with h | h
      · exact hV.2.2 q h
      · rw [hA]; exact hL q h⟩ hl9 T' rfl X'
  exact ⟨t2, st t2 a1, b1⟩
end
