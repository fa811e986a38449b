/-! THE LAW'S TWO HELPERS: a call that may throw, caught -/
section
variable {X : jX} {cc cy : ByteArray} {own : String} {Qf : Int × Wd → State → Prop} {ad : Nat → Nat} {k n pc idx mL dep na : Nat} {w : Wd} {L : List (Nat × jv)} {S S0 avs : List jv} {y : MethodName} {rt : Option FieldType}
theorem ZX.kept {A : Nat → Prop} {s U : State} {H : Heap} {B : Nat → Prop} {locs : List Loc} (h : ZX A s) (hV : va_S A s.heap H locs) (hW : s.vm.Alike U.vm) (hU : U.heap = H) (hB : ∀ q, B q → A q) : ZX B U := by
  obtain ⟨h1, h2⟩ := h
  refine ⟨?_, ?_⟩
  · rw [hU]; exact (vx_Zq.moved hW (h1.kept hV.2.1)).narrow hB
  · rw [hU]; exact (vx_Zq.moved hW (h2.kept hV.2.1)).narrow hB
theorem PBX_blind {avs : List Value} {D : va_G} {cA : Nat → ClassId} {ad : Nat → Nat} {w : Wd} : FrameBlind (va_Pc avs (PBX D cA ad w)) := fun a U g mk h =>
  ⟨h.1, (PB_blind (avs := avs) a U g mk ⟨h.1, h.2.1⟩).2, ⟨vx_Zq.moved (u := U) (U := U.calling g mk a) (Vm.Alike.refl U.vm) h.2.2.1.1, vx_Zq.moved (u := U) (U := U.calling g mk a) (Vm.Alike.refl U.vm) h.2.2.1.2⟩, SX.same (s := U) (U := U.calling g mk a) rfl h.2.2.2⟩
theorem vrx_go {H : Heap} {locs : List Loc} {ls : Array Slot} {st0 rest : List Value} {a : Array Value} {o : Int × Wd} {Q : State → Prop}
    (hr : vx_Run (xp X) (xl X) (xe X) (xR X) (xs X) (xm X) (xa X) (xb X) (xM X) (xc X) H locs k n 1 6 (F0 (xm X) pc ls st0) rest (QBX (xD X) (xC X) ad o a) (XCX (xD X) (xC X) ad o) (AF ad)) (hS : va_S (xA X) (xs X).heap H locs) (hI : jinj ad NF (xA X))
    (kx : ∀ (H1 : Heap) (locs1 : List Loc) (q : Addr) (ce : Cell), o.1 = THR → wok o.2 → wpt o.2 → va_P (xD X) cl (wl ad (xC X) o.2 NF) H1 → va_S (xA X) (xs X).heap H1 locs1 → H1[q]? = some ce → ce.vm = .none → (xs X).vm.findClass nse = some ce.cls → vx_W (xp X) (xl X) (xe X) (xR X) (xs X) (xm X) (xa X) (xb X) (xM X) (xc X) H1 locs1 (k + 1) (n + 6) Q (F0 (xm X) pc ls rest) q)
    (kk : ∀ (H1 : Heap) (locs1 : List Loc), o.1 ≠ THR → jo (0, o.1) → wok o.2 → wpt o.2 → va_P (xD X) cl (wl ad (xC X) o.2 NF) H1 → va_S (xA X) (xs X).heap H1 locs1 → W (xp X) (xl X) (xe X) (xR X) (xs X) (xm X) (xa X) (xb X) (xM X) (xc X) H1 locs1 (k + 1) (n + 6) Q (F0 (xm X) (pc + 3) ls (jc ad (0, o.1) :: rest))) :
    W (xp X) (xl X) (xe X) (xR X) (xs X) (xm X) (xa X) (xb X) (xM X) (xc X) H locs k n Q (F0 (xm X) pc ls st0) := by
  have hf : ∀ q, AF ad q → xA X q := fun q ⟨c, hc, e⟩ => by rw [e]; exact hI.2 c hc
  have hloc : ∀ (L9 : List Loc), (∀ q ∈ L9, AF ad q.base) → ∀ (h h1 : Heap), va_S (xA X) (xs X).heap h locs → h.size ≤ h1.size → (∀ q, q < h.size → ¬ AF ad q → h1[q]? = h[q]?) → va_S (xA X) (xs X).heap h1 (locs ++ L9) := fun L9 hL h h1 hS hz hk =>
    ⟨Nat.le_trans hS.1 hz, fun q h1 h2 => by rw [hk q (Nat.lt_of_lt_of_le h1 hS.1) (fun z => h2 (hf q z))]; exact hS.2.1 q h1 h2, fun q hq => by
      rcases List.mem_append.mp hq with h | h
      · exact hS.2.2 q h
      · exact hf _ (hL q h)⟩
  intro T hT XX
  rcases hr T hT XX with ⟨v, st₀, t, T', L9, h0, X', hL, e1, e2, ⟨hne, ⟨hv, hj, hw, hp, hP⟩, hz, hk⟩, st⟩ | ⟨q, st₀, t, T', L9, E, ce, h0, X', hL, e1, e2, ⟨hE, hT1, hw, hp, hP, hz, hk⟩, hce, hvm, hcl, st⟩
  · cases hv
    rw [h0] at hz hk
    obtain ⟨t2, a1, b1⟩ := kk T'.heap (locs ++ L9) hne hj hw hp (by rw [e1]; exact hP) (hloc L9 hL H T'.heap hS (by rw [e1]; exact hz) (fun q a b => by rw [e1]; exact hk q a b)) T' rfl X'
    exact ⟨t2, st t2 a1, b1⟩
  · subst hE
    rw [h0] at hz hk
    obtain ⟨t2, a1, b1⟩ := kx T'.heap (locs ++ L9) q ce hT1 hw hp (by rw [e1]; exact hP) (hloc L9 hL H T'.heap hS (by rw [e1]; exact hz) (fun q a b => by rw [e1]; exact hk q a b)) (by rw [e1]; exact hce) hvm hcl T' rfl X'
    exact ⟨t2, st.trans a1, b1⟩
theorem vf_callX (C : Cx X cc own) (hy : CY y cy mL (some .int) na false) (hl : Cond.methodLink own idx y ∈ gw_tbl) {g : Option (Int × Wd)} {F : Int → Wd → Option (Int × Wd)} {c ci : Nat} {r0 : Int} {fs : List (Nat × Nat)} {T : u_T} {fn : Nat} (hr : r0 = ((c + 1 : Nat) : Int)) (hct : CtX y cy mL (some .int) dep ((2, r0) :: avs) w g) (hs : sh c = some (.inl (ci, fs))) (hc : c < NF) (hcl : cl[ci]? = some (y.cls, T, fn)) (hR : jrm X dep mL (k + 1) (n + 6)) (hn : avs.length = na) (hst : S0 = avs.reverse ++ (2, r0) :: S) (hS8 : jwords S ≤ 8) (d : decode cc pc = .ok (.invokevirtual idx, 3))
    (hlt : (xl X).stackTraces = false) (hZ : ZX (xA X) (xs X)) (hX : SX (xs X)) {x9 : ExceptionTableEntry} (htab : (xc X).exceptionTable.toList = [x9]) (hcov : covers x9 pc = true) (h09 : x9.catchType ≠ 0) (hlk9 : Cond.classLink own x9.catchType nse ∈ gw_tbl) (hca9 : Cond.castable nse nse ∈ nw_tbl)
    (kx : ∀ (q : Nat) w', VF X Qf ad NF (k + 1) (n + 6) w' x9.handlerPc L [(3, (q : Int))] (F THR w'))
    (kk : ∀ r w', r ≠ THR → VF X Qf ad NF (k + 1) (n + 6) w' (pc + 3) L ((0, r) :: S) (F r w')) : VF X Qf ad NF k n w pc L S0 (jcall g F) := by
  intro o ho hw hp hL hS H locs ls hP hV hl9 hI
  subst hst
  subst hr
  cases hg : g with
  | none => rw [hg] at ho; cases ho
  | some q =>
    rw [hg] at ho
    have ha : ∀ v ∈ ((2, ((c + 1 : Nat) : Int)) :: avs : List jv), jo v := fun v hv => by
      rcases List.mem_cons.mp hv with rfl | hv
      · exact hS _ (List.mem_append_right _ List.mem_cons_self)
      · exact hS v (List.mem_append_left _ (List.mem_reverse.mpr hv))
    have hM := hct (xl X) (xD X) (xC X) ad q hlt hg hw (hp rfl) ha hI.1
    obtain ⟨hd, hini, hcode, hst⟩ := hy
    have hst' : Cond.instanceMethod y ∈ gw_tbl ∧ Cond.selects y.cls y y ∈ gw_tbl := by simpa using hst
    have ht := C.2.2.2.1
    have he : (wl ad (xC X) w NF)[c]? = some (ad c, .inr (ci, jfs ad w c fs)) := by rw [wl_at hc]; simp only [jcell, hs]
    have e0 : jc ad (2, ((c + 1 : Nat) : Int)) = .ref (ad c) := jc_rf
    have hB : ∀ q, AF ad q → xA X q := fun q ⟨c, hc, e⟩ => by rw [e]; exact hI.2 c hc
    have hrun : vx_Run (xp X) (xl X) (xe X) (xR X) (xs X) (xm X) (xa X) (xb X) (xM X) (xc X) H locs k n 1 6 (F0 (xm X) pc ls ((avs.reverse ++ (2, ((c + 1 : Nat) : Int)) :: S).map (jc ad))) (S.map (jc ad)) (QBX (xD X) (xC X) ad q (Value.ref (ad c) :: avs.map (jc ad)).toArray) (XCX (xD X) (xC X) ad q) (AF ad) := by
      have hpre : PreV (xs X) H y.cls (ad c) (va_Pc (((2, ((c + 1 : Nat) : Int)) :: avs).map (jc ad)) (PBX (xD X) (xC X) ad w)) (avs.map (jc ad)) := ⟨PBX_blind, va_recv C.2.2.2.2.1 hP hcl he, fun U hU hW => ⟨by simp only [List.map_cons]; rw [e0], ⟨by rw [hU]; exact hP, va_K.moved hW.alike C.2.2.2.2.1, NW.warm hW C.2.2.2.2.2.2⟩, hZ.kept hV hW.alike hU hB, SX.warm hW hX⟩⟩
      have hsk : (F0 (xm X) pc ls ((avs.reverse ++ (2, ((c + 1 : Nat) : Int)) :: S).map (jc ad))).stack = (avs.map (jc ad)).reverse ++ .ref (ad c) :: S.map (jc ad) := by
        simp only [List.map_append, List.map_cons, List.map_reverse]; rw [e0]
      exact vx_runV ⟨C.1, C.2.1, C.2.2.2.2.2.1, C.2.2.1, ht⟩ hM ⟨callB_of na ht (gw_in hcode) rfl rfl rfl (ht _ hini) (ht _ hl) hd ⟨hR.1, by have := hR.2.1; show 8 + (mL + 11) + 60 * dep ≤ _; omega⟩, ht _ hst'.1, ht _ hst'.2⟩ hpre rfl (by simpa using hn) hl9.1 hsk (lv_room (jwords_room ad hS8)) d ⟨hR.2.2.1, hR.2.2.2⟩
    refine vrx_go hrun hV hI (fun H1 locs1 q9 ce hT1 hw1 hp1 P1 V1 hce hvm hcl9 => ?_) (fun H1 locs1 hne hj hw1 hp1 P1 V1 => ?_)
    · have hk2 := kx q9 q.2 o (by rw [← hT1]; exact ho) hw1 (fun _ => hp1) hL (fun v hv => by rw [List.mem_singleton.mp hv]; exact Int.natCast_nonneg q9) H1 locs1 ls P1 V1 hl9 hI
      exact vx_catch C.2.2.1 [] x9 [] htab (fun z hz => by cases hz) hcov h09 (ht _ hlk9) (va_Nw.use rfl (C.2.2.2.2.2.2 _ hca9)) hce hvm hcl9 hk2
    · exact kk q.1 q.2 hne o ho hw1 (fun _ => hp1) hL (fun v hv => by
        rcases List.mem_cons.mp hv with rfl | h
        · exact hj
        · exact hS v (List.mem_append_right _ (List.mem_cons_of_mem _ h))) H1 locs1 ls P1 V1 hl9 hI
end
theorem met_ofWH {l : Launch} {y : MethodName} {ws ws' : List Cond} {rm : Room} {Pc : Array Value → State → Prop} {Qc : Array Value → State → Outcome → State → Prop} {mc ms : Nat} {free : Addr → Prop} {cc : ByteArray} {maxL : Nat} {ret : Option FieldType} {hh : List (Nat × Nat × Nat × Nat)}
    (hy : plainName y.cls = true) (hw : ws = Cond.codeWith y cc maxL ret hh :: ws')
    (body : ∀ p e s m args below meth c s₁, BodyLoose p l y (headSpec ws rm) cc maxL ret e s m args below meth c s₁ → c.maxLocals = maxL → Pc args s →
      W p l e (headSpec ws rm).room s m args below meth c s.heap [] 0 0 (MQ below Qc args s mc ms free) (entryFrame m args maxL)) : Met l y ws rm Pc Qc mc ms free := by
  refine MetFree.of_bodyS (code := cc) (maxLocals := maxL) (ret := ret) hy ?_ ?_
  · intro args s m h hn
    obtain ⟨m9, meth, c, hn9, h1, h2, h3, h4, -, h5, h6, -⟩ := Cond.codeWith_spec (atoms_spec (ws := ws) h _ (by rw [hw]; exact List.mem_cons_self))
    cases hn.symm.trans hn9
    exact ⟨meth, c, h1, h2, h3, h4, h5, h6⟩
  · intro p e s m args below meth c s₁ B hml hP _
    have hh0 : s₁.heap = s.heap := by rw [B.state]; rfl
    obtain ⟨t, a1, o, b1, b2, b3⟩ := body p e s m args below meth c s₁ B hml hP s₁ hh0 (Stand.of_body B)
    exact ⟨t, o, a1, b1, b2, ⟨b3.1, b3.2⟩⟩
/-- a static helper with one handler -/
def CtH (y : MethodName) (cc : ByteArray) (mL : Nat) (hh : List (Nat × Nat × Nat × Nat)) (dep : Nat) (avs : List jv) (w : Wd) (g : Option (Int × Wd)) : Prop :=
  ∀ (l : Launch) (D : va_G) (cA : Nat → ClassId) (ad : Nat → Nat) (o : Int × Wd), l.stackTraces = false → g = some o → wok w → wpt w → (∀ v ∈ avs, jo v) → jadd ad →
    Met l y (Cond.codeWith y cc mL (some .int) hh :: gw_tbl) (rmX dep) (va_Pc (avs.map (jc ad)) (PBX D cA ad w)) (QB D cA ad 0 o) 1 6 (AF ad)
/-- the helper's own end -/
def RtH (X : jX) (Qf : Int × Wd → State → Prop) (ad : Nat → Nat) (cc : ByteArray) : Prop :=
  ∀ (pc : Nat) (w : Wd) (L : List (Nat × jv)) (r : Int), decode cc pc = .ok (.ireturn, 1) → VF X Qf ad NF 1 6 w pc L [(0, r)] (some (r, w))
theorem cth_of {y : MethodName} {cc : ByteArray} {mL dep : Nat} {hh : List (Nat × Nat × Nat × Nat)} {avs : List jv} {w : Wd} {g : Option (Int × Wd)} (hy : plainName y.cls = true) (hlen : jwords avs ≤ mL)
    (hb : ∀ (X : jX) (Qf : Int × Wd → State → Prop) (ad : Nat → Nat), Cx X cc y.cls → xn X = mL → xR X = rmX dep → (xl X).stackTraces = false → ZX (xA X) (xs X) → SX (xs X) → (xc X).exceptionTable.toList = tableOf hh → RtH X Qf ad cc → VF X Qf ad NF 0 0 w 0 (jargs 0 avs) [] g) : CtH y cc mL hh dep avs w g := by
  intro l D cA ad o hst ho hw hp ha hinj
  refine met_ofWH (cc := cc) (maxL := mL) (ret := some .int) (hh := hh) hy rfl ?_
  intro p e s m args below meth c s₁ B hml hv
  obtain ⟨rfl, ⟨hP, hK, hNW⟩, hZX, hSX⟩ := hv
  have hts := atoms_spec (ws := Cond.codeWith y cc mL (some .int) hh :: gw_tbl) B.pre
  have htab := vx_table (x := y) B (hts _ List.mem_cons_self)
  have hr := B.returns
  have hlocks := B.notSynchronized
  let X : jX := (p, l, e, rmX dep, s, m, (avs.map (jc ad)).toArray, below, meth, c, D, cA, AF ad, mL)
  have C : Cx X cc y.cls := ⟨B.exec, B.bytes, findClass_of_methodNamed B.named, fun w hw => hts w (List.mem_cons_of_mem _ hw), hK, hml, hNW⟩
  have hS : va_S (AF ad) s.heap s.heap [] := va_S.rf
  have hIn : jinj ad NF (xA X) := ⟨hinj, fun i hi => ⟨i, hi, rfl⟩⟩
  have hl := lv_entry (avs.map (jc ad)) (n := mL) (by rw [jwords_eq]; exact hlen)
  rw [← jargs_eq ad avs 0] at hl
  rw [lg_entry_eq]
  refine hb X (fun o => MQ below (QB D cA ad 0 o) (avs.map (jc ad)).toArray s 1 6 (AF ad)) ad C rfl rfl hst hZX hSX htab ?_ o ho hw (fun _ => hp) (jargs_jo avs 0 ha) (fun _ h => by cases h) s.heap [] _ hP hS hl hIn
  intro pc w' L r hd o' ho' hw' hp' hL' hS' H locs ls hP' hV' hl' hI'
  cases ho'
  have hj : jo (0, r) := hS' (0, r) (List.mem_singleton.mpr rfl)
  have hfree : ∀ q ∈ locs, AF ad q.base := fun q h => hV'.2.2 q h
  exact W.iret B.exec B.bytes hr (fun t ht hW => ⟨⟨rfl, hj, hw', hp' rfl, by rw [ht]; exact hP'⟩, hV'.F ht⟩) hfree hd hlocks
theorem vf_astore3 {X : jX} {cc : ByteArray} {own : String} {Qf : Int × Wd → State → Prop} {ad : Nat → Nat} {N k n pc : Nat} {w : Wd} {L L' : List (Nat × jv)} {S : List jv} {g : Option (Int × Wd)} {i nL : Nat} {x : Int} (C : Cx X cc own) (d : decode cc pc = .ok (.astore i, 2)) (ps : List Nat) (h : jrest L i 3 ps L') (hn : xn X = nL) (hb : i < nL) (kk : VF X Qf ad N k n w (pc + 2) L' S g) : VF X Qf ad N k n w pc L ((3, x) :: S) g := by
  subst hn
  intro o ho hw hp hL hS H locs ls hP hV hl hI
  exact lv_astore C.1 C.2.1 d hl hb rfl fun ls' hl' => kk o ho hw hp (jrest_ok h hL) (al_t hS) H locs ls' hP hV (lv_sup hl' (fun q hq => jrest_in (ad := ad) (v := (3, x)) h rfl q (List.mem_cons_of_mem _ hq))) hI
theorem vf_astore3_n {X : jX} {cc : ByteArray} {own : String} {Qf : Int × Wd → State → Prop} {ad : Nat → Nat} {N k n pc : Nat} {w : Wd} {L L' : List (Nat × jv)} {S : List jv} {g : Option (Int × Wd)} {f : Fin 4} {i nL : Nat} {x : Int} (C : Cx X cc own) (d : decode cc pc = .ok (.astore_n f, 1)) (ps : List Nat) (h : jrest L i 3 ps L') (hn : xn X = nL) (hb : i < nL) (hf : (f : Nat) = i) (kk : VF X Qf ad N k n w (pc + 1) L' S g) : VF X Qf ad N k n w pc L ((3, x) :: S) g := by
  subst hn
  intro o ho hw hp hL hS H locs ls hP hV hl hI
  exact lv_astore_n C.1 C.2.1 d hf hl hb rfl fun ls' hl' => kk o ho hw hp (jrest_ok h hL) (al_t hS) H locs ls' hP hV (lv_sup hl' (fun q hq => jrest_in (ad := ad) (v := (3, x)) h rfl q (List.mem_cons_of_mem _ hq))) hI
