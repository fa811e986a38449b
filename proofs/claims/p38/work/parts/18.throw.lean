/-! methods that throw: contracts, the throw itself -/
def THR : Int := 4294967296
def nse : String := "java/util/NoSuchElementException"
def vyL : List Cond := (vyA "EachBringsAnother" 115 13 prog_24_method_4_code "java/util/NoSuchElementException" "java/lang/RuntimeException" ["java/lang/Exception"]).filter vx_no
theorem vyL_in : ∀ w ∈ vyL, w ∈ gw_tbl ∨ w ∈ nw_tbl := by
  have h : vyL.all (fun w => (decide (w ∈ lw_tbl.drop 1120) || (decide (w ∈ lw_tbl.take 130) || decide (w ∈ lw_tbl))) && (goodWord w || isNest w)) = true := by decide +kernel
  intro w hw
  have h9 : ((decide (w ∈ lw_tbl.drop 1120) || (decide (w ∈ lw_tbl.take 130) || decide (w ∈ lw_tbl))) && (goodWord w || isNest w)) = true := List.all_eq_true.mp h w hw
  rw [Bool.and_eq_true, Bool.or_eq_true, Bool.or_eq_true, Bool.or_eq_true] at h9
  have h1 : w ∈ lw_tbl ∧ (goodWord w = true ∨ isNest w = true) := by
    refine ⟨?_, h9.2⟩
    rcases h9.1 with h3 | h3 | h3
    · exact List.mem_of_mem_drop (of_decide_eq_true h3)
    · exact List.mem_of_mem_take (of_decide_eq_true h3)
    · exact of_decide_eq_true h3
  rcases h1.2 with h2 | h2
  · exact Or.inl (List.mem_filter.mpr ⟨h1.1, h2⟩)
  · exact Or.inr (List.mem_filter.mpr ⟨h1.1, h2⟩)
theorem vyL_good : ∀ w ∈ Cond.classLink "EachBringsAnother" 111 "java/util/NoSuchElementException" :: Cond.initialized "java/util/NoSuchElementException" :: vyL, vx_ot w = true := by decide +kernel
def rmX (d : Nat) : Room := { frames := d, cells := 1, slots := 6, locals := 60 * d }
def ZX (A : Nat → Prop) (U : State) : Prop := vx_Zq Bundle.tN "UNASSIGNED_STACK" Bundle.steD A U U.heap ∧ vx_Zq Bundle.tN "SUPPRESSED_SENTINEL" Bundle.listD A U U.heap
def SX (U : State) : Prop := (∃ sa, vk_R "EachBringsAnother" 113 "none such of PEOPLE" sa U) ∧ (∃ sa, vk_R "EachBringsAnother" 154 "nothing such is told of PEOPLE" sa U) ∧ ∃ sa, vk_R "EachBringsAnother" 361 "the ROW has no such number" sa U
theorem SX.warm {s U : State} (hW : s.WarmedH U.vm) (h : SX s) : SX U := ⟨h.1.elim fun a q => ⟨a, vk_R.warm hW q⟩, h.2.1.elim fun a q => ⟨a, vk_R.warm hW q⟩, h.2.2.elim fun a q => ⟨a, vk_R.warm hW q⟩⟩
theorem SX.same {s U : State} (e : U.vm = s.vm) (h : SX s) : SX U := ⟨h.1.elim fun a q => ⟨a, vk_R.same e q⟩, h.2.1.elim fun a q => ⟨a, vk_R.same e q⟩, h.2.2.elim fun a q => ⟨a, vk_R.same e q⟩⟩
def ThS (cc : ByteArray) (pc is : Nat) : Prop := decode cc pc = .ok (.new 111, 3) ∧ decode cc (pc + 3) = .ok (.dup, 1) ∧ decode cc (pc + 4) = .ok (.ldc is, 2) ∧ decode cc (pc + 6) = .ok (.invokespecial 115, 3) ∧ decode cc (pc + 9) = .ok (.athrow, 1)
def ThW (cc : ByteArray) (pc is : Nat) : Prop := decode cc pc = .ok (.new 111, 3) ∧ decode cc (pc + 3) = .ok (.dup, 1) ∧ decode cc (pc + 4) = .ok (.ldc_w is, 3) ∧ decode cc (pc + 7) = .ok (.invokespecial 115, 3) ∧ decode cc (pc + 10) = .ok (.athrow, 1)
def Tw (X : jX) (Qf : Int × Wd → State → Prop) (ad : Nat → Nat) (cc : ByteArray) : Prop := ∀ (pc : Nat) (w : Wd) (L : List (Nat × jv)), (ThS cc pc 113 ∨ ThS cc pc 154 ∨ ThW cc pc 361) → VF X Qf ad NF 0 0 w pc L [] (some (THR, w))
def PBX (D : va_G) (cA : Nat → ClassId) (ad : Nat → Nat) (w : Wd) : State → Prop := fun U => PB D cA ad w U ∧ ZX (AF ad) U ∧ SX U
def QBX (D : va_G) (cA : Nat → ClassId) (ad : Nat → Nat) (o : Int × Wd) : Array Value → State → Outcome → State → Prop := fun a st oc t => o.1 ≠ THR ∧ QB D cA ad 0 o a st oc t
def XCX (D : va_G) (cA : Nat → ClassId) (ad : Nat → Nat) (o : Int × Wd) : String → State → State → Prop := fun E st t => E = nse ∧ o.1 = THR ∧ wok o.2 ∧ wpt o.2 ∧ va_P D cl (wl ad cA o.2 NF) t.heap ∧ va_F (AF ad) st t
def CtX (y : MethodName) (cc : ByteArray) (mL : Nat) (rt : Option FieldType) (dep : Nat) (avs : List jv) (w : Wd) (g : Option (Int × Wd)) : Prop :=
  ∀ (l : Launch) (D : va_G) (cA : Nat → ClassId) (ad : Nat → Nat) (o : Int × Wd), l.stackTraces = false → g = some o → wok w → wpt w → (∀ v ∈ avs, jo v) → jadd ad →
    vx_Met l y (wsy y cc mL rt) (rmX dep) (va_Pc (avs.map (jc ad)) (PBX D cA ad w)) (QBX D cA ad o) (XCX D cA ad o) 1 6 (AF ad)
theorem jrm_x {X : jX} {d dep mL : Nat} (h : xR X = rmX d) (hd : (decide (dep + 1 ≤ d) && decide (mL ≤ 41)) = true) : jrm X dep mL 0 0 := by
  simp only [Bool.and_eq_true, decide_eq_true_eq] at hd
  unfold jrm
  rw [h]
  simp only [rmX]
  omega
theorem kT_cl : Cond.classLink "EachBringsAnother" 111 "java/util/NoSuchElementException" ∈ gw_tbl := mem_h 1128 (by decide +kernel)
theorem kT_in : Cond.initialized "java/util/NoSuchElementException" ∈ gw_tbl := mem_h 102 (by decide +kernel)
theorem ctx_of {y : MethodName} {cc : ByteArray} {mL : Nat} {dep : Nat} {avs : List jv} {w : Wd} {g : Option (Int × Wd)} (hy : plainName y.cls = true) (hyc : y.cls = "EachBringsAnother") (hdep : 8 ≤ dep) (hlen : jwords avs ≤ mL)
    (hb : ∀ (X : jX) (Qf : Int × Wd → State → Prop) (ad : Nat → Nat), Cx X cc "EachBringsAnother" → xn X = mL → xR X = rmX dep → Rt X Qf ad cc 0 → Tw X Qf ad cc → VF X Qf ad NF 0 0 w 0 (jargs 0 avs) [] g) : CtX y cc mL (some .int) dep avs w g := by
  intro l D cA ad o hst ho hw hp ha hinj
  refine vx_ofW (cc := cc) (maxL := mL) (ret := some .int) hy rfl ?_
  intro p e s m args below meth c s₁ B hml hnt hv
  obtain ⟨rfl, ⟨hP, hK, hNW⟩, hZX, hSX⟩ := hv
  have hts := atoms_spec (ws := wsy y cc mL (some .int)) B.pre
  have hr := B.returns
  have hlocks := B.notSynchronized
  let X : jX := (p, l, e, rmX dep, s, m, (avs.map (jc ad)).toArray, below, meth, c, D, cA, AF ad, mL)
  have hown : s.vm.findClass "EachBringsAnother" = some m.cls := by rw [← hyc]; exact findClass_of_methodNamed B.named
  have C : Cx X cc "EachBringsAnother" := ⟨B.exec, B.bytes, hown, fun w hw => hts w (List.mem_cons_of_mem _ hw), hK, hml, hNW⟩
  have hS : va_S (AF ad) s.heap s.heap [] := va_S.rf
  have hIn : jinj ad NF (xA X) := ⟨hinj, fun i hi => ⟨i, hi, rfl⟩⟩
  have hl := lv_entry (avs.map (jc ad)) (n := mL) (by rw [jwords_eq]; exact hlen)
  rw [← jargs_eq ad avs 0] at hl
  rw [lg_entry_eq]
  refine hb X (fun o => vx_MQ below (QBX D cA ad o) (XCX D cA ad o) (avs.map (jc ad)).toArray s 1 6 (AF ad)) ad C rfl rfl ?_ ?_ o ho hw (fun _ => hp) (jargs_jo avs 0 ha) (fun _ h => by cases h) s.heap [] _ hP hS hl hIn
  · intro pc w' L r hz hd o' ho' hw' hp' hL' hS' H locs ls hP' hV' hl' hI'
    cases ho'
    have hj : jo (0, r) := hS' (0, r) (List.mem_singleton.mpr rfl)
    have hfree : ∀ q ∈ locs, AF ad q.base := fun q h => hV'.2.2 q h
    refine W.widen (k := 1) (n := 6) (by omega) (by omega) (vx_ret ?_)
    refine W.iret B.exec B.bytes hr (fun t ht hW => ⟨?_, ⟨rfl, hj, hw', hp' rfl, by rw [ht]; exact hP'⟩, hV'.F ht⟩) hfree hd hlocks
    have h2 : -2147483648 ≤ r ∧ r < 2147483648 := hj
    show r ≠ 4294967296
    omega
  · intro pc w' L hth o' ho' hw' hp' hL' hS' H locs ls hP' hV' hl' hI'
    cases ho'
    have hat : ∀ w ∈ vyL, w.before (avs.map (jc ad)).toArray s = true := fun w hw => by
      rcases vyL_in w hw with h | h
      · exact C.2.2.2.1 w h
      · have h2 := (List.mem_filter.mp h).2
        have h3 : w.onTables = true := by cases w <;> first | rfl | cases h2
        exact va_Nw.use h3 (hNW w h)
    have fin : ∀ (pc9 : Nat) (H1 : Heap) (q : Nat) (ce : Cell), decode cc pc9 = .ok (.athrow, 1) → H1[q]? = some ce → ce.vm = .none → s.vm.findClass "java/util/NoSuchElementException" = some ce.cls → H.size ≤ H1.size → (∀ x, x < H.size → H1[x]? = H[x]?) → W p l e (rmX dep) s m (avs.map (jc ad)).toArray below meth c H1 locs (0 + 1) (0 + 6) (vx_MQ below (QBX D cA ad (THR, w')) (XCX D cA ad (THR, w')) (avs.map (jc ad)).toArray s 1 6 (AF ad)) (F0 m pc9 ls (.ref q :: [])) := by
      intro pc9 H1 q ce hd9 h1 h2 h3 h4 h5
      refine vx_athrow B.exec B.bytes hd9 ?_
      refine vx_out (fun x hx => (hnt x hx).elim) hlocks h1 h2 h3 (fun t ht _ => ⟨rfl, rfl, hw', hp' rfl, ?_, ?_, ?_⟩) (fun z hz => hV'.2.2 z hz) (Nat.le_refl _) (Nat.le_refl _)
      · rw [ht]
        exact hP'.kept fun k x hx => h5 x.1 ((hP' k x hx).lt)
      · rw [ht]; exact Nat.le_trans hV'.1 h4
      · intro x hx hn
        rw [ht, h5 x (Nat.lt_of_lt_of_le hx hV'.1)]
        exact hV'.2.1 x hx hn
    have hsz : ls.size = c.maxLocals := by rw [hml]; exact hl'.1
    have hfr : ["java/lang/Exception"].length + 1 + 3 < (rmX dep).frames := by show 5 < dep; omega
    have hlo : (([] : List Value).map fun v => v.category).sum + (13 * (["java/lang/Exception"].length + 1 + 1) + 43) ≤ (rmX dep).locals := by show 0 + (13 * 3 + 43) ≤ 60 * dep; omega
    rcases hth with ⟨d0, d3, d4, d6, d9⟩ | ⟨d0, d3, d4, d6, d9⟩ | ⟨d0, d3, d4, d6, d9⟩
    · obtain ⟨sa, hsa⟩ := hSX.1
      exact vy_makeS (Y9 := "java/lang/RuntimeException") (names := ["java/lang/Exception"]) (ix := 13) (rx := prog_24_method_4_code) B.exec B.bytes hst hown (by decide +kernel) (by decide +kernel) (by decide +kernel) (by decide +kernel) (by decide +kernel) (by decide +kernel) (by decide +kernel) (C.2.2.2.1 _ kT_cl) (C.2.2.2.1 _ kT_in) hsa hat vyL_good hZX.1 hZX.2 hV' hsz d0 d3 d4 d6 hfr hlo (Nat.le_refl _) (Nat.le_refl _) (fun q H1 ce h1 h2 h3 h4 h5 => fin _ H1 q ce d9 h1 h2 h3 h4 h5)
    · obtain ⟨sa, hsa⟩ := hSX.2.1
      exact vy_makeS (Y9 := "java/lang/RuntimeException") (names := ["java/lang/Exception"]) (ix := 13) (rx := prog_24_method_4_code) B.exec B.bytes hst hown (by decide +kernel) (by decide +kernel) (by decide +kernel) (by decide +kernel) (by decide +kernel) (by decide +kernel) (by decide +kernel) (C.2.2.2.1 _ kT_cl) (C.2.2.2.1 _ kT_in) hsa hat vyL_good hZX.1 hZX.2 hV' hsz d0 d3 d4 d6 hfr hlo (Nat.le_refl _) (Nat.le_refl _) (fun q H1 ce h1 h2 h3 h4 h5 => fin _ H1 q ce d9 h1 h2 h3 h4 h5)
    · obtain ⟨sa, hsa⟩ := hSX.2.2
      exact vy_makeSW (Y9 := "java/lang/RuntimeException") (names := ["java/lang/Exception"]) (ix := 13) (rx := prog_24_method_4_code) B.exec B.bytes hst hown (by decide +kernel) (by decide +kernel) (by decide +kernel) (by decide +kernel) (by decide +kernel) (by decide +kernel) (by decide +kernel) (C.2.2.2.1 _ kT_cl) (C.2.2.2.1 _ kT_in) hsa hat vyL_good hZX.1 hZX.2 hV' hsz d0 d3 d4 d6 hfr hlo (Nat.le_refl _) (Nat.le_refl _) (fun q H1 ce h1 h2 h3 h4 h5 => fin _ H1 q ce d9 h1 h2 h3 h4 h5)
