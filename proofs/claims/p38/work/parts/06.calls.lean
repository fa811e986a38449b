/-! CONTRACTS: a method does what a function of its arguments and the world says -/
def rmD (d : Nat) : Room := { frames := d, cells := 0, slots := 0, locals := 60 * d }
abbrev wsy (y : MethodName) (cc : ByteArray) (mL : Nat) (rt : Option FieldType) : List Cond := .code y cc mL rt :: gw_tbl
def outc (ad : Nat → Nat) (rk : Nat) (r : Int) : Option Value := match rk with
  | 9 => none
  | k => some (jc ad (jk k, r))
def outj (rk : Nat) (r : Int) : Prop := match rk with
  | 9 => True
  | k => jo (jk k, r)
def PB (D : va_G) (cA : Nat → ClassId) (ad : Nat → Nat) (w : Wd) : State → Prop := fun U => va_P D cl (wl ad cA w NF) U.heap ∧ va_K D cl (jtys cA) U ∧ NW U
def AF (ad : Nat → Nat) : Nat → Prop := fun q => ∃ c, c < NF ∧ q = ad c
def QB (D : va_G) (cA : Nat → ClassId) (ad : Nat → Nat) (rk : Nat) (o : Int × Wd) : Array Value → State → Outcome → State → Prop := fun _ st oc t =>
  (oc = .returned (outc ad rk o.1) ∧ outj rk o.1 ∧ wok o.2 ∧ wpt o.2 ∧ va_P D cl (wl ad cA o.2 NF) t.heap) ∧ va_F (AF ad) st t
def jadd (ad : Nat → Nat) : Prop := ∀ i j, i < NF → j < NF → ad i = ad j → i = j
/-- the contract: where g says an answer, the method gives it, and leaves the world that g says -/
def Ct (y : MethodName) (cc : ByteArray) (mL : Nat) (rt : Option FieldType) (dep rk : Nat) (avs : List jv) (w : Wd) (g : Option (Int × Wd)) : Prop :=
  ∀ (l : Launch) (D : va_G) (cA : Nat → ClassId) (ad : Nat → Nat) (o : Int × Wd), g = some o → wok w → wpt w → (∀ v ∈ avs, jo v) → jadd ad →
    Met l y (wsy y cc mL rt) (rmD dep) (va_Pc (avs.map (jc ad)) (PB D cA ad w)) (QB D cA ad rk o) 0 0 (AF ad)
def jargs : Nat → List jv → List (Nat × jv)
  | _, [] => []
  | i, v :: vs => (i, v) :: jargs (if v.1 = 1 then i + 2 else i + 1) vs
theorem jargs_eq (ad : Nat → Nat) : ∀ (vs : List jv) (i : Nat), jL ad (jargs i vs) = lv_args i (vs.map (jc ad))
  | [], _ => rfl
  | v :: vs, i => by
    have h := jc_cat ad v
    have ih := jargs_eq ad vs (if v.1 = 1 then i + 2 else i + 1)
    simp only [jargs, jL, List.map_cons, lv_args] at ih ⊢
    rw [ih, h]
    by_cases hv : v.1 = 1 <;> simp [hv]
theorem jargs_jo : ∀ (vs : List jv) (i : Nat), (∀ v ∈ vs, jo v) → ∀ q ∈ jargs i vs, jo q.2
  | [], _, _, q, hq => by simp [jargs] at hq
  | v :: vs, i, h, q, hq => by
    rcases List.mem_cons.mp hq with rfl | hq
    · exact h v List.mem_cons_self
    · exact jargs_jo vs _ (fun u hu => h u (List.mem_cons_of_mem _ hu)) q hq
def jwords (vs : List jv) : Nat := (vs.map fun v => if v.1 = 1 then 2 else 1).sum
theorem jwords_eq (ad : Nat → Nat) (vs : List jv) : (lg_sl (vs.map (jc ad))).length = jwords vs := by
  induction vs with
  | nil => rfl
  | cons v vs ih =>
    have h := jc_cat ad v
    simp only [lg_sl, jwords, List.map_cons, List.flatMap_cons, List.length_append, List.sum_cons] at ih ⊢
    rw [ih, h]
    by_cases hv : v.1 = 1 <;> simp [hv]
def retI (rk : Nat) : Instr := match rk with
  | 9 => .return_
  | 1 => .lreturn
  | _ => .ireturn
def retS (rk : Nat) (r : Int) : List jv := match rk with
  | 9 => []
  | k => [(jk k, r)]
/-- the method's own end -/
def Rt (X : jX) (Qf : Int × Wd → State → Prop) (ad : Nat → Nat) (cc : ByteArray) (rk : Nat) : Prop :=
  ∀ (pc : Nat) (w : Wd) (L : List (Nat × jv)) (r : Int), (rk = 4 → r = 0 ∨ r = 1) → decode cc pc = .ok (retI rk, 1) → VF X Qf ad NF 0 0 w pc L (retS rk r) (some (r, w))
/-- a walk of the body -/
def By (cc : ByteArray) (mL dep rk : Nat) (own : String) (avs : List jv) (w : Wd) (g : Option (Int × Wd)) : Prop :=
  ∀ (X : jX) (Qf : Int × Wd → State → Prop) (ad : Nat → Nat), Cx X cc own → xn X = mL → xR X = rmD dep → Rt X Qf ad cc rk → VF X Qf ad NF 0 0 w 0 (jargs 0 avs) [] g
def rkok (rt : Option FieldType) (rk : Nat) : Prop := (rk = 0 ∧ rt = some .int) ∨ (rk = 1 ∧ rt = some .long) ∨ (rk = 4 ∧ rt = some .boolean) ∨ (rk = 9 ∧ rt = none)
theorem ct_of {y : MethodName} {cc : ByteArray} {mL : Nat} {rt : Option FieldType} {dep rk : Nat} {avs : List jv} {w : Wd} {g : Option (Int × Wd)} (hy : plainName y.cls = true) (hrk : rkok rt rk) (hlen : jwords avs ≤ mL) (hb : By cc mL dep rk y.cls avs w g) : Ct y cc mL rt dep rk avs w g := by
  intro l D cA ad o ho hw hp ha hinj
  refine Met.ofW (cc := cc) (maxL := mL) (ret := rt) hy rfl ?_
  intro p e s m args below meth c s₁ B hml hv
  obtain ⟨rfl, hP, hK, hNW⟩ := hv
  have hts := atoms_spec (ws := wsy y cc mL rt) B.pre
  have hr := B.returns
  have hlocks := B.notSynchronized
  let X : jX := (p, l, e, rmD dep, s, m, (avs.map (jc ad)).toArray, below, meth, c, D, cA, AF ad, mL)
  have C : Cx X cc y.cls := ⟨B.exec, B.bytes, findClass_of_methodNamed B.named, fun w hw => hts w (List.mem_cons_of_mem _ hw), hK, hml, hNW⟩
  have hS : va_S (AF ad) s.heap s.heap [] := va_S.rf
  have hIn : jinj ad NF (xA X) := ⟨hinj, fun i hi => ⟨i, hi, rfl⟩⟩
  have hl := lv_entry (avs.map (jc ad)) (n := mL) (by rw [jwords_eq]; exact hlen)
  rw [← jargs_eq ad avs 0] at hl
  rw [lg_entry_eq]
  refine hb X (fun o => MQ below (QB D cA ad rk o) (avs.map (jc ad)).toArray s 0 0 (AF ad)) ad C rfl rfl ?_ o ho hw (fun _ => hp) (jargs_jo avs 0 ha) (fun _ h => by cases h) s.heap [] _ hP hS hl hIn
  intro pc w' L r hz hd o' ho' hw' hp' hL' hS' H locs ls hP' hV' hl' hI'
  cases ho'
  have hq : ∀ (v : Option Value) (t : State), t.heap = H → s.WarmedH t.vm → v = outc ad rk r → outj rk r → QB D cA ad rk (r, w') (avs.map (jc ad)).toArray s (.returned v) t := by
    intro v t ht hW hv hj
    subst hv
    exact ⟨⟨rfl, hj, hw', hp' rfl, by rw [ht]; exact hP'⟩, hV'.F ht⟩
  have hfree : ∀ q ∈ locs, AF ad q.base := fun q h => hV'.2.2 q h
  have hjo : ∀ kd, retS rk r = [(kd, r)] → jo (kd, r) := fun kd e => hS' (kd, r) (by rw [e]; exact List.mem_singleton.mpr rfl)
  rcases hrk with ⟨rfl, rfl⟩ | ⟨rfl, rfl⟩ | ⟨rfl, rfl⟩ | ⟨rfl, rfl⟩
  · exact W.iret B.exec B.bytes hr (fun t ht hW => hq _ t ht hW rfl (hjo 0 rfl)) hfree hd hlocks
  · exact W.lret B.exec B.bytes hr (fun t ht hW => hq _ t ht hW rfl (hjo 1 rfl)) hfree hd hlocks
  · refine W.zret B.exec B.bytes hr ?_ (fun t ht hW => hq _ t ht hW rfl (hjo 0 rfl)) hfree hd hlocks
    rcases hz rfl with rfl | rfl
    · exact (by decide +kernel : narrow .boolean (.int (Int32.ofInt 0)) = .int (Int32.ofInt 0))
    · exact (by decide +kernel : narrow .boolean (.int (Int32.ofInt 1)) = .int (Int32.ofInt 1))
  · exact W.vret B.exec B.bytes hr (fun t ht hW => hq _ t ht hW rfl trivial) hfree hd hlocks
/-- behind a call -/
theorem vr_go {X : jX} {H : Heap} {locs : List Loc} {k n pc rk : Nat} {ls : Array Slot} {st0 rest : List Value} {a : Array Value} {ad : Nat → Nat} {o : Int × Wd} {Q : State → Prop}
    (hr : va_Run (xp X) (xl X) (xe X) (xR X) (xs X) (xm X) (xa X) (xb X) (xM X) (xc X) H locs k n 0 0 (F0 (xm X) pc ls st0) rest (QB (xD X) (xC X) ad rk o a) (AF ad)) (hS : va_S (xA X) (xs X).heap H locs) (hI : jinj ad NF (xA X))
    (kk : ∀ (H1 : Heap) (locs1 : List Loc), outj rk o.1 → wok o.2 → wpt o.2 → va_P (xD X) cl (wl ad (xC X) o.2 NF) H1 → va_S (xA X) (xs X).heap H1 locs1 → W (xp X) (xl X) (xe X) (xR X) (xs X) (xm X) (xa X) (xb X) (xM X) (xc X) H1 locs1 k n Q (F0 (xm X) (pc + 3) ls ((outc ad rk o.1).toList ++ rest))) :
    W (xp X) (xl X) (xe X) (xR X) (xs X) (xm X) (xa X) (xb X) (xM X) (xc X) H locs k n Q (F0 (xm X) pc ls st0) := by
  have hf : ∀ q, AF ad q → xA X q := fun q ⟨c, hc, e⟩ => by rw [e]; exact hI.2 c hc
  intro T hT XX
  obtain ⟨v, st₀, t, T', L, h0, X', hL, e1, e2, ⟨⟨hv, hj, hw, hp, hP⟩, hz, hk⟩, st⟩ := hr T hT XX
  cases hv
  rw [h0] at hz hk
  obtain ⟨t2, a1, b1⟩ := kk T'.heap (locs ++ L) hj hw hp (by rw [e1]; exact hP)
    ⟨Nat.le_trans hS.1 (by rw [e1]; exact hz), fun q h1 h2 => by rw [e1, hk q (Nat.lt_of_lt_of_le h1 hS.1) (fun z => h2 (hf q z))]; exact hS.2.1 q h1 h2, fun q hq => by
      rcases List.mem_append.mp hq with h | h
      · exact hS.2.2 q h
      · exact hf _ (hL q h)⟩ T' rfl X'
  exact ⟨t2, st t2 a1, b1⟩
/-- a callee by its words; static or not -/
def CY (y : MethodName) (cc : ByteArray) (mL : Nat) (rt : Option FieldType) (n : Nat) (stat : Bool) : Prop :=
  (y.cls ≠ "java/lang/invoke/MethodHandle" ∧ y.cls ≠ "java/lang/invoke/VarHandle" ∧ (parseMethodDescriptor y.desc).map (fun d => d.parameters.length) = some n) ∧
  Cond.initialized y.cls ∈ gw_tbl ∧ Cond.code y cc mL rt ∈ gw_tbl ∧ (if stat = true then Cond.static y ∈ gw_tbl else Cond.instanceMethod y ∈ gw_tbl ∧ Cond.selects y.cls y y ∈ gw_tbl)
def ML (own : String) (idx : Nat) (y : MethodName) : Prop := Cond.methodLink own idx y ∈ gw_tbl ∨ ∃ host, Cond.methodLinkNest own idx y host ∈ nw_tbl
def jrm (X : jX) (dep mL k n : Nat) : Prop := dep + 1 ≤ (xR X).frames ∧ 19 + mL + 60 * dep ≤ (xR X).locals ∧ k ≤ (xR X).cells ∧ n ≤ (xR X).slots
theorem jrm_of {X : jX} {d dep mL : Nat} (h : xR X = rmD d) (hd : (decide (dep + 1 ≤ d) && decide (mL ≤ 41)) = true) : jrm X dep mL 0 0 := by
  simp only [Bool.and_eq_true, decide_eq_true_eq] at hd
  unfold jrm
  rw [h]
  simp only [rmD]
  omega
theorem gw_in {y : MethodName} {cc : ByteArray} {mL : Nat} {rt : Option FieldType} (h : Cond.code y cc mL rt ∈ gw_tbl) : GoodIn gw_tbl (wsy y cc mL rt) := fun w hw => by
  rcases List.mem_cons.mp hw with rfl | hw
  · exact ⟨h, (gw_good _ h).2⟩
  · exact ⟨hw, (gw_good _ hw).2⟩
section
variable {X : jX} {cc cy : ByteArray} {own : String} {Qf : Int × Wd → State → Prop} {ad : Nat → Nat} {k n pc idx mL dep rk na : Nat} {w : Wd} {L : List (Nat × jv)} {S S0 avs : List jv} {y : MethodName} {rt : Option FieldType}
theorem PB_blind {avs : List Value} {D : va_G} {cA : Nat → ClassId} {ad : Nat → Nat} {w : Wd} : FrameBlind (va_Pc avs (PB D cA ad w)) := fun a U g mk h => ⟨h.1, h.2.1, va_K.moved (u := U) (U := U.calling g mk a) (Vm.Alike.refl U.vm) h.2.2.1, NW.same (s := U) (U := U.calling g mk a) rfl h.2.2.2⟩
theorem jwords_room {S : List jv} (ad : Nat → Nat) (h : jwords S ≤ 8) : ((S.map (jc ad)).map fun v => v.category).sum ≤ 8 := by
  have e : ((S.map (jc ad)).map fun v => v.category) = S.map fun v => if v.1 = 1 then 2 else 1 := by
    rw [List.map_map]
    apply List.map_congr_left
    intro v _
    exact jc_cat ad v
  rw [e]; exact h
theorem vf_callS (C : Cx X cc own) (hy : CY y cy mL rt na true) (hl : ML own idx y) {g : Option (Int × Wd)} {F : Int → Wd → Option (Int × Wd)} (hct : Ct y cy mL rt dep rk avs w g) (hR : jrm X dep mL k n) (hn : avs.length = na) (hst : S0 = avs.reverse ++ S) (hS8 : jwords S ≤ 8) (d : decode cc pc = .ok (.invokestatic idx, 3))
    (kk : ∀ r w', VF X Qf ad NF k n w' (pc + 3) L (retS rk r ++ S) (F r w')) : VF X Qf ad NF k n w pc L S0 (jcall g F) := by
  intro o ho hw hp hL hS H locs ls hP hV hl hI
  subst hst
  cases hg : g with
  | none => rw [hg] at ho; cases ho
  | some q =>
    rw [hg] at ho
    have ha : ∀ v ∈ avs, jo v := fun v hv => hS v (List.mem_append_left _ (List.mem_reverse.mpr hv))
    have hM := hct (xl X) (xD X) (xC X) ad q hg hw (hp rfl) ha hI.1
    obtain ⟨hd, hini, hcode, hst⟩ := hy
    have hst' : Cond.static y ∈ gw_tbl := by simpa using hst
    have ht := C.2.2.2.1
    have hrun : va_Run (xp X) (xl X) (xe X) (xR X) (xs X) (xm X) (xa X) (xb X) (xM X) (xc X) H locs k n 0 0 (F0 (xm X) pc ls ((avs.reverse ++ S).map (jc ad))) (S.map (jc ad)) (QB (xD X) (xC X) ad rk q (avs.map (jc ad)).toArray) (AF ad) := by
      have hpre : PreS (xs X) H (va_Pc (avs.map (jc ad)) (PB (xD X) (xC X) ad w)) (avs.map (jc ad)) := ⟨PB_blind, fun U hU hW => ⟨rfl, by rw [hU]; exact hP, va_K.moved hW.alike C.2.2.2.2.1, NW.warm hW C.2.2.2.2.2.2⟩⟩
      have hsk : (F0 (xm X) pc ls ((avs.reverse ++ S).map (jc ad))).stack = (avs.map (jc ad)).reverse ++ S.map (jc ad) := by simp
      rcases hl0 : (by assumption : ML own idx y) with hlk | ⟨host, hlk⟩
      · exact va_runS ⟨C.1, C.2.1, C.2.2.2.2.2.1, C.2.2.1, ht⟩ hM ⟨callB_of na ht (gw_in hcode) rfl rfl rfl (ht _ hini) (ht _ hlk) hd ⟨hR.1, by have := hR.2.1; show 8 + (mL + 11) + 60 * dep ≤ _; omega⟩, ht _ hst'⟩ hpre rfl (by simpa using hn) hl.1 hsk (lv_room (jwords_room ad hS8)) d ⟨hR.2.2.1, hR.2.2.2⟩
      · exact va_runSN ⟨C.1, C.2.1, C.2.2.2.2.2.1, C.2.2.1, ht⟩ hM ⟨va_cnB (host := host) na ht (gw_in hcode) rfl rfl rfl (C.2.2.2.2.2.2 _ hlk) (ht _ hini) hd ⟨hR.1, by have := hR.2.1; show 8 + (mL + 11) + 60 * dep ≤ _; omega⟩, ht _ hst', trivial⟩ hpre rfl (by simpa using hn) hl.1 hsk (lv_room (jwords_room ad hS8)) d ⟨hR.2.2.1, hR.2.2.2⟩
    refine vr_go hrun hV hI fun H1 locs1 hj hw1 hp1 P1 V1 => ?_
    have hk2 := kk q.1 q.2 o ho hw1 (fun _ => hp1) hL (fun v hv => by
      rcases List.mem_append.mp hv with h | h
      · revert h hj
        unfold retS outj
        split
        · intro _ h; cases h
        · intro hj h; rw [List.mem_singleton.mp h]; exact hj
      · exact hS v (List.mem_append_right _ h)) H1 locs1 ls P1 V1 hl hI
    have e : (retS rk q.1 ++ S).map (jc ad) = (outc ad rk q.1).toList ++ S.map (jc ad) := by
      rw [List.map_append]
      congr 1
      unfold retS outc
      split <;> rfl
    rw [e] at hk2
    exact hk2
theorem vf_callV (C : Cx X cc own) (hy : CY y cy mL rt na false) (hl : ML own idx y) {g : Option (Int × Wd)} {F : Int → Wd → Option (Int × Wd)} {c ci : Nat} {r0 : Int} {fs : List (Nat × Nat)} {T : u_T} {fn : Nat} (hr : r0 = ((c + 1 : Nat) : Int)) (hct : Ct y cy mL rt dep rk ((2, r0) :: avs) w g) (hs : sh c = some (.inl (ci, fs))) (hc : c < NF) (hcl : cl[ci]? = some (y.cls, T, fn)) (hR : jrm X dep mL k n) (hn : avs.length = na) (hst : S0 = avs.reverse ++ (2, r0) :: S) (hS8 : jwords S ≤ 8) (d : decode cc pc = .ok (.invokevirtual idx, 3))
    (kk : ∀ r w', VF X Qf ad NF k n w' (pc + 3) L (retS rk r ++ S) (F r w')) : VF X Qf ad NF k n w pc L S0 (jcall g F) := by
  intro o ho hw hp hL hS H locs ls hP hV hl hI
  subst hst
  subst hr
  cases hg : g with
  | none => rw [hg] at ho; cases ho
  | some q =>
    rw [hg] at ho
    have ha : ∀ v ∈ ((2, ((c + 1 : Nat) : Int)) :: avs : List jv), jo v := fun v hv => by
      rcases List.mem_cons.mp hv with rfl | hv
      · exact hS _ (List.mem_append_right _ List.mem_cons_self)
      · exact hS v (List.mem_append_left _ (List.mem_reverse.mpr hv))
    have hM := hct (xl X) (xD X) (xC X) ad q hg hw (hp rfl) ha hI.1
    obtain ⟨hd, hini, hcode, hst⟩ := hy
    have hst' : Cond.instanceMethod y ∈ gw_tbl ∧ Cond.selects y.cls y y ∈ gw_tbl := by simpa using hst
    have ht := C.2.2.2.1
    have he : (wl ad (xC X) w NF)[c]? = some (ad c, .inr (ci, jfs ad w c fs)) := by rw [wl_at hc]; simp only [jcell, hs]
    have e0 : jc ad (2, ((c + 1 : Nat) : Int)) = .ref (ad c) := jc_rf
    have hrun : va_Run (xp X) (xl X) (xe X) (xR X) (xs X) (xm X) (xa X) (xb X) (xM X) (xc X) H locs k n 0 0 (F0 (xm X) pc ls ((avs.reverse ++ (2, ((c + 1 : Nat) : Int)) :: S).map (jc ad))) (S.map (jc ad)) (QB (xD X) (xC X) ad rk q (Value.ref (ad c) :: avs.map (jc ad)).toArray) (AF ad) := by
      have hpre : PreV (xs X) H y.cls (ad c) (va_Pc (((2, ((c + 1 : Nat) : Int)) :: avs).map (jc ad)) (PB (xD X) (xC X) ad w)) (avs.map (jc ad)) := ⟨PB_blind, va_recv C.2.2.2.2.1 hP hcl he, fun U hU hW => ⟨by simp only [List.map_cons]; rw [e0], by rw [hU]; exact hP, va_K.moved hW.alike C.2.2.2.2.1, NW.warm hW C.2.2.2.2.2.2⟩⟩
      have hsk : (F0 (xm X) pc ls ((avs.reverse ++ (2, ((c + 1 : Nat) : Int)) :: S).map (jc ad))).stack = (avs.map (jc ad)).reverse ++ .ref (ad c) :: S.map (jc ad) := by
        simp only [List.map_append, List.map_cons, List.map_reverse]; rw [e0]
      rcases hl0 : (by assumption : ML own idx y) with hlk | ⟨host, hlk⟩
      · exact va_runV ⟨C.1, C.2.1, C.2.2.2.2.2.1, C.2.2.1, ht⟩ hM ⟨callB_of na ht (gw_in hcode) rfl rfl rfl (ht _ hini) (ht _ hlk) hd ⟨hR.1, by have := hR.2.1; show 8 + (mL + 11) + 60 * dep ≤ _; omega⟩, ht _ hst'.1, ht _ hst'.2⟩ hpre rfl (by simpa using hn) hl.1 hsk (lv_room (jwords_room ad hS8)) d ⟨hR.2.2.1, hR.2.2.2⟩
      · exact va_runVN ⟨C.1, C.2.1, C.2.2.2.2.2.1, C.2.2.1, ht⟩ hM ⟨va_cnB (host := host) na ht (gw_in hcode) rfl rfl rfl (C.2.2.2.2.2.2 _ hlk) (ht _ hini) hd ⟨hR.1, by have := hR.2.1; show 8 + (mL + 11) + 60 * dep ≤ _; omega⟩, ht _ hst'.1, ht _ hst'.2⟩ hpre rfl (by simpa using hn) hl.1 hsk (lv_room (jwords_room ad hS8)) d ⟨hR.2.2.1, hR.2.2.2⟩
    refine vr_go hrun hV hI fun H1 locs1 hj hw1 hp1 P1 V1 => ?_
    have hk2 := kk q.1 q.2 o ho hw1 (fun _ => hp1) hL (fun v hv => by
      rcases List.mem_append.mp hv with h | h
      · revert h hj
        unfold retS outj
        split
        · intro _ h; cases h
        · intro hj h; rw [List.mem_singleton.mp h]; exact hj
      · exact hS v (List.mem_append_right _ (List.mem_cons_of_mem _ h))) H1 locs1 ls P1 V1 hl hI
    have e : (retS rk q.1 ++ S).map (jc ad) = (outc ad rk q.1).toList ++ S.map (jc ad) := by
      rw [List.map_append]
      congr 1
      unfold retS outc
      split <;> rfl
    rw [e] at hk2
    exact hk2
end
