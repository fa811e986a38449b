section
/-! THE LAW'S ENTRY: what its words give -/
section
variable {args : Array Value} {s : State}
theorem l_gw (hts : ∀ w ∈ lw_tbl, w.before args s = true) : ∀ w ∈ gw_tbl, w.before args s = true := fun w hw => hts w (List.mem_filter.mp hw).1
theorem l_NW (hts : ∀ w ∈ lw_tbl, w.before args s = true) : NW s := fun w hw => by
  have h1 := hts w (List.mem_filter.mp hw).1
  have h2 := (List.mem_filter.mp hw).2
  have h3 : w.onTables = true := by cases w <;> first | rfl | cases h2
  exact va_Nw.of h3 h1
theorem cl_in : ∀ (i : Nat) (q : vw_C), cl[i]? = some q → ∃ n, Cond.instantiable q.1 n ∈ gw_tbl := by
  intro i q h
  match i, h with
  | 0, h => cases h; exact ⟨2, mem_h 114 (by decide +kernel)⟩
  | 1, h => cases h; exact ⟨2, mem_h 132 (by decide +kernel)⟩
  | 2, h => cases h; exact ⟨9, mem_h 147 (by decide +kernel)⟩
  | 3, h => cases h; exact ⟨6, mem_h 216 (by decide +kernel)⟩
  | 4, h => cases h; exact ⟨4, mem_h 241 (by decide +kernel)⟩
  | 5, h => cases h; exact ⟨5, mem_h 262 (by decide +kernel)⟩
  | 6, h => cases h; exact ⟨10, mem_h 411 (by decide +kernel)⟩
  | 7, h => cases h; exact ⟨11, mem_h 289 (by decide +kernel)⟩
  | 8, h => cases h; exact ⟨10, mem_h 329 (by decide +kernel)⟩
  | 9, h => cases h; exact ⟨11, mem_h 368 (by decide +kernel)⟩
  | 10, h => cases h; exact ⟨10, mem_h 106 (by decide +kernel)⟩
  | 11, h => cases h; exact ⟨60, mem_h 1213 (by decide +kernel)⟩
  | k + 12, h => exact absurd h (by simp [cl])
theorem l_Kc (hts : ∀ w ∈ lw_tbl, w.before args s = true) : ∃ D : va_G, ∀ (c : Nat) (q : vw_C), cl[c]? = some q → u_Kn s q.1 q.2.1 q.2.2 (D.1 c) (D.2 c) := by
  have h : ∀ c : Nat, ∃ d : ClassId × (Nat → Nat), ∀ q : vw_C, cl[c]? = some q → u_Kn s q.1 q.2.1 q.2.2 d.1 d.2 := by
    intro c
    cases hc : cl[c]? with
    | none => exact ⟨(0, fun _ => 0), fun q h => by cases h⟩
    | some q =>
      obtain ⟨n, hn⟩ := cl_in c q hc
      obtain ⟨cC, iS, hk⟩ := u_known (l_gw hts) (cl_ok c q hc).1 (l_gw hts _ hn)
      exact ⟨(cC, iS), fun q' h => by cases h; exact hk⟩
  obtain ⟨f, hf⟩ := Classical.axiomOfChoice h
  exact ⟨(fun c => (f c).1, fun c => (f c).2), fun c q hq => hf c q hq⟩
theorem l_arr {ty : FieldType} (hne : va_RA = va_RA ∧ ∀ c, s.vm.findClass ("[" ++ ty.toString) = some c → va_RA s c ty) (h : (Cond.arrayClass ty).before args s = true) : ∃ cA, ArrOfT s cA ty ∧ va_RA s cA ty := by
  obtain ⟨c, k, comp, h1, h2, h3⟩ := Cond.arrayClass_spec h
  exact ⟨c, fun n z => ⟨fun k h => (by cases h), k, h2, comp, h3⟩, hne.2 c h1⟩
theorem l_arrO {C : String} (h : (Cond.arrayOver (.object C)).before args s = true) : ∃ cA, ArrOfT s cA (.object C) ∧ va_RA s cA (.object C) := by
  obtain ⟨comp, c, k, h1, h2, h3, h4, h5⟩ := Cond.arrayOver_spec h
  exact ⟨c, fun n z => ⟨fun k h => (by cases h), k, h3, comp, h4⟩, k, comp, h3, h4, h1, h5⟩
theorem l_Ka (hts : ∀ w ∈ lw_tbl, w.before args s = true) : ∃ cA : Nat → ClassId, ∀ (k : Nat) (q : ClassId × FieldType), (jtys cA)[k]? = some q → ArrOfT s q.1 q.2 ∧ va_RA s q.1 q.2 := by
  obtain ⟨c0, a0⟩ := l_arr (ty := .int) ⟨rfl, fun _ h => h⟩ (l_gw hts _ (mem_h 145 (by decide +kernel)))
  obtain ⟨c1, a1⟩ := l_arr (ty := .long) ⟨rfl, fun _ h => h⟩ (l_gw hts _ (mem_h 408 (by decide +kernel)))
  obtain ⟨c2, a2⟩ := l_arrO (C := "EachBringsAnother$Kept") (hts _ (List.mem_of_getElem? (i := 410) (by decide +kernel)))
  obtain ⟨c3, a3⟩ := l_arr (ty := .byte) ⟨rfl, fun _ h => h⟩ (l_gw hts _ (mem_h 1193 (by decide +kernel)))
  obtain ⟨c4, a4⟩ := l_arr (ty := .boolean) ⟨rfl, fun _ h => h⟩ (l_gw hts _ (mem_h 1401 (by decide +kernel)))
  obtain ⟨c5, a5⟩ := l_arr (ty := .char) ⟨rfl, fun _ h => h⟩ (l_gw hts _ (mem_h 130 (by decide +kernel)))
  refine ⟨fun k => ([c0, c1, c2, c3, c4, c5] : List ClassId).getD k 0, fun k q hk => ?_⟩
  match k, hk with
  | 0, hk => cases hk; exact a0
  | 1, hk => cases hk; exact a1
  | 2, hk => cases hk; exact a2
  | 3, hk => cases hk; exact a3
  | 4, hk => cases hk; exact a4
  | 5, hk => cases hk; exact a5
  | k + 6, hk => exact absurd hk (by simp [jtys])
theorem l_K (hts : ∀ w ∈ lw_tbl, w.before args s = true) : ∃ (D : va_G) (cA : Nat → ClassId), va_K D cl (jtys cA) s := by
  obtain ⟨D, hD⟩ := l_Kc hts
  obtain ⟨cA, hA⟩ := l_Ka hts
  exact ⟨D, cA, hD, hA⟩
theorem l_AO (hts : ∀ w ∈ lw_tbl, w.before args s = true) : va_AO "EachBringsAnother$Kept" s := va_AO.of (hts _ (List.mem_of_getElem? (i := 410) (by decide +kernel)))
theorem l_S {k : Nat} {tx : String} {cur : ClassId} (hcur : s.vm.findClass "EachBringsAnother" = some cur) (h : (Cond.stringRef "EachBringsAnother" k tx).before args s = true) : ∃ sa, vk_R "EachBringsAnother" k tx sa s := by
  obtain ⟨kk, cf, i, a, h1, h2, h3, h4, h5, h6⟩ := Cond.stringRef_spec hcur h
  exact ⟨a, vk_R.of h h6⟩
theorem l_SX (hts : ∀ w ∈ lw_tbl, w.before args s = true) : SX s := by
  obtain ⟨cC, kC, hfc, hk, hkind, -⟩ := Cond.instantiable_spec (hts (Cond.instantiable "EachBringsAnother" 10) (List.mem_of_getElem? (i := 106) (by decide +kernel)))
  exact ⟨l_S hfc (hts _ (List.mem_of_getElem? (i := 1167) (by decide +kernel))), l_S hfc (hts _ (List.mem_of_getElem? (i := 1199) (by decide +kernel))), l_S hfc (hts _ (List.mem_of_getElem? (i := 1207) (by decide +kernel)))⟩
theorem l_ZX {A : Nat → Prop} (hts : ∀ w ∈ lw_tbl, w.before args s = true) (hgv : (Jvm.Cond.and given_1 narrow_1).before args s = true) (hA : ∀ a : Nat, a < s.heap.size → ¬ A a) : ZX A s := by
  have hs := flat_of_before _ hgv
  have hT : (Cond.initialized "java/lang/Throwable").before args s = true := hts _ (List.mem_of_getElem? (i := 99) (by decide +kernel))
  exact ⟨vx_Zqof (hts (Cond.laysStatic "java/lang/Throwable" "UNASSIGNED_STACK" "[Ljava/lang/StackTraceElement;") (List.mem_of_getElem? (i := 1155) (by decide +kernel))) hT (hs (Cond.isRef (.static "java/lang/Throwable" "UNASSIGNED_STACK" "[Ljava/lang/StackTraceElement;")) (by decide +kernel)) hA,
    vx_Zqof (hts (Cond.laysStatic "java/lang/Throwable" "SUPPRESSED_SENTINEL" "Ljava/util/List;") (List.mem_of_getElem? (i := 1157) (by decide +kernel))) hT (hs (Cond.isRef (.static "java/lang/Throwable" "SUPPRESSED_SENTINEL" "Ljava/util/List;")) (by decide +kernel)) hA⟩
end
end
section
/-! THE LAW'S OWN ROWS: the script, its helpers, its room -/
section
variable {X : jX} {cc cy : ByteArray} {own : String} {Qf : Int × Wd → State → Prop} {ad : Nat → Nat} {N k n pc idx mL dep na : Nat} {w : Wd} {L L' : List (Nat × jv)} {S S0 avs : List jv} {y : MethodName} {g : Option (Int × Wd)}
def LX (X : jX) (sb : Int) (Ln : Nat) (xs9 : Nat → Int32) : Prop := va_X sb.toNat Ln xs9 (xs X) (xs X).heap ∧ sb.toNat < (xs X).heap.size ∧ ¬ xA X sb.toNat ∧ Ln < 1000000000
/-- room for f more throws -/
def LB (X : jX) (f k n : Nat) : Prop := k + f ≤ (xR X).cells ∧ n + 6 * f ≤ (xR X).slots ∧ 300 ≤ (xR X).frames ∧ 18060 ≤ (xR X).locals
theorem LB.s {f k n : Nat} (h : LB X (f + 1) k n) : LB X f k n := ⟨by have := h.1; omega, by have := h.2.1; omega, h.2.2⟩
theorem LB.t {f k n : Nat} (h : LB X (f + 1) k n) : LB X f (k + 1) (n + 6) := ⟨by have := h.1; omega, by have := h.2.1; omega, h.2.2⟩
theorem lb_jrm {f dep mL : Nat} (h : LB X f k n) (hd : (decide (dep ≤ 298) && decide (mL ≤ 41)) = true) : jrm X dep mL k n := by
  simp only [Bool.and_eq_true, decide_eq_true_eq] at hd
  obtain ⟨h1, h2, h3, h4⟩ := h
  unfold jrm
  omega
def RtL (X : jX) (Qf : Int × Wd → State → Prop) (ad : Nat → Nat) (cc : ByteArray) : Prop :=
  ∀ (f k n pc : Nat) (w : Wd) (L : List (Nat × jv)), LB X f k n → decode cc pc = .ok (.ireturn, 1) → VF X Qf ad NF k n w pc L [(0, 1)] (some (1, w))
theorem vf_xlen (C : Cx X cc own) {sb : Int} {Ln : Nat} {xs9 : Nat → Int32} (hX : LX X sb Ln xs9) (d : decode cc pc = .ok (.arraylength, 1)) (kk : VF X Qf ad N k n w (pc + 1) L ((0, (Ln : Int)) :: S) g) : VF X Qf ad N k n w pc L ((3, sb) :: S) g := by
  intro o ho hw hp hL hS H locs ls hP hV hl hI
  obtain ⟨h1, h2, h3, h4⟩ := hX
  have hj : jo (0, (Ln : Int)) := ⟨by omega, by omega⟩
  have hk := kk o ho hw hp hL (al_c hj (al_t hS)) H locs ls hP hV hl hI
  refine va_slen C.1 C.2.1 h1 h2 h3 hV d ?_
  exact hk
theorem vf_xld (C : Cx X cc own) {sb i : Int} {Ln : Nat} {xs9 : Nat → Int32} (hX : LX X sb Ln xs9) (d : decode cc pc = .ok (.iaload, 1)) (kk : VF X Qf ad N k n w (pc + 1) L ((0, (xs9 i.toNat).toInt) :: S) g) : VF X Qf ad N k n w pc L ((0, i) :: (3, sb) :: S) (if 0 ≤ i ∧ i < (Ln : Int) then g else none) := by
  intro o ho hw hp hL hS H locs ls hP hV hl hI
  obtain ⟨h1, h2, h3, h4⟩ := hX
  by_cases hin : 0 ≤ i ∧ i < (Ln : Int)
  · rw [if_pos hin] at ho
    have hi : jo (0, i) := al_h hS
    have hk := kk o ho hw hp hL (al_c (jo_i _) (al_t (al_t hS))) H locs ls hP hV hl hI
    refine va_sld C.1 C.2.1 h1 h2 h3 hV (ix_in hi hin) d ?_
    rw [ix_nat hi hin.1]
    have e : jc ad (0, (xs9 i.toNat).toInt) = .int (xs9 i.toNat) := by
      show Value.int (Int32.ofInt _) = _
      rw [Int32.ofInt_toInt]
    rw [List.map_cons, e] at hk
    exact hk
  · rw [if_neg hin] at ho; cases ho
theorem vrh_go {H : Heap} {locs : List Loc} {ls : Array Slot} {st0 rest : List Value} {a : Array Value} {o : Int × Wd} {Q : State → Prop}
    (hr : va_Run (xp X) (xl X) (xe X) (xR X) (xs X) (xm X) (xa X) (xb X) (xM X) (xc X) H locs k n 1 6 (F0 (xm X) pc ls st0) rest (QB (xD X) (xC X) ad 0 o a) (AF ad)) (hS : va_S (xA X) (xs X).heap H locs) (hI : jinj ad NF (xA X))
    (kk : ∀ (H1 : Heap) (locs1 : List Loc), jo (0, o.1) → wok o.2 → wpt o.2 → va_P (xD X) cl (wl ad (xC X) o.2 NF) H1 → va_S (xA X) (xs X).heap H1 locs1 → W (xp X) (xl X) (xe X) (xR X) (xs X) (xm X) (xa X) (xb X) (xM X) (xc X) H1 locs1 (k + 1) (n + 6) Q (F0 (xm X) (pc + 3) ls (jc ad (0, o.1) :: rest))) :
    W (xp X) (xl X) (xe X) (xR X) (xs X) (xm X) (xa X) (xb X) (xM X) (xc X) H locs k n Q (F0 (xm X) pc ls st0) := by
  have hf : ∀ q, AF ad q → xA X q := fun q ⟨c, hc, e⟩ => by rw [e]; exact hI.2 c hc
  intro T hT XX
  obtain ⟨v, st₀, t, T', L9, h0, X', hL, e1, e2, ⟨⟨hv, hj, hw, hp, hP⟩, hz, hk⟩, st⟩ := hr T hT XX
  cases hv
  rw [h0] at hz hk
  obtain ⟨t2, a1, b1⟩ := kk T'.heap (locs ++ L9) hj hw hp (by rw [e1]; exact hP) ⟨Nat.le_trans hS.1 (by rw [e1]; exact hz), fun q h1 h2 => by rw [e1, hk q (Nat.lt_of_lt_of_le h1 hS.1) (fun z => h2 (hf q z))]; exact hS.2.1 q h1 h2, fun q hq => by
      rcases List.mem_append.mp hq with h | h
      · exact hS.2.2 q h
      · exact hf _ (hL q h)⟩ T' rfl X'
  exact ⟨t2, st t2 a1, b1⟩
theorem vf_callH {hh : List (Nat × Nat × Nat × Nat)} (C : Cx X cc own) (hd : y.cls ≠ "java/lang/invoke/MethodHandle" ∧ y.cls ≠ "java/lang/invoke/VarHandle" ∧ (parseMethodDescriptor y.desc).map (fun d => d.parameters.length) = some na) (hini : Cond.initialized y.cls ∈ gw_tbl) (hlk : Cond.methodLink own idx y ∈ gw_tbl) (hst9 : Cond.static y ∈ gw_tbl) (hcode : Cond.codeWith y cy mL (some .int) hh ∈ gw_tbl) {F : Int → Wd → Option (Int × Wd)} (hct : CtH y cy mL hh dep avs w g) (hR : jrm X dep mL (k + 1) (n + 6)) (hn : avs.length = na) (hst : S0 = avs.reverse ++ S) (hS8 : jwords S ≤ 8) (d : decode cc pc = .ok (.invokestatic idx, 3))
    (hlt : (xl X).stackTraces = false) (hZ : ZX (xA X) (xs X)) (hX : SX (xs X))
    (kk : ∀ r w', VF X Qf ad NF (k + 1) (n + 6) w' (pc + 3) L ((0, r) :: S) (F r w')) : VF X Qf ad NF k n w pc L S0 (jcall g F) := by
  intro o ho hw hp hL hS H locs ls hP hV hl9 hI
  subst hst
  cases hg : g with
  | none => rw [hg] at ho; cases ho
  | some q =>
    rw [hg] at ho
    have ha : ∀ v ∈ avs, jo v := fun v hv => hS v (List.mem_append_left _ (List.mem_reverse.mpr hv))
    have hM := hct (xl X) (xD X) (xC X) ad q hlt hg hw (hp rfl) ha hI.1
    have ht := C.2.2.2.1
    have hB : ∀ q, AF ad q → xA X q := fun q ⟨c, hc, e⟩ => by rw [e]; exact hI.2 c hc
    have hrun : va_Run (xp X) (xl X) (xe X) (xR X) (xs X) (xm X) (xa X) (xb X) (xM X) (xc X) H locs k n 1 6 (F0 (xm X) pc ls ((avs.reverse ++ S).map (jc ad))) (S.map (jc ad)) (QB (xD X) (xC X) ad 0 q (avs.map (jc ad)).toArray) (AF ad) := by
      have hpre : PreS (xs X) H (va_Pc (avs.map (jc ad)) (PBX (xD X) (xC X) ad w)) (avs.map (jc ad)) := ⟨PBX_blind, fun U hU hW => ⟨rfl, ⟨by rw [hU]; exact hP, va_K.moved hW.alike C.2.2.2.2.1, NW.warm hW C.2.2.2.2.2.2⟩, hZ.kept hV hW.alike hU hB, SX.warm hW hX⟩⟩
      have hsk : (F0 (xm X) pc ls ((avs.reverse ++ S).map (jc ad))).stack = (avs.map (jc ad)).reverse ++ S.map (jc ad) := by simp
      have hG : GoodIn gw_tbl (va_wsS own idx y (Cond.codeWith y cy mL (some .int) hh :: gw_tbl)) := fun w hw => by
        have h1 : w ∈ gw_tbl := by
          simp only [va_wsS, List.mem_append, List.mem_cons, List.not_mem_nil, or_false] at hw
          rcases hw with (rfl | rfl | rfl) | (rfl | h) <;> assumption
        exact ⟨h1, (gw_good _ h1).2⟩
      exact vx_runSW ⟨C.1, C.2.1, C.2.2.2.2.2.1, C.2.2.1, ht⟩ hM (vx_cwSW na ht hG rfl rfl rfl hd ⟨hR.1, by have := hR.2.1; show 8 + (mL + 11) + 60 * dep ≤ _; omega⟩) hpre rfl (by simpa using hn) hl9.1 hsk (lv_room (jwords_room ad hS8)) d ⟨hR.2.2.1, hR.2.2.2⟩
    refine vrh_go hrun hV hI fun H1 locs1 hj hw1 hp1 P1 V1 => ?_
    exact kk q.1 q.2 o ho hw1 (fun _ => hp1) hL (fun v hv => by
      rcases List.mem_cons.mp hv with rfl | h
      · exact hj
      · exact hS v (List.mem_append_right _ h)) H1 locs1 ls P1 V1 hl9 hI
end
end
