/-! THE LAW'S ENTRY: what its words give -/
section
variable {args : Array Value} {s : State}
theorem l_gw (hts : ∀ w ∈ lw_tbl, w.before args s = true) : ∀ w ∈ gw_tbl, w.before args s = true := fun w hw => hts w (List.mem_filter.mp hw).1
theorem l_NW (hts : ∀ w ∈ lw_tbl, w.before args s = true) : NW s := fun w hw => by
  have h1 := hts w (List.mem_filter.mp hw).1
  have h2 := (List.mem_filter.mp hw).2
  have h3 : w.onTables = true := by cases w <;> first | rfl | cases h2
  exact va_Nw.of h3 h1
theorem cl_in : ∀ (i : Nat) (q : vw_C), cl[i]? = some q → ∃ n, Cond.instantiable q.1 n ∈ gw_tbl := by
  intro i q h
  match i, h with
  | 0, h => cases h; exact ⟨2, mem_h 114 (by decide +kernel)⟩
  | 1, h => cases h; exact ⟨2, mem_h 132 (by decide +kernel)⟩
  | 2, h => cases h; exact ⟨9, mem_h 147 (by decide +kernel)⟩
  | 3, h => cases h; exact ⟨6, mem_h 216 (by decide +kernel)⟩
  | 4, h => cases h; exact ⟨4, mem_h 241 (by decide +kernel)⟩
  | 5, h => cases h; exact ⟨5, mem_h 262 (by decide +kernel)⟩
  | 6, h => cases h; exact ⟨10, mem_h 411 (by decide +kernel)⟩
  | 7, h => cases h; exact ⟨11, mem_h 289 (by decide +kernel)⟩
  | 8, h => cases h; exact ⟨10, mem_h 329 (by decide +kernel)⟩
  | 9, h => cases h; exact ⟨11, mem_h 368 (by decide +kernel)⟩
  | 10, h => cases h; exact ⟨10, mem_h 106 (by decide +kernel)⟩
  | 11, h => cases h; exact ⟨60, mem_h 1213 (by decide +kernel)⟩
  | k + 12, h => exact absurd h (by simp [cl])
theorem l_Kc (hts : ∀ w ∈ lw_tbl, w.before args s = true) : ∃ D : va_G, ∀ (c : Nat) (q : vw_C), cl[c]? = some q → u_Kn s q.1 q.2.1 q.2.2 (D.1 c) (D.2 c) := by
  have h : ∀ c : Nat, ∃ d : ClassId × (Nat → Nat), ∀ q : vw_C, cl[c]? = some q → u_Kn s q.1 q.2.1 q.2.2 d.1 d.2 := by
    intro c
    cases hc : cl[c]? with
    | none => exact ⟨(0, fun _ => 0), fun q h => by cases h⟩
    | some q =>
      obtain ⟨n, hn⟩ := cl_in c q hc
      obtain ⟨cC, iS, hk⟩ := u_known (l_gw hts) (cl_ok c q hc).1 (l_gw hts _ hn)
      exact ⟨(cC, iS), fun q' h => by cases h; exact hk⟩
  obtain ⟨f, hf⟩ := Classical.axiomOfChoice h
  exact ⟨(fun c => (f c).1, fun c => (f c).2), fun c q hq => hf c q hq⟩
theorem l_arr {ty : FieldType} (hne : va_RA = va_RA ∧ ∀ c, s.vm.findClass ("[" ++ ty.toString) = some c → va_RA s c ty) (h : (Cond.arrayClass ty).before args s = true) : ∃ cA, ArrOfT s cA ty ∧ va_RA s cA ty := by
  obtain ⟨c, k, comp, h1, h2, h3⟩ := Cond.arrayClass_spec h
  exact ⟨c, fun n z => ⟨fun k h => (by cases h), k, h2, comp, h3⟩, hne.2 c h1⟩
theorem l_arrO {C : String} (h : (Cond.arrayOver (.object C)).before args s = true) : ∃ cA, ArrOfT s cA (.object C) ∧ va_RA s cA (.object C) := by
  obtain ⟨comp, c, k, h1, h2, h3, h4, h5⟩ := Cond.arrayOver_spec h
  exact ⟨c, fun n z => ⟨fun k h => (by cases h), k, h3, comp, h4⟩, k, comp, h3, h4, h1, h5⟩
theorem l_Ka (hts : ∀ w ∈ lw_tbl, w.before args s = true) : ∃ cA : Nat → ClassId, ∀ (k : Nat) (q : ClassId × FieldType), (jtys cA)[k]? = some q → ArrOfT s q.1 q.2 ∧ va_RA s q.1 q.2 := by
  obtain ⟨c0, a0⟩ := l_arr (ty := .int) ⟨rfl, fun _ h => h⟩ (l_gw hts _ (mem_h 145 (by decide +kernel)))
  obtain ⟨c1, a1⟩ := l_arr (ty := .long) ⟨rfl, fun _ h => h⟩ (l_gw hts _ (mem_h 408 (by decide +kernel)))
  obtain ⟨c2, a2⟩ := l_arrO (C := "EachBringsAnother$Kept") (hts _ (List.mem_of_getElem? (i := 410) (by decide +kernel)))
  obtain ⟨c3, a3⟩ := l_arr (ty := .byte) ⟨rfl, fun _ h => h⟩ (l_gw hts _ (mem_h 1193 (by decide +kernel)))
  obtain ⟨c4, a4⟩ := l_arr (ty := .boolean) ⟨rfl, fun _ h => h⟩ (l_gw hts _ (mem_h 1401 (by decide +kernel)))
  obtain ⟨c5, a5⟩ := l_arr (ty := .char) ⟨rfl, fun _ h => h⟩ (l_gw hts _ (mem_h 130 (by decide +kernel)))
  refine ⟨fun k => ([c0, c1, c2, c3, c4, c5] : List ClassId).getD k 0, fun k q hk => ?_⟩
  match k, hk with
  | 0, hk => cases hk; exact a0
  | 1, hk => cases hk; exact a1
  | 2, hk => cases hk; exact a2
  | 3, hk => cases hk; exact a3
  | 4, hk => cases hk; exact a4
  | 5, hk => cases hk; exact a5
  | k + 6, hk => exact absurd hk (by simp [jtys])
theorem l_K (hts : ∀ w ∈ lw_tbl, w.before args s = true) : ∃ (D : va_G) (cA : Nat → ClassId), va_K D cl (jtys cA) s := by
  obtain ⟨D, hD⟩ := l_Kc hts
  obtain ⟨cA, hA⟩ := l_Ka hts
  exact ⟨D, cA, hD, hA⟩
theorem l_AO (hts : ∀ w ∈ lw_tbl, w.before args s = true) : va_AO "EachBringsAnother$Kept" s := va_AO.of (hts _ (List.mem_of_getElem? (i := 410) (by decide +kernel)))
theorem l_S {k : Nat} {tx : String} {cur : ClassId} (hcur : s.vm.findClass "EachBringsAnother" = some cur) (h : (Cond.stringRef "EachBringsAnother" k tx).before args s = true) : ∃ sa, vk_R "EachBringsAnother" k tx sa s := by
  obtain ⟨kk, cf, i, a, h1, h2, h3, h4, h5, h6⟩ := Cond.stringRef_spec hcur h
  exact ⟨a, vk_R.of h h6⟩
theorem l_SX (hts : ∀ w ∈ lw_tbl, w.before args s = true) : SX s := by
  obtain ⟨cC, kC, hfc, hk, hkind, -⟩ := Cond.instantiable_spec (hts (Cond.instantiable "EachBringsAnother" 10) (List.mem_of_getElem? (i := 106) (by decide +kernel)))
  exact ⟨l_S hfc (hts _ (List.mem_of_getElem? (i := 1167) (by decide +kernel))), l_S hfc (hts _ (List.mem_of_getElem? (i := 1199) (by decide +kernel))), l_S hfc (hts _ (List.mem_of_getElem? (i := 1207) (by decide +kernel)))⟩
theorem l_ZX {A : Nat → Prop} (hts : ∀ w ∈ lw_tbl, w.before args s = true) (hgv : (Jvm.Cond.and given_1 narrow_1).before args s = true) (hA : ∀ a : Nat, a < s.heap.size → ¬ A a) : ZX A s := by
  have hs := flat_of_before _ hgv
  have hT : (Cond.initialized "java/lang/Throwable").before args s = true := hts _ (List.mem_of_getElem? (i := 99) (by decide +kernel))
  exact ⟨vx_Zqof (hts (Cond.laysStatic "java/lang/Throwable" "UNASSIGNED_STACK" "[Ljava/lang/StackTraceElement;") (List.mem_of_getElem? (i := 1155) (by decide +kernel))) hT (hs (Cond.isRef (.static "java/lang/Throwable" "UNASSIGNED_STACK" "[Ljava/lang/StackTraceElement;")) (by decide +kernel)) hA,
    vx_Zqof (hts (Cond.laysStatic "java/lang/Throwable" "SUPPRESSED_SENTINEL" "Ljava/util/List;") (List.mem_of_getElem? (i := 1157) (by decide +kernel))) hT (hs (Cond.isRef (.static "java/lang/Throwable" "SUPPRESSED_SENTINEL" "Ljava/util/List;")) (by decide +kernel)) hA⟩
end
