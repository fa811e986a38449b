section
variable {X : jX} {cc : ByteArray} {own : String} {Qf : Int × Wd → State → Prop} {ad : Nat → Nat} {N k n pc : Nat} {w : Wd} {L : List (Nat × jv)} {S : List jv} {g : Option (Int × Wd)}
theorem vf_iconst (C : Cx X cc own) {z : Int} (d : decode cc pc = .ok (.iconst z, 1)) (hz : jo (0, z)) (kk : VF X Qf ad N k n w (pc + 1) L ((0, z) :: S) g) : VF X Qf ad N k n w pc L S g := by
  intro o ho hw hp hL hS H locs ls hP hV hl hI
  exact lv_iconst C.1 C.2.1 d rfl (kk o ho hw hp hL (al_c hz hS) H locs ls hP hV hl hI)
theorem vf_bipush (C : Cx X cc own) {z : Int} (d : decode cc pc = .ok (.bipush z, 2)) (hv : (Int8.ofInt z).toInt32 = Int32.ofInt z) (hz : jo (0, z)) (kk : VF X Qf ad N k n w (pc + 2) L ((0, z) :: S) g) : VF X Qf ad N k n w pc L S g := by
  intro o ho hw hp hL hS H locs ls hP hV hl hI
  exact lv_bipush C.1 C.2.1 d hv (kk o ho hw hp hL (al_c hz hS) H locs ls hP hV hl hI)
theorem vf_sipush (C : Cx X cc own) {z : Int} (d : decode cc pc = .ok (.sipush z, 3)) (hv : (Int16.ofInt z).toInt32 = Int32.ofInt z) (hz : jo (0, z)) (kk : VF X Qf ad N k n w (pc + 3) L ((0, z) :: S) g) : VF X Qf ad N k n w pc L S g := by
  intro o ho hw hp hL hS H locs ls hP hV hl hI
  exact lv_sipush C.1 C.2.1 d hv (kk o ho hw hp hL (al_c hz hS) H locs ls hP hV hl hI)
theorem vf_lconst (C : Cx X cc own) {z : Int} {f : Fin 2} (d : decode cc pc = .ok (.lconst f, 1)) (hv : Int64.ofNat (f : Nat) = Int64.ofInt z) (hz : jo (1, z)) (kk : VF X Qf ad N k n w (pc + 1) L ((1, z) :: S) g) : VF X Qf ad N k n w pc L S g := by
  intro o ho hw hp hL hS H locs ls hP hV hl hI
  exact lv_lconst C.1 C.2.1 d hv (kk o ho hw hp hL (al_c hz hS) H locs ls hP hV hl hI)
theorem vf_ldc (C : Cx X cc own) {z : Int} {i : Nat} (d : decode cc pc = .ok (.ldc i, 2)) {v : Int32} (hm : Cond.constant own i v ∈ gw_tbl) (hv : v = Int32.ofInt z) (hz : jo (0, z)) (kk : VF X Qf ad N k n w (pc + 2) L ((0, z) :: S) g) : VF X Qf ad N k n w pc L S g := by
  subst hv
  intro o ho hw hp hL hS H locs ls hP hV hl hI
  exact lv_ldc C.1 C.2.1 C.2.2.1 (C.2.2.2.1 _ hm) d (kk o ho hw hp hL (al_c hz hS) H locs ls hP hV hl hI)
theorem vf_ldcw (C : Cx X cc own) {z : Int} {i : Nat} (d : decode cc pc = .ok (.ldc_w i, 3)) {v : Int32} (hm : Cond.constant own i v ∈ gw_tbl) (hv : v = Int32.ofInt z) (hz : jo (0, z)) (kk : VF X Qf ad N k n w (pc + 3) L ((0, z) :: S) g) : VF X Qf ad N k n w pc L S g := by
  subst hv
  intro o ho hw hp hL hS H locs ls hP hV hl hI
  exact lv_ldcw C.1 C.2.1 C.2.2.1 (C.2.2.2.1 _ hm) d (kk o ho hw hp hL (al_c hz hS) H locs ls hP hV hl hI)
theorem vf_ldc2 (C : Cx X cc own) {z : Int} {i : Nat} (d : decode cc pc = .ok (.ldc2_w i, 3)) {v : Int64} (hm : Cond.constantLong own i v ∈ gw_tbl) (hv : v = Int64.ofInt z) (hz : jo (1, z)) (kk : VF X Qf ad N k n w (pc + 3) L ((1, z) :: S) g) : VF X Qf ad N k n w pc L S g := by
  subst hv
  intro o ho hw hp hL hS H locs ls hP hV hl hI
  exact lv_ldc2 C.1 C.2.1 C.2.2.1 (C.2.2.2.1 _ hm) d (kk o ho hw hp hL (al_c hz hS) H locs ls hP hV hl hI)
theorem vf_null (C : Cx X cc own) (d : decode cc pc = .ok (.aconst_null, 1)) (kk : VF X Qf ad N k n w (pc + 1) L ((2, 0) :: S) g) : VF X Qf ad N k n w pc L S g := by
  intro o ho hw hp hL hS H locs ls hP hV hl hI
  exact lv_null C.1 C.2.1 d (kk o ho hw hp hL (al_c (Int.le_refl 0) hS) H locs ls hP hV hl hI)
theorem vf_iload_n (C : Cx X cc own) {f : Fin 4} {i : Nat} {x : Int} (d : decode cc pc = .ok (.iload_n f, 1)) (j : Nat) (h : L[j]? = some (i, (0, x))) (hf : (f : Nat) = i) (kk : VF X Qf ad N k n w (pc + 1) L ((0, x) :: S) g) : VF X Qf ad N k n w pc L S g := by
  intro o ho hw hp hL hS H locs ls hP hV hl hI
  exact lv_iload_n C.1 C.2.1 d hf (lv_at hl j (jL_at h)) (kk o ho hw hp hL (al_c (hL _ (List.mem_of_getElem? h)) hS) H locs ls hP hV hl hI)
theorem vf_iload (C : Cx X cc own) {i : Nat} {x : Int} (d : decode cc pc = .ok (.iload i, 2)) (j : Nat) (h : L[j]? = some (i, (0, x))) (kk : VF X Qf ad N k n w (pc + 2) L ((0, x) :: S) g) : VF X Qf ad N k n w pc L S g := by
  intro o ho hw hp hL hS H locs ls hP hV hl hI
  exact lv_iload C.1 C.2.1 d (lv_at hl j (jL_at h)) (kk o ho hw hp hL (al_c (hL _ (List.mem_of_getElem? h)) hS) H locs ls hP hV hl hI)
theorem vf_lload_n (C : Cx X cc own) {f : Fin 4} {i : Nat} {x : Int} (d : decode cc pc = .ok (.lload_n f, 1)) (j : Nat) (h : L[j]? = some (i, (1, x))) (hf : (f : Nat) = i) (kk : VF X Qf ad N k n w (pc + 1) L ((1, x) :: S) g) : VF X Qf ad N k n w pc L S g := by
  intro o ho hw hp hL hS H locs ls hP hV hl hI
  exact lv_lload_n C.1 C.2.1 d hf (lv_at hl j (jL_at h)) (kk o ho hw hp hL (al_c (hL _ (List.mem_of_getElem? h)) hS) H locs ls hP hV hl hI)
theorem vf_lload (C : Cx X cc own) {i : Nat} {x : Int} (d : decode cc pc = .ok (.lload i, 2)) (j : Nat) (h : L[j]? = some (i, (1, x))) (kk : VF X Qf ad N k n w (pc + 2) L ((1, x) :: S) g) : VF X Qf ad N k n w pc L S g := by
  intro o ho hw hp hL hS H locs ls hP hV hl hI
  exact lv_lload C.1 C.2.1 d (lv_at hl j (jL_at h)) (kk o ho hw hp hL (al_c (hL _ (List.mem_of_getElem? h)) hS) H locs ls hP hV hl hI)
theorem vf_aload_n (C : Cx X cc own) {f : Fin 4} {i : Nat} {x : Int} (d : decode cc pc = .ok (.aload_n f, 1)) (j : Nat) (h : L[j]? = some (i, (2, x))) (hf : (f : Nat) = i) (kk : VF X Qf ad N k n w (pc + 1) L ((2, x) :: S) g) : VF X Qf ad N k n w pc L S g := by
  intro o ho hw hp hL hS H locs ls hP hV hl hI
  have hk := kk o ho hw hp hL (al_c (hL _ (List.mem_of_getElem? h)) hS) H locs ls hP hV hl hI
  have ha := lv_at hl j (jL_at h)
  simp only [List.map_cons, jc] at hk ha
  cases hr : rfz ad x with
  | none => rw [hr] at hk ha; exact lv_aload_nN C.1 C.2.1 d hf ha hk
  | some a => rw [hr] at hk ha; exact lv_aload_n C.1 C.2.1 d hf ha hk
theorem vf_aload (C : Cx X cc own) {i : Nat} {x : Int} (d : decode cc pc = .ok (.aload i, 2)) (j : Nat) (h : L[j]? = some (i, (2, x))) (kk : VF X Qf ad N k n w (pc + 2) L ((2, x) :: S) g) : VF X Qf ad N k n w pc L S g := by
  intro o ho hw hp hL hS H locs ls hP hV hl hI
  have hk := kk o ho hw hp hL (al_c (hL _ (List.mem_of_getElem? h)) hS) H locs ls hP hV hl hI
  have ha := lv_at hl j (jL_at h)
  simp only [List.map_cons, jc] at hk ha
  cases hr : rfz ad x with
  | none => rw [hr] at hk ha; exact lv_aloadN C.1 C.2.1 d ha hk
  | some a => rw [hr] at hk ha; exact lv_aload C.1 C.2.1 d ha hk
theorem vf_aload3_n (C : Cx X cc own) {f : Fin 4} {i : Nat} {x : Int} (d : decode cc pc = .ok (.aload_n f, 1)) (j : Nat) (h : L[j]? = some (i, (3, x))) (hf : (f : Nat) = i) (kk : VF X Qf ad N k n w (pc + 1) L ((3, x) :: S) g) : VF X Qf ad N k n w pc L S g := by
  intro o ho hw hp hL hS H locs ls hP hV hl hI
  exact lv_aload_n C.1 C.2.1 d hf (lv_at hl j (jL_at h)) (kk o ho hw hp hL (al_c (hL _ (List.mem_of_getElem? h)) hS) H locs ls hP hV hl hI)
def jrest (L : List (Nat × jv)) (i kd : Nat) (ps : List Nat) (L' : List (Nat × jv)) : Prop := L' = ps.filterMap (fun j => L[j]?) ∧ L'.all (fun q => !(q.1 == i) && !(q.1 + 1 == i && q.2.1 == 1) && !(kd == 1 && q.1 == i + 1)) = true
theorem jrest_lv {ad : Nat → Nat} {nL i : Nat} {L L' : List (Nat × jv)} {v : jv} {ps : List Nat} (h : jrest L i v.1 ps L') : jL ad ((i, v) :: L') = lv_pick ((i, jc ad v) :: (jL ad L).filter (fun q => if v.1 = 1 then !(q.1 == i) && (!(q.1 == i + 1) && !(q.1 + 1 == i && q.2.category == 2)) else !(q.1 == i) && !(q.1 + 1 == i && q.2.category == 2))) [] ++ jL ad ((i, v) :: L') := by
  simp [lv_pick]
theorem jrest_in {ad : Nat → Nat} {i : Nat} {L L' : List (Nat × jv)} {v : jv} {ps : List Nat} {F : List (Nat × Value)} (h : jrest L i v.1 ps L') (hF : F = (jL ad L).filter (fun q => if v.1 = 1 then !(q.1 == i) && (!(q.1 == i + 1) && !(q.1 + 1 == i && q.2.category == 2)) else !(q.1 == i) && !(q.1 + 1 == i && q.2.category == 2))) : ∀ q ∈ jL ad ((i, v) :: L'), q ∈ (i, jc ad v) :: F := by
  intro q hq
  rcases List.mem_map.mp hq with ⟨r, hr, rfl⟩
  rcases List.mem_cons.mp hr with rfl | hr
  · exact List.mem_cons_self
  · refine List.mem_cons_of_mem _ ?_
    rw [hF]
    have h2 := List.all_eq_true.mp h.2 r hr
    rw [h.1] at hr
    obtain ⟨j, -, hj⟩ := List.mem_filterMap.mp hr
    refine List.mem_filter.mpr ⟨List.mem_map.mpr ⟨r, List.mem_of_getElem? hj, rfl⟩, ?_⟩
    have hc : (jc ad r.2).category = if r.2.1 = 1 then 2 else 1 := jc_cat ad r.2
    simp only [Bool.and_eq_true, Bool.not_eq_true', Bool.and_eq_false_iff, beq_eq_false_iff_ne] at h2
    by_cases hv : v.1 = 1
    · by_cases hr1 : r.2.1 = 1 <;> simp_all
    · by_cases hr1 : r.2.1 = 1 <;> simp_all
theorem lv_sup {ls : Array Slot} {nL : Nat} {l l' : List (Nat × Value)} (h : lv_has ls nL l) (hl : ∀ q ∈ l', q ∈ l) : lv_has ls nL l' := ⟨h.1, h.2.1, fun q hq => h.2.2 q (hl q hq)⟩
theorem jrest_ok {L L' : List (Nat × jv)} {i kd : Nat} {ps : List Nat} (h : jrest L i kd ps L') (hL : ∀ q ∈ L, jo q.2) : ∀ q ∈ L', jo q.2 := fun q hq => by
  rw [h.1] at hq
  obtain ⟨j, -, hj⟩ := List.mem_filterMap.mp hq
  exact hL q (List.mem_of_getElem? hj)
theorem vf_istore_n (C : Cx X cc own) {f : Fin 4} {i nL : Nat} {x : Int} {L' : List (Nat × jv)} (d : decode cc pc = .ok (.istore_n f, 1)) (ps : List Nat) (h : jrest L i 0 ps L') (hn : xn X = nL) (hb : i < nL) (hf : (f : Nat) = i) (kk : VF X Qf ad N k n w (pc + 1) ((i, (0, x)) :: L') S g) : VF X Qf ad N k n w pc L ((0, x) :: S) g := by
  subst hn
  intro o ho hw hp hL hS H locs ls hP hV hl hI
  exact lv_istore_n C.1 C.2.1 d hf hl hb rfl fun ls' hl' => kk o ho hw hp (al_c (P := fun q : Nat × jv => jo q.2) (al_h hS) (jrest_ok h hL)) (al_t hS) H locs ls' hP hV (lv_sup hl' (jrest_in (v := (0, x)) h rfl)) hI
theorem vf_istore (C : Cx X cc own) {i nL : Nat} {x : Int} {L' : List (Nat × jv)} (d : decode cc pc = .ok (.istore i, 2)) (ps : List Nat) (h : jrest L i 0 ps L') (hn : xn X = nL) (hb : i < nL) (kk : VF X Qf ad N k n w (pc + 2) ((i, (0, x)) :: L') S g) : VF X Qf ad N k n w pc L ((0, x) :: S) g := by
  subst hn
  intro o ho hw hp hL hS H locs ls hP hV hl hI
  exact lv_istore C.1 C.2.1 d hl hb rfl fun ls' hl' => kk o ho hw hp (al_c (P := fun q : Nat × jv => jo q.2) (al_h hS) (jrest_ok h hL)) (al_t hS) H locs ls' hP hV (lv_sup hl' (jrest_in (v := (0, x)) h rfl)) hI
theorem vf_lstore_n (C : Cx X cc own) {f : Fin 4} {i nL : Nat} {x : Int} {L' : List (Nat × jv)} (d : decode cc pc = .ok (.lstore_n f, 1)) (ps : List Nat) (h : jrest L i 1 ps L') (hn : xn X = nL) (hb : i + 1 < nL) (hf : (f : Nat) = i) (kk : VF X Qf ad N k n w (pc + 1) ((i, (1, x)) :: L') S g) : VF X Qf ad N k n w pc L ((1, x) :: S) g := by
  subst hn
  intro o ho hw hp hL hS H locs ls hP hV hl hI
  exact lv_lstore_n C.1 C.2.1 d hf hl hb rfl fun ls' hl' => kk o ho hw hp (al_c (P := fun q : Nat × jv => jo q.2) (al_h hS) (jrest_ok h hL)) (al_t hS) H locs ls' hP hV (lv_sup hl' (jrest_in (v := (1, x)) h rfl)) hI
theorem vf_lstore (C : Cx X cc own) {i nL : Nat} {x : Int} {L' : List (Nat × jv)} (d : decode cc pc = .ok (.lstore i, 2)) (ps : List Nat) (h : jrest L i 1 ps L') (hn : xn X = nL) (hb : i + 1 < nL) (kk : VF X Qf ad N k n w (pc + 2) ((i, (1, x)) :: L') S g) : VF X Qf ad N k n w pc L ((1, x) :: S) g := by
  subst hn
  intro o ho hw hp hL hS H locs ls hP hV hl hI
  exact lv_lstore C.1 C.2.1 d hl hb rfl fun ls' hl' => kk o ho hw hp (al_c (P := fun q : Nat × jv => jo q.2) (al_h hS) (jrest_ok h hL)) (al_t hS) H locs ls' hP hV (lv_sup hl' (jrest_in (v := (1, x)) h rfl)) hI
theorem vf_astore (C : Cx X cc own) {i nL : Nat} {x : Int} {L' : List (Nat × jv)} (d : decode cc pc = .ok (.astore i, 2)) (ps : List Nat) (h : jrest L i 2 ps L') (hn : xn X = nL) (hb : i < nL) (kk : VF X Qf ad N k n w (pc + 2) ((i, (2, x)) :: L') S g) : VF X Qf ad N k n w pc L ((2, x) :: S) g := by
  subst hn
  intro o ho hw hp hL hS H locs ls hP hV hl hI
  have key : ∀ r, rfz ad x = r → W (xp X) (xl X) (xe X) (xR X) (xs X) (xm X) (xa X) (xb X) (xM X) (xc X) H locs k n (Qf o) (F0 (xm X) pc ls (va_rf r :: S.map (jc ad))) := by
    intro r hr
    cases r with
    | none => exact lv_astoreN C.1 C.2.1 d hl hb rfl fun ls' hl' => kk o ho hw hp (al_c (P := fun q : Nat × jv => jo q.2) (al_h hS) (jrest_ok h hL)) (al_t hS) H locs ls' hP hV (lv_sup hl' (fun q hq => by have := jrest_in (ad := ad) (v := (2, x)) h rfl q hq; simpa [jc, hr, va_rf] using this)) hI
    | some a => exact lv_astore C.1 C.2.1 d hl hb rfl fun ls' hl' => kk o ho hw hp (al_c (P := fun q : Nat × jv => jo q.2) (al_h hS) (jrest_ok h hL)) (al_t hS) H locs ls' hP hV (lv_sup hl' (fun q hq => by have := jrest_in (ad := ad) (v := (2, x)) h rfl q hq; simpa [jc, hr, va_rf] using this)) hI
  exact key _ rfl
theorem vf_iinc (C : Cx X cc own) {i nL : Nat} {z x : Int} {L' : List (Nat × jv)} (d : decode cc pc = .ok (.iinc i z, 3)) (j : Nat) (hj : L[j]? = some (i, (0, x))) (ps : List Nat) (h : jrest L i 0 ps L') (hn : xn X = nL) (hb : i < nL) (kk : VF X Qf ad N k n w (pc + 3) ((i, (0, w32 (x + z))) :: L') S g) : VF X Qf ad N k n w pc L S g := by
  subst hn
  intro o ho hw hp hL hS H locs ls hP hV hl hI
  exact lv_iinc (v := Int32.ofInt (w32 (x + z))) C.1 C.2.1 d hl (jL_at hj) (by rw [i32_bmod, Int32.ofInt_add]) hb rfl fun ls' hl' => kk o ho hw hp (al_c (P := fun q : Nat × jv => jo q.2) (w32_jo _) (jrest_ok h hL)) hS H locs ls' hP hV (lv_sup hl' (jrest_in (v := (0, w32 (x + z))) h rfl)) hI
theorem vf_iadd (C : Cx X cc own) {x y : Int} (d : decode cc pc = .ok (.iadd, 1)) (kk : VF X Qf ad N k n w (pc + 1) L ((0, w32 (x + y)) :: S) g) : VF X Qf ad N k n w pc L ((0, y) :: (0, x) :: S) g := by
  intro o ho hw hp hL hS H locs ls hP hV hl hI
  have e : Int32.ofInt x + Int32.ofInt y = Int32.ofInt (w32 (x + y)) := by rw [i32_bmod, Int32.ofInt_add]
  have hk := kk o ho hw hp hL (al_c (w32_jo _) (al_t (al_t hS))) H locs ls hP hV hl hI
  simp only [List.map_cons, jc] at hk ⊢
  rw [← e] at hk
  exact lv_iadd C.1 C.2.1 d hk
theorem vf_isub (C : Cx X cc own) {x y : Int} (d : decode cc pc = .ok (.isub, 1)) (kk : VF X Qf ad N k n w (pc + 1) L ((0, w32 (x - y)) :: S) g) : VF X Qf ad N k n w pc L ((0, y) :: (0, x) :: S) g := by
  intro o ho hw hp hL hS H locs ls hP hV hl hI
  have e : Int32.ofInt x - Int32.ofInt y = Int32.ofInt (w32 (x - y)) := by rw [i32_bmod, Int32.ofInt_sub]
  have hk := kk o ho hw hp hL (al_c (w32_jo _) (al_t (al_t hS))) H locs ls hP hV hl hI
  simp only [List.map_cons, jc] at hk ⊢
  rw [← e] at hk
  exact lv_isub C.1 C.2.1 d hk
theorem vf_imul (C : Cx X cc own) {x y : Int} (d : decode cc pc = .ok (.imul, 1)) (kk : VF X Qf ad N k n w (pc + 1) L ((0, w32 (x * y)) :: S) g) : VF X Qf ad N k n w pc L ((0, y) :: (0, x) :: S) g := by
  intro o ho hw hp hL hS H locs ls hP hV hl hI
  have e : Int32.ofInt x * Int32.ofInt y = Int32.ofInt (w32 (x * y)) := by rw [i32_bmod, Int32.ofInt_mul]
  have hk := kk o ho hw hp hL (al_c (w32_jo _) (al_t (al_t hS))) H locs ls hP hV hl hI
  simp only [List.map_cons, jc] at hk ⊢
  rw [← e] at hk
  exact lv_imul C.1 C.2.1 d hk
theorem vf_ladd (C : Cx X cc own) {x y : Int} (d : decode cc pc = .ok (.ladd, 1)) (kk : VF X Qf ad N k n w (pc + 1) L ((1, w64 (x + y)) :: S) g) : VF X Qf ad N k n w pc L ((1, y) :: (1, x) :: S) g := by
  intro o ho hw hp hL hS H locs ls hP hV hl hI
  have e : Int64.ofInt x + Int64.ofInt y = Int64.ofInt (w64 (x + y)) := by rw [i64_bmod, Int64.ofInt_add]
  have hk := kk o ho hw hp hL (al_c (w64_jo _) (al_t (al_t hS))) H locs ls hP hV hl hI
  simp only [List.map_cons, jc] at hk ⊢
  rw [← e] at hk
  exact lv_ladd C.1 C.2.1 d hk
theorem vf_lsub (C : Cx X cc own) {x y : Int} (d : decode cc pc = .ok (.lsub, 1)) (kk : VF X Qf ad N k n w (pc + 1) L ((1, w64 (x - y)) :: S) g) : VF X Qf ad N k n w pc L ((1, y) :: (1, x) :: S) g := by
  intro o ho hw hp hL hS H locs ls hP hV hl hI
  have e : Int64.ofInt x - Int64.ofInt y = Int64.ofInt (w64 (x - y)) := by rw [i64_bmod, Int64.ofInt_sub]
  have hk := kk o ho hw hp hL (al_c (w64_jo _) (al_t (al_t hS))) H locs ls hP hV hl hI
  simp only [List.map_cons, jc] at hk ⊢
  rw [← e] at hk
  exact lv_lsub C.1 C.2.1 d hk
theorem vf_lmul (C : Cx X cc own) {x y : Int} (d : decode cc pc = .ok (.lmul, 1)) (kk : VF X Qf ad N k n w (pc + 1) L ((1, w64 (x * y)) :: S) g) : VF X Qf ad N k n w pc L ((1, y) :: (1, x) :: S) g := by
  intro o ho hw hp hL hS H locs ls hP hV hl hI
  have e : Int64.ofInt x * Int64.ofInt y = Int64.ofInt (w64 (x * y)) := by rw [i64_bmod, Int64.ofInt_mul]
  have hk := kk o ho hw hp hL (al_c (w64_jo _) (al_t (al_t hS))) H locs ls hP hV hl hI
  simp only [List.map_cons, jc] at hk ⊢
  rw [← e] at hk
  exact lv_lmul C.1 C.2.1 d hk
theorem vf_iand (C : Cx X cc own) {x y : Int} (d : decode cc pc = .ok (.iand, 1)) (kk : VF X Qf ad N k n w (pc + 1) L ((0, iand x y) :: S) g) : VF X Qf ad N k n w pc L ((0, y) :: (0, x) :: S) g := by
  intro o ho hw hp hL hS H locs ls hP hV hl hI
  have e : Int32.ofInt x &&& Int32.ofInt y = Int32.ofInt (iand x y) := by rw [iand, Int32.ofInt_toInt]
  have hk := kk o ho hw hp hL (al_c (jo_i _) (al_t (al_t hS))) H locs ls hP hV hl hI
  simp only [List.map_cons, jc] at hk ⊢
  rw [← e] at hk
  exact lv_iand C.1 C.2.1 d hk
theorem vf_ior (C : Cx X cc own) {x y : Int} (d : decode cc pc = .ok (.ior, 1)) (kk : VF X Qf ad N k n w (pc + 1) L ((0, ior x y) :: S) g) : VF X Qf ad N k n w pc L ((0, y) :: (0, x) :: S) g := by
  intro o ho hw hp hL hS H locs ls hP hV hl hI
  have e : Int32.ofInt x ||| Int32.ofInt y = Int32.ofInt (ior x y) := by rw [ior, Int32.ofInt_toInt]
  have hk := kk o ho hw hp hL (al_c (jo_i _) (al_t (al_t hS))) H locs ls hP hV hl hI
  simp only [List.map_cons, jc] at hk ⊢
  rw [← e] at hk
  exact lv_ior C.1 C.2.1 d hk
theorem vf_ixor (C : Cx X cc own) {x y : Int} (d : decode cc pc = .ok (.ixor, 1)) (kk : VF X Qf ad N k n w (pc + 1) L ((0, ixor x y) :: S) g) : VF X Qf ad N k n w pc L ((0, y) :: (0, x) :: S) g := by
  intro o ho hw hp hL hS H locs ls hP hV hl hI
  have e : Int32.ofInt x ^^^ Int32.ofInt y = Int32.ofInt (ixor x y) := by rw [ixor, Int32.ofInt_toInt]
  have hk := kk o ho hw hp hL (al_c (jo_i _) (al_t (al_t hS))) H locs ls hP hV hl hI
  simp only [List.map_cons, jc] at hk ⊢
  rw [← e] at hk
  exact lv_ixor C.1 C.2.1 d hk
theorem vf_land (C : Cx X cc own) {x y : Int} (d : decode cc pc = .ok (.land, 1)) (kk : VF X Qf ad N k n w (pc + 1) L ((1, land x y) :: S) g) : VF X Qf ad N k n w pc L ((1, y) :: (1, x) :: S) g := by
  intro o ho hw hp hL hS H locs ls hP hV hl hI
  have e : Int64.ofInt x &&& Int64.ofInt y = Int64.ofInt (land x y) := by rw [land, Int64.ofInt_toInt]
  have hk := kk o ho hw hp hL (al_c (jo_l _) (al_t (al_t hS))) H locs ls hP hV hl hI
  simp only [List.map_cons, jc] at hk ⊢
  rw [← e] at hk
  exact lv_land C.1 C.2.1 d hk
theorem vf_lor (C : Cx X cc own) {x y : Int} (d : decode cc pc = .ok (.lor, 1)) (kk : VF X Qf ad N k n w (pc + 1) L ((1, lor x y) :: S) g) : VF X Qf ad N k n w pc L ((1, y) :: (1, x) :: S) g := by
  intro o ho hw hp hL hS H locs ls hP hV hl hI
  have e : Int64.ofInt x ||| Int64.ofInt y = Int64.ofInt (lor x y) := by rw [lor, Int64.ofInt_toInt]
  have hk := kk o ho hw hp hL (al_c (jo_l _) (al_t (al_t hS))) H locs ls hP hV hl hI
  simp only [List.map_cons, jc] at hk ⊢
  rw [← e] at hk
  exact lv_lor C.1 C.2.1 d hk
theorem vf_ishl (C : Cx X cc own) {x y : Int} (d : decode cc pc = .ok (.ishl, 1)) (kk : VF X Qf ad N k n w (pc + 1) L ((0, ishl x y) :: S) g) : VF X Qf ad N k n w pc L ((0, y) :: (0, x) :: S) g := by
  intro o ho hw hp hL hS H locs ls hP hV hl hI
  have e : Int32.ofInt x <<< (Int32.ofInt y &&& 31) = Int32.ofInt (ishl x y) := by rw [ishl, Int32.ofInt_toInt]
  have hk := kk o ho hw hp hL (al_c (jo_i _) (al_t (al_t hS))) H locs ls hP hV hl hI
  simp only [List.map_cons, jc] at hk ⊢
  rw [← e] at hk
  exact lv_ishl C.1 C.2.1 d hk
theorem vf_ishr (C : Cx X cc own) {x y : Int} (d : decode cc pc = .ok (.ishr, 1)) (kk : VF X Qf ad N k n w (pc + 1) L ((0, ishr x y) :: S) g) : VF X Qf ad N k n w pc L ((0, y) :: (0, x) :: S) g := by
  intro o ho hw hp hL hS H locs ls hP hV hl hI
  have e : Int32.ofInt x >>> (Int32.ofInt y &&& 31) = Int32.ofInt (ishr x y) := by rw [ishr, Int32.ofInt_toInt]
  have hk := kk o ho hw hp hL (al_c (jo_i _) (al_t (al_t hS))) H locs ls hP hV hl hI
  simp only [List.map_cons, jc] at hk ⊢
  rw [← e] at hk
  exact lv_ishr C.1 C.2.1 d hk
theorem vf_iushr (C : Cx X cc own) {x y : Int} (d : decode cc pc = .ok (.iushr, 1)) (kk : VF X Qf ad N k n w (pc + 1) L ((0, iush x y) :: S) g) : VF X Qf ad N k n w pc L ((0, y) :: (0, x) :: S) g := by
  intro o ho hw hp hL hS H locs ls hP hV hl hI
  have e : ((Int32.ofInt x).toUInt32 >>> ((Int32.ofInt y).toUInt32 &&& Int32.toUInt32 31)).toInt32 = Int32.ofInt (iush x y) := by rw [iush, Int32.ofInt_toInt]
  have hk := kk o ho hw hp hL (al_c (jo_i _) (al_t (al_t hS))) H locs ls hP hV hl hI
  simp only [List.map_cons, jc] at hk ⊢
  rw [← e] at hk
  exact lv_iushr C.1 C.2.1 d rfl hk
theorem vf_lshl (C : Cx X cc own) {x y : Int} (d : decode cc pc = .ok (.lshl, 1)) (kk : VF X Qf ad N k n w (pc + 1) L ((1, lshl x y) :: S) g) : VF X Qf ad N k n w pc L ((0, y) :: (1, x) :: S) g := by
  intro o ho hw hp hL hS H locs ls hP hV hl hI
  have e : Int64.ofInt x <<< ((Int32.ofInt y).toInt64 &&& 63) = Int64.ofInt (lshl x y) := by rw [lshl, Int64.ofInt_toInt]
  have hk := kk o ho hw hp hL (al_c (jo_l _) (al_t (al_t hS))) H locs ls hP hV hl hI
  simp only [List.map_cons, jc] at hk ⊢
  rw [← e] at hk
  exact lv_lshl C.1 C.2.1 d rfl hk
theorem vf_lshr (C : Cx X cc own) {x y : Int} (d : decode cc pc = .ok (.lshr, 1)) (kk : VF X Qf ad N k n w (pc + 1) L ((1, lshr x y) :: S) g) : VF X Qf ad N k n w pc L ((0, y) :: (1, x) :: S) g := by
  intro o ho hw hp hL hS H locs ls hP hV hl hI
  have e : Int64.ofInt x >>> ((Int32.ofInt y).toInt64 &&& 63) = Int64.ofInt (lshr x y) := by rw [lshr, Int64.ofInt_toInt]
  have hk := kk o ho hw hp hL (al_c (jo_l _) (al_t (al_t hS))) H locs ls hP hV hl hI
  simp only [List.map_cons, jc] at hk ⊢
  rw [← e] at hk
  exact lv_lshr C.1 C.2.1 d rfl hk
theorem vf_idiv (C : Cx X cc own) {x y : Int} {g1 : Option (Int × Wd)} (d : decode cc pc = .ok (.idiv, 1)) (kk : VF X Qf ad N k n w (pc + 1) L ((0, idiv x y) :: S) g1) : VF X Qf ad N k n w pc L ((0, y) :: (0, x) :: S) (if y = 0 then none else g1) := by
  intro o ho hw hp hL hS H locs ls hP hV hl hI
  by_cases hy : y = 0
  · rw [if_pos hy] at ho; cases ho
  rw [if_neg hy] at ho
  have hy0 : ¬ Int32.ofInt y = 0 := fun q => hy ((i32_eq (al_h hS) jo00).mp q)
  have e : Int32.ofInt x / Int32.ofInt y = Int32.ofInt (idiv x y) := by rw [idiv, Int32.ofInt_toInt]
  have hk := kk o ho hw hp hL (al_c (jo_i _) (al_t (al_t hS))) H locs ls hP hV hl hI
  simp only [List.map_cons, jc] at hk ⊢
  rw [← e] at hk
  exact lv_idiv C.1 C.2.1 d hy0 hk
theorem vf_irem (C : Cx X cc own) {x y : Int} {g1 : Option (Int × Wd)} (d : decode cc pc = .ok (.irem, 1)) (kk : VF X Qf ad N k n w (pc + 1) L ((0, irem x y) :: S) g1) : VF X Qf ad N k n w pc L ((0, y) :: (0, x) :: S) (if y = 0 then none else g1) := by
  intro o ho hw hp hL hS H locs ls hP hV hl hI
  by_cases hy : y = 0
  · rw [if_pos hy] at ho; cases ho
  rw [if_neg hy] at ho
  have hy0 : ¬ Int32.ofInt y = 0 := fun q => hy ((i32_eq (al_h hS) jo00).mp q)
  have e : Int32.ofInt x - Int32.ofInt x / Int32.ofInt y * Int32.ofInt y = Int32.ofInt (irem x y) := by rw [irem, Int32.ofInt_toInt]
  have hk := kk o ho hw hp hL (al_c (jo_i _) (al_t (al_t hS))) H locs ls hP hV hl hI
  simp only [List.map_cons, jc] at hk ⊢
  rw [← e] at hk
  exact lv_irem C.1 C.2.1 d hy0 hk
theorem vf_ineg (C : Cx X cc own) {x : Int} (d : decode cc pc = .ok (.ineg, 1)) (kk : VF X Qf ad N k n w (pc + 1) L ((0, w32 (-x)) :: S) g) : VF X Qf ad N k n w pc L ((0, x) :: S) g := by
  intro o ho hw hp hL hS H locs ls hP hV hl hI
  have e : -Int32.ofInt x = Int32.ofInt (w32 (-x)) := by rw [i32_bmod, Int32.ofInt_neg]
  have hk := kk o ho hw hp hL (al_c (w32_jo _) (al_t hS)) H locs ls hP hV hl hI
  simp only [List.map_cons, jc] at hk ⊢
  rw [← e] at hk
  exact lv_ineg C.1 C.2.1 d hk
theorem vf_lneg (C : Cx X cc own) {x : Int} (d : decode cc pc = .ok (.lneg, 1)) (kk : VF X Qf ad N k n w (pc + 1) L ((1, w64 (-x)) :: S) g) : VF X Qf ad N k n w pc L ((1, x) :: S) g := by
  intro o ho hw hp hL hS H locs ls hP hV hl hI
  have e : -Int64.ofInt x = Int64.ofInt (w64 (-x)) := by rw [i64_bmod, Int64.ofInt_neg]
  have hk := kk o ho hw hp hL (al_c (w64_jo _) (al_t hS)) H locs ls hP hV hl hI
  simp only [List.map_cons, jc] at hk ⊢
  rw [← e] at hk
  exact lv_lneg C.1 C.2.1 d hk
theorem vf_i2b (C : Cx X cc own) {x : Int} (d : decode cc pc = .ok (.i2b, 1)) (kk : VF X Qf ad N k n w (pc + 1) L ((0, i2b x) :: S) g) : VF X Qf ad N k n w pc L ((0, x) :: S) g := by
  intro o ho hw hp hL hS H locs ls hP hV hl hI
  have e : (Int32.ofInt x).toInt8.toInt32 = Int32.ofInt (i2b x) := by rw [i2b, Int32.ofInt_toInt]
  have hk := kk o ho hw hp hL (al_c (jo_i _) (al_t hS)) H locs ls hP hV hl hI
  simp only [List.map_cons, jc] at hk ⊢
  rw [← e] at hk
  exact lv_i2b C.1 C.2.1 d rfl hk
theorem vf_i2s (C : Cx X cc own) {x : Int} (d : decode cc pc = .ok (.i2s, 1)) (kk : VF X Qf ad N k n w (pc + 1) L ((0, i2s x) :: S) g) : VF X Qf ad N k n w pc L ((0, x) :: S) g := by
  intro o ho hw hp hL hS H locs ls hP hV hl hI
  have e : (Int32.ofInt x).toInt16.toInt32 = Int32.ofInt (i2s x) := by rw [i2s, Int32.ofInt_toInt]
  have hk := kk o ho hw hp hL (al_c (jo_i _) (al_t hS)) H locs ls hP hV hl hI
  simp only [List.map_cons, jc] at hk ⊢
  rw [← e] at hk
  exact lv_i2s C.1 C.2.1 d rfl hk
theorem vf_i2c (C : Cx X cc own) {x : Int} (d : decode cc pc = .ok (.i2c, 1)) (kk : VF X Qf ad N k n w (pc + 1) L ((0, i2c x) :: S) g) : VF X Qf ad N k n w pc L ((0, x) :: S) g := by
  intro o ho hw hp hL hS H locs ls hP hV hl hI
  have e : ((Int32.ofInt x).toUInt32 % 65536).toInt32 = Int32.ofInt (i2c x) := by rw [i2c, Int32.ofInt_toInt]
  have hk := kk o ho hw hp hL (al_c (jo_i _) (al_t hS)) H locs ls hP hV hl hI
  simp only [List.map_cons, jc] at hk ⊢
  rw [← e] at hk
  exact lv_i2c C.1 C.2.1 d rfl hk
theorem i2l_eq {x : Int} (h : jo (0, x)) : (Int32.ofInt x).toInt64 = Int64.ofInt x := by
  have h' : -2147483648 ≤ x ∧ x < 2147483648 := h
  apply Int64.toInt_inj.mp
  have h2 : jo (1, x) := ⟨by omega, by omega⟩
  rw [Int32.toInt_toInt64, i32_toInt h, i64_toInt h2]
theorem vf_i2l (C : Cx X cc own) {x : Int} (d : decode cc pc = .ok (.i2l, 1)) (kk : VF X Qf ad N k n w (pc + 1) L ((1, x) :: S) g) : VF X Qf ad N k n w pc L ((0, x) :: S) g := by
  intro o ho hw hp hL hS H locs ls hP hV hl hI
  have h0 : jo (0, x) := al_h hS
  have h' : -2147483648 ≤ x ∧ x < 2147483648 := h0
  have h2 : jo (1, x) := ⟨by omega, by omega⟩
  exact lv_i2l C.1 C.2.1 d (i2l_eq h0) (kk o ho hw hp hL (al_c h2 (al_t hS)) H locs ls hP hV hl hI)
theorem vf_lcmp (C : Cx X cc own) {x y : Int} (d : decode cc pc = .ok (.lcmp, 1)) (kk : VF X Qf ad N k n w (pc + 1) L ((0, lcmp x y) :: S) g) : VF X Qf ad N k n w pc L ((1, y) :: (1, x) :: S) g := by
  intro o ho hw hp hL hS H locs ls hP hV hl hI
  have hy : jo (1, y) := al_h hS
  have hx : jo (1, x) := al_h (al_t hS)
  have e : lg_cmp (Int64.ofInt x) (Int64.ofInt y) = Int32.ofInt (lcmp x y) := by
    unfold lg_cmp lcmp
    by_cases h1 : y < x
    · rw [if_pos ((i64_lt hy hx).mpr h1), if_pos h1]; rfl
    · rw [if_neg (fun q => h1 ((i64_lt hy hx).mp q)), if_neg h1]
      by_cases h2 : x = y
      · rw [if_pos ((i64_eq hx hy).mpr h2), if_pos h2]; rfl
      · rw [if_neg (fun q => h2 ((i64_eq hx hy).mp q)), if_neg h2]; rfl
  have hj : jo (0, lcmp x y) := by
    show -2147483648 ≤ lcmp x y ∧ lcmp x y < 2147483648
    unfold lcmp
    repeat' split
    all_goals omega
  have hk := kk o ho hw hp hL (al_c hj (al_t (al_t hS))) H locs ls hP hV hl hI
  simp only [List.map_cons, jc] at hk ⊢
  rw [← e] at hk
  exact W.lcmp C.1 C.2.1 d hk
theorem jc_cat1 {ad : Nat → Nat} {v : jv} (h : v.1 ≠ 1) : (jc ad v).category = 1 := by rw [jc_cat, if_neg h]
theorem vf_dup (C : Cx X cc own) {v : jv} (d : decode cc pc = .ok (.dup, 1)) (hv : v.1 ≠ 1) (kk : VF X Qf ad N k n w (pc + 1) L (v :: v :: S) g) : VF X Qf ad N k n w pc L (v :: S) g := by
  intro o ho hw hp hL hS H locs ls hP hV hl hI
  exact lv_dup C.1 C.2.1 d (jc_cat1 hv) (kk o ho hw hp hL (al_c (al_h hS) hS) H locs ls hP hV hl hI)
theorem vf_pop (C : Cx X cc own) {v : jv} (d : decode cc pc = .ok (.pop, 1)) (hv : v.1 ≠ 1) (kk : VF X Qf ad N k n w (pc + 1) L S g) : VF X Qf ad N k n w pc L (v :: S) g := by
  intro o ho hw hp hL hS H locs ls hP hV hl hI
  exact lv_pop C.1 C.2.1 d (jc_cat1 hv) (kk o ho hw hp hL (al_t hS) H locs ls hP hV hl hI)
theorem vf_dup2 (C : Cx X cc own) {v u : jv} (d : decode cc pc = .ok (.dup2, 1)) (hv : v.1 ≠ 1) (hu : u.1 ≠ 1) (kk : VF X Qf ad N k n w (pc + 1) L (v :: u :: v :: u :: S) g) : VF X Qf ad N k n w pc L (v :: u :: S) g := by
  intro o ho hw hp hL hS H locs ls hP hV hl hI
  exact lv_dup2_11 C.1 C.2.1 d (jc_cat1 hv) (jc_cat1 hu) (kk o ho hw hp hL (al_c (al_h hS) (al_c (al_h (al_t hS)) hS)) H locs ls hP hV hl hI)
theorem vf_dup_x1 (C : Cx X cc own) {v u : jv} (d : decode cc pc = .ok (.dup_x1, 1)) (hv : v.1 ≠ 1) (hu : u.1 ≠ 1) (kk : VF X Qf ad N k n w (pc + 1) L (v :: u :: v :: S) g) : VF X Qf ad N k n w pc L (v :: u :: S) g := by
  intro o ho hw hp hL hS H locs ls hP hV hl hI
  exact lv_dup_x1 C.1 C.2.1 d (jc_cat1 hv) (jc_cat1 hu) (kk o ho hw hp hL (al_c (al_h hS) (al_c (al_h (al_t hS)) (al_c (al_h hS) (al_t (al_t hS))))) H locs ls hP hV hl hI)
theorem vf_icmp_eq (C : Cx X cc own) {x y : Int} {off : Int} {tgt : Nat} {g1 g2 : Option (Int × Wd)} (d : decode cc pc = .ok (.if_icmp .eq off, 3)) (ht : (pc : Int) + off = (tgt : Int)) (kt : VF X Qf ad N k n w tgt L S g1) (kf : VF X Qf ad N k n w (pc + 3) L S g2) : VF X Qf ad N k n w pc L ((0, y) :: (0, x) :: S) (if x = y then g1 else g2) := by
  intro o ho hw hp hL hS H locs ls hP hV hl hI
  have hy : jo (0, y) := al_h hS
  have hx : jo (0, x) := al_h (al_t hS)
  have he : (Int32.ofInt x = Int32.ofInt y ↔ x = y) := i32_eq hx hy
  refine lv_icmp_eq C.1 C.2.1 d ht (fun h => ?_) (fun h => ?_)
  · have h2 : x = y := he.mp h
    rw [if_pos h2] at ho
    exact kt o ho hw hp hL (al_t (al_t hS)) H locs ls hP hV hl hI
  · have h2 : ¬ (x = y) := fun q => h (he.mpr q)
    rw [if_neg h2] at ho
    exact kf o ho hw hp hL (al_t (al_t hS)) H locs ls hP hV hl hI
theorem vf_if_eq (C : Cx X cc own) {x : Int} {off : Int} {tgt : Nat} {g1 g2 : Option (Int × Wd)} (d : decode cc pc = .ok (.ifCond .eq off, 3)) (ht : (pc : Int) + off = (tgt : Int)) (kt : VF X Qf ad N k n w tgt L S g1) (kf : VF X Qf ad N k n w (pc + 3) L S g2) : VF X Qf ad N k n w pc L ((0, x) :: S) (if x = 0 then g1 else g2) := by
  intro o ho hw hp hL hS H locs ls hP hV hl hI
  have hx : jo (0, x) := al_h hS
  have hy : jo (0, (0 : Int)) := jo00
  have he : (Int32.ofInt x = Int32.ofInt 0 ↔ x = 0) := i32_eq hx hy
  refine lv_if_eq C.1 C.2.1 d ht (fun h => ?_) (fun h => ?_)
  · have h2 : x = 0 := he.mp h
    rw [if_pos h2] at ho
    exact kt o ho hw hp hL (al_t hS) H locs ls hP hV hl hI
  · have h2 : ¬ (x = 0) := fun q => h (he.mpr q)
    rw [if_neg h2] at ho
    exact kf o ho hw hp hL (al_t hS) H locs ls hP hV hl hI
theorem vf_icmp_ne (C : Cx X cc own) {x y : Int} {off : Int} {tgt : Nat} {g1 g2 : Option (Int × Wd)} (d : decode cc pc = .ok (.if_icmp .ne off, 3)) (ht : (pc : Int) + off = (tgt : Int)) (kt : VF X Qf ad N k n w tgt L S g1) (kf : VF X Qf ad N k n w (pc + 3) L S g2) : VF X Qf ad N k n w pc L ((0, y) :: (0, x) :: S) (if x = y then g2 else g1) := by
  intro o ho hw hp hL hS H locs ls hP hV hl hI
  have hy : jo (0, y) := al_h hS
  have hx : jo (0, x) := al_h (al_t hS)
  have he : (Int32.ofInt x = Int32.ofInt y ↔ x = y) := i32_eq hx hy
  refine lv_icmp_ne C.1 C.2.1 d ht (fun h => ?_) (fun h => ?_)
  · have h2 : ¬ (x = y) := fun q => h (he.mpr q)
    rw [if_neg h2] at ho
    exact kt o ho hw hp hL (al_t (al_t hS)) H locs ls hP hV hl hI
  · have h2 : x = y := he.mp h
    rw [if_pos h2] at ho
    exact kf o ho hw hp hL (al_t (al_t hS)) H locs ls hP hV hl hI
theorem vf_if_ne (C : Cx X cc own) {x : Int} {off : Int} {tgt : Nat} {g1 g2 : Option (Int × Wd)} (d : decode cc pc = .ok (.ifCond .ne off, 3)) (ht : (pc : Int) + off = (tgt : Int)) (kt : VF X Qf ad N k n w tgt L S g1) (kf : VF X Qf ad N k n w (pc + 3) L S g2) : VF X Qf ad N k n w pc L ((0, x) :: S) (if x = 0 then g2 else g1) := by
  intro o ho hw hp hL hS H locs ls hP hV hl hI
  have hx : jo (0, x) := al_h hS
  have hy : jo (0, (0 : Int)) := jo00
  have he : (Int32.ofInt x = Int32.ofInt 0 ↔ x = 0) := i32_eq hx hy
  refine lv_if_ne C.1 C.2.1 d ht (fun h => ?_) (fun h => ?_)
  · have h2 : ¬ (x = 0) := fun q => h (he.mpr q)
    rw [if_neg h2] at ho
    exact kt o ho hw hp hL (al_t hS) H locs ls hP hV hl hI
  · have h2 : x = 0 := he.mp h
    rw [if_pos h2] at ho
    exact kf o ho hw hp hL (al_t hS) H locs ls hP hV hl hI
theorem vf_icmp_lt (C : Cx X cc own) {x y : Int} {off : Int} {tgt : Nat} {g1 g2 : Option (Int × Wd)} (d : decode cc pc = .ok (.if_icmp .lt off, 3)) (ht : (pc : Int) + off = (tgt : Int)) (kt : VF X Qf ad N k n w tgt L S g1) (kf : VF X Qf ad N k n w (pc + 3) L S g2) : VF X Qf ad N k n w pc L ((0, y) :: (0, x) :: S) (if x < y then g1 else g2) := by
  intro o ho hw hp hL hS H locs ls hP hV hl hI
  have hy : jo (0, y) := al_h hS
  have hx : jo (0, x) := al_h (al_t hS)
  have he : (Int32.ofInt x < Int32.ofInt y ↔ x < y) := i32_lt hx hy
  refine lv_icmp_lt C.1 C.2.1 d ht (fun h => ?_) (fun h => ?_)
  · have h2 : x < y := he.mp h
    rw [if_pos h2] at ho
    exact kt o ho hw hp hL (al_t (al_t hS)) H locs ls hP hV hl hI
  · have h2 : ¬ (x < y) := fun q => h (he.mpr q)
    rw [if_neg h2] at ho
    exact kf o ho hw hp hL (al_t (al_t hS)) H locs ls hP hV hl hI
theorem vf_if_lt (C : Cx X cc own) {x : Int} {off : Int} {tgt : Nat} {g1 g2 : Option (Int × Wd)} (d : decode cc pc = .ok (.ifCond .lt off, 3)) (ht : (pc : Int) + off = (tgt : Int)) (kt : VF X Qf ad N k n w tgt L S g1) (kf : VF X Qf ad N k n w (pc + 3) L S g2) : VF X Qf ad N k n w pc L ((0, x) :: S) (if x < 0 then g1 else g2) := by
  intro o ho hw hp hL hS H locs ls hP hV hl hI
  have hx : jo (0, x) := al_h hS
  have hy : jo (0, (0 : Int)) := jo00
  have he : (Int32.ofInt x < Int32.ofInt 0 ↔ x < 0) := i32_lt hx hy
  refine lv_if_lt C.1 C.2.1 d ht (fun h => ?_) (fun h => ?_)
  · have h2 : x < 0 := he.mp h
    rw [if_pos h2] at ho
    exact kt o ho hw hp hL (al_t hS) H locs ls hP hV hl hI
  · have h2 : ¬ (x < 0) := fun q => h (he.mpr q)
    rw [if_neg h2] at ho
    exact kf o ho hw hp hL (al_t hS) H locs ls hP hV hl hI
theorem vf_icmp_ge (C : Cx X cc own) {x y : Int} {off : Int} {tgt : Nat} {g1 g2 : Option (Int × Wd)} (d : decode cc pc = .ok (.if_icmp .ge off, 3)) (ht : (pc : Int) + off = (tgt : Int)) (kt : VF X Qf ad N k n w tgt L S g1) (kf : VF X Qf ad N k n w (pc + 3) L S g2) : VF X Qf ad N k n w pc L ((0, y) :: (0, x) :: S) (if y ≤ x then g1 else g2) := by
  intro o ho hw hp hL hS H locs ls hP hV hl hI
  have hy : jo (0, y) := al_h hS
  have hx : jo (0, x) := al_h (al_t hS)
  have he : (Int32.ofInt y ≤ Int32.ofInt x ↔ y ≤ x) := i32_le hy hx
  refine lv_icmp_ge C.1 C.2.1 d ht (fun h => ?_) (fun h => ?_)
  · have h2 : y ≤ x := he.mp h
    rw [if_pos h2] at ho
    exact kt o ho hw hp hL (al_t (al_t hS)) H locs ls hP hV hl hI
  · have h2 : ¬ (y ≤ x) := fun q => h (he.mpr q)
    rw [if_neg h2] at ho
    exact kf o ho hw hp hL (al_t (al_t hS)) H locs ls hP hV hl hI
theorem vf_if_ge (C : Cx X cc own) {x : Int} {off : Int} {tgt : Nat} {g1 g2 : Option (Int × Wd)} (d : decode cc pc = .ok (.ifCond .ge off, 3)) (ht : (pc : Int) + off = (tgt : Int)) (kt : VF X Qf ad N k n w tgt L S g1) (kf : VF X Qf ad N k n w (pc + 3) L S g2) : VF X Qf ad N k n w pc L ((0, x) :: S) (if 0 ≤ x then g1 else g2) := by
  intro o ho hw hp hL hS H locs ls hP hV hl hI
  have hx : jo (0, x) := al_h hS
  have hy : jo (0, (0 : Int)) := jo00
  have he : (Int32.ofInt 0 ≤ Int32.ofInt x ↔ 0 ≤ x) := i32_le hy hx
  refine lv_if_ge C.1 C.2.1 d ht (fun h => ?_) (fun h => ?_)
  · have h2 : 0 ≤ x := he.mp h
    rw [if_pos h2] at ho
    exact kt o ho hw hp hL (al_t hS) H locs ls hP hV hl hI
  · have h2 : ¬ (0 ≤ x) := fun q => h (he.mpr q)
    rw [if_neg h2] at ho
    exact kf o ho hw hp hL (al_t hS) H locs ls hP hV hl hI
theorem vf_icmp_gt (C : Cx X cc own) {x y : Int} {off : Int} {tgt : Nat} {g1 g2 : Option (Int × Wd)} (d : decode cc pc = .ok (.if_icmp .gt off, 3)) (ht : (pc : Int) + off = (tgt : Int)) (kt : VF X Qf ad N k n w tgt L S g1) (kf : VF X Qf ad N k n w (pc + 3) L S g2) : VF X Qf ad N k n w pc L ((0, y) :: (0, x) :: S) (if y < x then g1 else g2) := by
  intro o ho hw hp hL hS H locs ls hP hV hl hI
  have hy : jo (0, y) := al_h hS
  have hx : jo (0, x) := al_h (al_t hS)
  have he : (Int32.ofInt y < Int32.ofInt x ↔ y < x) := i32_lt hy hx
  refine lv_icmp_gt C.1 C.2.1 d ht (fun h => ?_) (fun h => ?_)
  · have h2 : y < x := he.mp h
    rw [if_pos h2] at ho
    exact kt o ho hw hp hL (al_t (al_t hS)) H locs ls hP hV hl hI
  · have h2 : ¬ (y < x) := fun q => h (he.mpr q)
    rw [if_neg h2] at ho
    exact kf o ho hw hp hL (al_t (al_t hS)) H locs ls hP hV hl hI
theorem vf_if_gt (C : Cx X cc own) {x : Int} {off : Int} {tgt : Nat} {g1 g2 : Option (Int × Wd)} (d : decode cc pc = .ok (.ifCond .gt off, 3)) (ht : (pc : Int) + off = (tgt : Int)) (kt : VF X Qf ad N k n w tgt L S g1) (kf : VF X Qf ad N k n w (pc + 3) L S g2) : VF X Qf ad N k n w pc L ((0, x) :: S) (if 0 < x then g1 else g2) := by
  intro o ho hw hp hL hS H locs ls hP hV hl hI
  have hx : jo (0, x) := al_h hS
  have hy : jo (0, (0 : Int)) := jo00
  have he : (Int32.ofInt 0 < Int32.ofInt x ↔ 0 < x) := i32_lt hy hx
  refine lv_if_gt C.1 C.2.1 d ht (fun h => ?_) (fun h => ?_)
  · have h2 : 0 < x := he.mp h
    rw [if_pos h2] at ho
    exact kt o ho hw hp hL (al_t hS) H locs ls hP hV hl hI
  · have h2 : ¬ (0 < x) := fun q => h (he.mpr q)
    rw [if_neg h2] at ho
    exact kf o ho hw hp hL (al_t hS) H locs ls hP hV hl hI
theorem vf_icmp_le (C : Cx X cc own) {x y : Int} {off : Int} {tgt : Nat} {g1 g2 : Option (Int × Wd)} (d : decode cc pc = .ok (.if_icmp .le off, 3)) (ht : (pc : Int) + off = (tgt : Int)) (kt : VF X Qf ad N k n w tgt L S g1) (kf : VF X Qf ad N k n w (pc + 3) L S g2) : VF X Qf ad N k n w pc L ((0, y) :: (0, x) :: S) (if x ≤ y then g1 else g2) := by
  intro o ho hw hp hL hS H locs ls hP hV hl hI
  have hy : jo (0, y) := al_h hS
  have hx : jo (0, x) := al_h (al_t hS)
  have he : (Int32.ofInt x ≤ Int32.ofInt y ↔ x ≤ y) := i32_le hx hy
  refine lv_icmp_le C.1 C.2.1 d ht (fun h => ?_) (fun h => ?_)
  · have h2 : x ≤ y := he.mp h
    rw [if_pos h2] at ho
    exact kt o ho hw hp hL (al_t (al_t hS)) H locs ls hP hV hl hI
  · have h2 : ¬ (x ≤ y) := fun q => h (he.mpr q)
    rw [if_neg h2] at ho
    exact kf o ho hw hp hL (al_t (al_t hS)) H locs ls hP hV hl hI
theorem vf_if_le (C : Cx X cc own) {x : Int} {off : Int} {tgt : Nat} {g1 g2 : Option (Int × Wd)} (d : decode cc pc = .ok (.ifCond .le off, 3)) (ht : (pc : Int) + off = (tgt : Int)) (kt : VF X Qf ad N k n w tgt L S g1) (kf : VF X Qf ad N k n w (pc + 3) L S g2) : VF X Qf ad N k n w pc L ((0, x) :: S) (if x ≤ 0 then g1 else g2) := by
  intro o ho hw hp hL hS H locs ls hP hV hl hI
  have hx : jo (0, x) := al_h hS
  have hy : jo (0, (0 : Int)) := jo00
  have he : (Int32.ofInt x ≤ Int32.ofInt 0 ↔ x ≤ 0) := i32_le hx hy
  refine lv_if_le C.1 C.2.1 d ht (fun h => ?_) (fun h => ?_)
  · have h2 : x ≤ 0 := he.mp h
    rw [if_pos h2] at ho
    exact kt o ho hw hp hL (al_t hS) H locs ls hP hV hl hI
  · have h2 : ¬ (x ≤ 0) := fun q => h (he.mpr q)
    rw [if_neg h2] at ho
    exact kf o ho hw hp hL (al_t hS) H locs ls hP hV hl hI
theorem vf_goto (C : Cx X cc own) {off : Int} {tgt : Nat} (d : decode cc pc = .ok (.goto off, 3)) (ht : (pc : Int) + off = (tgt : Int)) (kk : VF X Qf ad N k n w tgt L S g) : VF X Qf ad N k n w pc L S g := by
  intro o ho hw hp hL hS H locs ls hP hV hl hI
  exact lv_goto C.1 C.2.1 d ht (kk o ho hw hp hL hS H locs ls hP hV hl hI)
end
