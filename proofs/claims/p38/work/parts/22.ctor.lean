/-! CONSTRUCTORS: the cells lie side by side from the base b on -/
theorem kO_in : Cond.instanceMethod objectInit ∈ gw_tbl := mem_h 111 (by decide +kernel)
theorem kO_co : Cond.code objectInit ⟨#[0xb1]⟩ 1 none ∈ gw_tbl := mem_h 112 (by decide +kernel)
def nad (b : Nat) : Nat → Nat := fun i => b + i
def VN (X : jX) (Qf : Wd → State → Prop) (b : Nat) (L0 : List (Nat × Value)) (N k n : Nat) (w : Wd) (pc : Nat) (S : List Value) (w9 : Wd) : Prop :=
  wok w → (∀ c' k', N ≤ c' → w c' k' = 0) → ∀ (H : Heap) (locs : List Loc) (ls : Array Slot), H.size = b + N → va_P (xD X) cl (wl (nad b) (xC X) w N) H → va_S (xA X) (xs X).heap H locs → lv_has ls (xn X) L0 →
    W (xp X) (xl X) (xe X) (xR X) (xs X) (xm X) (xa X) (xb X) (xM X) (xc X) H locs k n (Qf w9) (F0 (xm X) pc ls S)
/-- the context of a constructor, beside Cx: new cells are its own, it has its name, the array class of Kept -/
def Cn (X : jX) (b : Nat) : Prop := (∀ q, (xs X).heap.size ≤ q → xA X q) ∧ (∀ i, xA X (b + i)) ∧ (xM X).name = "<init>" ∧ va_AO "EachBringsAnother$Kept" (xs X)
theorem nad_D {X : jX} {b N : Nat} {w : Wd} (h : ∀ i, xA X (b + i)) : va_D (xA X) (wl (nad b) (xC X) w N) := wl_D (X := X) (ad := nad b) ⟨fun i j _ _ e => Nat.add_left_cancel e, fun i _ => h i⟩
theorem wl_succ {ad : Nat → Nat} {cA : Nat → ClassId} {w : Wd} {N : Nat} : wl ad cA w (N + 1) = wl ad cA w N ++ [(ad N, jcell ad cA w N)] := by
  simp [wl, List.range_succ]
theorem jc_nad {b i : Nat} : jc (nad b) (2, ((i + 1 : Nat) : Int)) = .ref (b + i) := jc_rf
section
variable {X : jX} {cc cy : ByteArray} {own : String} {Qf : Wd → State → Prop} {b N k n pc idx n9 a0 : Nat} {L0 : List (Nat × Value)} {w w9 : Wd} {S : List Value} {fn fd : String} {T9 : u_T}
theorem vn_a0 (C : Cx X cc own) (h0 : L0[0]? = some (0, .ref a0)) (d : decode cc pc = .ok (.aload_n 0, 1)) (kk : VN X Qf b L0 N k n w (pc + 1) (.ref a0 :: S) w9) : VN X Qf b L0 N k n w pc S w9 := by
  intro hw hz H locs ls hsz hP hV hl
  exact lv_aload_n C.1 C.2.1 d rfl (lv_at hl 0 h0) (kk hw hz H locs ls hsz hP hV hl)
theorem vn_dup (C : Cx X cc own) {v : Value} (d : decode cc pc = .ok (.dup, 1)) (hv : v.category = 1) (kk : VN X Qf b L0 N k n w (pc + 1) (v :: v :: S) w9) : VN X Qf b L0 N k n w pc (v :: S) w9 := by
  intro hw hz H locs ls hsz hP hV hl
  exact lv_dup C.1 C.2.1 d hv (kk hw hz H locs ls hsz hP hV hl)
theorem vn_ic (C : Cx X cc own) {z : Int} (d : decode cc pc = .ok (.iconst z, 1)) (kk : VN X Qf b L0 N k n w (pc + 1) (.int (Int32.ofInt z) :: S) w9) : VN X Qf b L0 N k n w pc S w9 := by
  intro hw hz H locs ls hsz hP hV hl
  exact lv_iconst C.1 C.2.1 d rfl (kk hw hz H locs ls hsz hP hV hl)
theorem vn_bi (C : Cx X cc own) {z : Int} (d : decode cc pc = .ok (.bipush z, 2)) (hv : (Int8.ofInt z).toInt32 = Int32.ofInt z) (kk : VN X Qf b L0 N k n w (pc + 2) (.int (Int32.ofInt z) :: S) w9) : VN X Qf b L0 N k n w pc S w9 := by
  intro hw hz H locs ls hsz hP hV hl
  exact lv_bipush C.1 C.2.1 d hv (kk hw hz H locs ls hsz hP hV hl)
theorem vn_si (C : Cx X cc own) {z : Int} (d : decode cc pc = .ok (.sipush z, 3)) (hv : (Int16.ofInt z).toInt32 = Int32.ofInt z) (kk : VN X Qf b L0 N k n w (pc + 3) (.int (Int32.ofInt z) :: S) w9) : VN X Qf b L0 N k n w pc S w9 := by
  intro hw hz H locs ls hsz hP hV hl
  exact lv_sipush C.1 C.2.1 d hv (kk hw hz H locs ls hsz hP hV hl)
theorem vn_ldc (C : Cx X cc own) {z : Int} {i : Nat} (d : decode cc pc = .ok (.ldc i, 2)) {v : Int32} (hm : Cond.constant own i v ∈ gw_tbl) (hv : v = Int32.ofInt z) (kk : VN X Qf b L0 N k n w (pc + 2) (.int (Int32.ofInt z) :: S) w9) : VN X Qf b L0 N k n w pc S w9 := by
  subst hv
  intro hw hz H locs ls hsz hP hV hl
  exact lv_ldc C.1 C.2.1 C.2.2.1 (C.2.2.2.1 _ hm) d (kk hw hz H locs ls hsz hP hV hl)
theorem vn_obj (C : Cx X cc own) (hm : Cond.methodLink own idx objectInit ∈ gw_tbl) (hR : 1 ≤ (xR X).frames ∧ 60 ≤ (xR X).locals) (d : decode cc pc = .ok (.invokespecial idx, 3)) (kk : VN X Qf b L0 N k n w (pc + 3) [] w9) : VN X Qf b L0 N k n w pc [.ref a0] w9 := by
  intro hw hz H locs ls hsz hP hV hl
  refine W.objInit C.1 C.2.1 C.2.2.1 (C.2.2.2.1 _ hm) (C.2.2.2.1 _ kO_in) (C.2.2.2.1 _ kO_co) rfl (hl.1.trans C.2.2.2.2.2.1.symm) rfl d hR.1 (by show 2 * 0 + 0 + 12 ≤ _; omega) (kk hw hz H locs ls hsz hP hV hl)
theorem vn_astore_n (C : Cx X cc own) {f : Fin 4} {i nL a : Nat} {L1 : List (Nat × Value)} (d : decode cc pc = .ok (.astore_n f, 1)) (hf : (f : Nat) = i) (hn : xn X = nL) (hb : i < nL) (hL : (i, Value.ref a) :: L0.filter (fun q => !(q.1 == i) && !(q.1 + 1 == i && q.2.category == 2)) = L1) (kk : VN X Qf b L1 N k n w (pc + 1) S w9) : VN X Qf b L0 N k n w pc (.ref a :: S) w9 := by
  subst hn
  intro hw hz H locs ls hsz hP hV hl
  exact lv_astore_n C.1 C.2.1 d hf hl hb hL fun ls' hl' => kk hw hz H locs ls' hsz hP hV hl'
theorem vn_new (C : Cx X cc own) (_G : va_AO "EachBringsAnother$Kept" (xs X)) {ci : Nat} {fs : List (Nat × Nat)} {q : vw_C} (hs : sh N = some (.inl (ci, fs))) (hq : cl[ci]? = some q) (hl9 : fs.length = q.2.2) (hft : ∀ j, j < q.2.2 → ∀ ty : Nat → FieldType, tyL[ci]? = some ty → defaultValue (ty j) = jc (nad b) (jk (fs.getD j (0, 0)).1, 0)) (h1 : Cond.classLink own idx q.1 ∈ gw_tbl) (h2 : Cond.instantiable q.1 q.2.2 ∈ gw_tbl) (h3 : Cond.initialized q.1 ∈ gw_tbl) (hc : k + 1 ≤ (xR X).cells ∧ n + q.2.2 ≤ (xR X).slots) (d : decode cc pc = .ok (.new idx, 3))
    (kk : VN X Qf b L0 (N + 1) (k + 1) (n + q.2.2) w (pc + 3) (.ref (b + N) :: S) w9) : VN X Qf b L0 N k n w pc S w9 := by
  intro hw hz H locs ls hsz hP hV hl
  obtain ⟨hws, ⟨ty0, hty1, hty0⟩, hnm⟩ := cl_ok ci q hq
  have hz' : ∀ j, w N j = 0 := fun j => hz N j (Nat.le_refl _)
  have hKn := C.2.2.2.2.1.1 ci _ hq
  refine W.newcK C.1 C.2.1 C.2.2.1 (C.2.2.2.1 _ h1) (C.2.2.2.1 _ h2) (C.2.2.2.1 _ h3) rfl d hc.1 hc.2 hKn.2.1 rfl fun H1 kC hkC e1 z1 o1 => ?_
  have hk : ∀ (k : Nat) (x : Nat × va_E), (wl (nad b) (xC X) w N)[k]? = some x → H1[x.1]? = H[x.1]? := fun k x hx => o1 x.1 ((hP k x hx).lt)
  have hfs : ∀ j, j < q.2.2 → defaultValue (ty0 j) = vp_V (jfs (nad b) w N fs) j := fun j hj => by
    rw [hft j hj ty0 hty1]
    have hjl : j < fs.length := by rw [hl9]; exact hj
    have e : fs[j]? = some (fs[j].1, fs[j].2) := by simp [hjl]
    have e2 := jfs_at (ad := nad b) (w := w) (c := N) e
    unfold vp_V
    have e3 : (jfs (nad b) w N fs).getD j Value.null = ((jfs (nad b) w N fs)[j]?).getD Value.null := by rw [List.getD_eq_getElem?_getD]
    rw [e3, e2, hz']
    simp [List.getD_eq_getElem?_getD, hjl]
  have hS2 : va_S (xA X) (xs X).heap H1 locs := ⟨Nat.le_trans hV.1 (by omega), fun x h1 h2 => (o1 x (Nat.lt_of_lt_of_le h1 hV.1)).trans (hV.2.1 x h1 h2), hV.2.2⟩
  have hP2 : va_P (xD X) cl (wl (nad b) (xC X) w (N + 1)) H1 := by
    rw [wl_succ]
    refine (hP.kept hk).app (fun k x hx => ?_)
    have hz0 : k < 1 := (List.getElem?_eq_some_iff.mp hx).1
    rw [show k = 0 by omega] at hx
    cases hx
    show va_at _ _ (nad b N, jcell _ _ _ _) _
    simp only [jcell, hs]
    refine ⟨_, hq, ?_⟩
    have := (u_born ty0 C.2.2.2.1 hws hKn hkC e1 hty0).to hfs
    rw [hsz] at this
    exact this
  have hk2 := kk hw (fun c' k' h => hz c' k' (by omega)) H1 locs ls (by omega) hP2 hS2 hl
  rw [hsz]
  exact hk2
theorem vn_newa (C : Cx X cc own) {ak m : Nat} {ps : List Nat} {at9 : ArrayType} {z : Int} (hs : sh N = some (.inr (ak, m, ps))) (hak : ak < 6) (hak2 : ak ≠ 2) (hty : newarray.typeOf at9 = jft ak) (hzm : z = (m : Int)) (hm : m ≤ 1000000) (hcl : Cond.arrayClass (newarray.typeOf at9) ∈ gw_tbl) (hc : k + 1 ≤ (xR X).cells ∧ n + m ≤ (xR X).slots) (d : decode cc pc = .ok (.newarray at9, 2))
    (kk : VN X Qf b L0 (N + 1) (k + 1) (n + m) w (pc + 2) (.ref (b + N) :: S) w9) : VN X Qf b L0 N k n w pc (.int (Int32.ofInt z) :: S) w9 := by
  subst hzm
  intro hw hz H locs ls hsz hP hV hl
  have hmj : jo (0, (m : Int)) := ⟨by omega, by omega⟩
  have hn0 : ¬ Int32.ofInt (m : Int) < 0 := fun q => by
    have := (i32_lt hmj jo00).mp q
    omega
  have hnm : (Int32.ofInt (m : Int)).toNatClampNeg = m := by rw [ix_nat hmj (by omega)]; exact Int.toNat_natCast m
  have hby : m * componentBytes (newarray.typeOf at9) ≤ 536870912 := by
    have h8 : componentBytes (newarray.typeOf at9) ≤ 8 := by cases at9 <;> decide
    have := Nat.mul_le_mul hm h8
    omega
  have hz' : ∀ j, w N j = 0 := fun j => hz N j (Nat.le_refl _)
  refine va_newaK C.1 C.2.1 (C.2.2.2.1 _ hcl) rfl d rfl hn0 hnm hby hc.1 hc.2 rfl fun H1 cA e1 z1 o1 hAr hNm => ?_
  have hk : ∀ (k : Nat) (x : Nat × va_E), (wl (nad b) (xC X) w N)[k]? = some x → H1[x.1]? = H[x.1]? := fun k x hx => o1 x.1 ((hP k x hx).lt)
  have hcA : cA = xC X ak := by
    have h1 := (C.2.2.2.2.1.2 ak _ (jtys_at hak)).2
    rw [hty] at hNm
    have h2 : (xs X).vm.findClass ("[" ++ (jft ak).toString) = some (xC X ak) := by
      match ak, hak, hak2, h1 with
      | 0, _, _, h1 => exact h1
      | 1, _, _, h1 => exact h1
      | 2, _, h, _ => exact absurd rfl h
      | 3, _, _, h1 => exact h1
      | 4, _, _, h1 => exact h1
      | 5, _, _, h1 => exact h1
    exact Option.some.inj (hNm.symm.trans h2)
  have hS2 : va_S (xA X) (xs X).heap H1 locs := ⟨Nat.le_trans hV.1 (by omega), fun x h1 h2 => (o1 x (Nat.lt_of_lt_of_le h1 hV.1)).trans (hV.2.1 x h1 h2), hV.2.2⟩
  have hP2 : va_P (xD X) cl (wl (nad b) (xC X) w (N + 1)) H1 := by
    rw [wl_succ]
    refine (hP.kept hk).app (fun k x hx => ?_)
    have hz0 : k < 1 := (List.getElem?_eq_some_iff.mp hx).1
    rw [show k = 0 by omega] at hx
    cases hx
    show va_at _ _ (nad b N, jcell _ _ _ _) _
    simp only [jcell, hs]
    show H1[nad b N]? = some (vp_cell _ _)
    have e2 : H1[nad b N]? = some (arrV cA m (fun _ => defaultValue (newarray.typeOf at9))) := by
      have : nad b N = H.size := by rw [hsz]; rfl
      rw [this]; exact e1
    rw [e2, hcA, hty]
    congr 1
    match ak, hak, hak2 with
    | 0, _, _ => simp only [jar, vp_cell, hz']; rfl
    | 1, _, _ => simp only [jar, vp_cell, hz']; rfl
    | 2, _, h => exact absurd rfl h
    | 3, _, _ => simp only [jar, vp_cell, hz']; rfl
    | 4, _, _ => simp only [jar, vp_cell, hz']; rfl
    | 5, _, _ => simp only [jar, vp_cell, hz']; rfl
  have hk2 := kk hw (fun c' k' h => hz c' k' (by omega)) H1 locs ls (by omega) hP2 hS2 hl
  rw [hsz]
  exact hk2
theorem vn_newq (C : Cx X cc own) (G : Cn X b) {m : Nat} {ps : List Nat} {z : Int} (hs : sh N = some (.inr (2, m, ps))) (hzm : z = (m : Int)) (hm : m ≤ 1000000) (hcl : Cond.classLink own idx "EachBringsAnother$Kept" ∈ gw_tbl) (hc : k + 1 ≤ (xR X).cells ∧ n + m ≤ (xR X).slots) (d : decode cc pc = .ok (.anewarray idx, 3))
    (kk : VN X Qf b L0 (N + 1) (k + 1) (n + m) w (pc + 3) (.ref (b + N) :: S) w9) : VN X Qf b L0 N k n w pc (.int (Int32.ofInt z) :: S) w9 := by
  subst hzm
  intro hw hz H locs ls hsz hP hV hl
  have hmj : jo (0, (m : Int)) := ⟨by omega, by omega⟩
  have hn0 : ¬ Int32.ofInt (m : Int) < 0 := fun q => by
    have := (i32_lt hmj jo00).mp q
    omega
  have hnm : (Int32.ofInt (m : Int)).toNatClampNeg = m := by rw [ix_nat hmj (by omega)]; exact Int.toNat_natCast m
  have hz' : ∀ j, w N j = 0 := fun j => hz N j (Nat.le_refl _)
  refine W.anew C.1 C.2.1 C.2.2.1 (C.2.2.2.1 _ hcl) (va_AO.use G.2.2.2) rfl d rfl hn0 (by rw [hnm]; omega) hc.1 (by rw [hnm]; exact hc.2) fun cA kA comp f1 f2 f3 f4 => ?_
  generalize hH1 : H.push ({ cls := cA, slots := Array.replicate (Int32.ofInt (m : Int)).toNatClampNeg .null, vm := .none } : Cell) = H1
  have z1 : H1.size = H.size + 1 := by rw [← hH1, Array.size_push]
  have e1 : H1[H.size]? = some (arrV cA (Int32.ofInt (m : Int)).toNatClampNeg (fun _ => .null)) := by rw [← hH1, Array.getElem?_push_size, ← arrV_new]
  have o1 : ∀ q : Nat, q < H.size → H1[q]? = H[q]? := fun q hq => by rw [← hH1, Array.getElem?_push, if_neg (Nat.ne_of_lt hq)]
  have hk : ∀ (k : Nat) (x : Nat × va_E), (wl (nad b) (xC X) w N)[k]? = some x → H1[x.1]? = H[x.1]? := fun k x hx => o1 x.1 ((hP k x hx).lt)
  have hcA : cA = xC X 2 := by
    obtain ⟨kA9, comp9, g1, g2, g3, g4⟩ := (C.2.2.2.2.1.2 2 _ (jtys_at (by decide))).2
    first | exact Option.some.inj (f4.symm.trans g4) | exact Option.some.inj (f1.symm.trans g4) | exact Option.some.inj (f3.symm.trans g4)
  have hS2 : va_S (xA X) (xs X).heap H1 locs := ⟨Nat.le_trans hV.1 (by omega), fun x h1 h2 => (o1 x (Nat.lt_of_lt_of_le h1 hV.1)).trans (hV.2.1 x h1 h2), hV.2.2⟩
  have hP2 : va_P (xD X) cl (wl (nad b) (xC X) w (N + 1)) H1 := by
    rw [wl_succ]
    refine (hP.kept hk).app (fun k x hx => ?_)
    have hz0 : k < 1 := (List.getElem?_eq_some_iff.mp hx).1
    rw [show k = 0 by omega] at hx
    cases hx
    show va_at _ _ (nad b N, jcell _ _ _ _) _
    simp only [jcell, hs]
    show H1[nad b N]? = some (vp_cell _ _)
    have e2 : H1[nad b N]? = some (arrV cA m (fun _ => .null)) := by
      have : nad b N = H.size := by rw [hsz]; rfl
      rw [this, e1, hnm]
    rw [e2, hcA]
    simp only [jar, vp_cell, hz']
    rfl
  have hk2 := kk hw (fun c' k' h => hz c' k' (by omega)) H1 locs ls (by omega) hP2 hS2 hl
  rw [hsz]
  simpa only [hnm] using hk2
/-- the class ci's field i has a type of kind fk; a final one is own's own -/
def FNK (own : String) (ci i fk : Nat) : Prop := ∃ q ty, cl[ci]? = some q ∧ parseFieldDescriptor (q.2.1 i).2.2.1 = some ty ∧ ((q.2.1 i).2.2.2 = false ∨ ((q.2.1 i).2.2.2 = true ∧ (q.2.1 i).1 = own)) ∧ ((fk = 0 ∧ ty = .int) ∨ ((fk = 2 ∨ fk = 3) ∧ ((∃ C, ty = .object C) ∨ ∃ t, ty = .array t)))
theorem fit9 {ad : Nat → Nat} {fk : Nat} {z : Int} {ty : FieldType} (h : (fk = 0 ∧ ty = .int) ∨ ((fk = 2 ∨ fk = 3) ∧ ((∃ C, ty = .object C) ∨ ∃ t, ty = .array t))) : narrow ty (jc ad (jk fk, z)) = jc ad (jk fk, z) ∧ fits ty (jc ad (jk fk, z)) = true := by
  have key : ∀ ty, ((∃ C, ty = FieldType.object C) ∨ ∃ t, ty = FieldType.array t) → ∀ r, narrow ty (va_rf r) = va_rf r ∧ fits ty (va_rf r) = true := by
    intro ty h r
    rcases h with ⟨C, rfl⟩ | ⟨t, rfl⟩ <;> cases r <;> exact ⟨rfl, rfl⟩
  rcases h with ⟨rfl, rfl⟩ | ⟨rfl | rfl, h⟩
  · exact ⟨rfl, rfl⟩
  · exact key ty h _
  · exact key ty h _
theorem vn_put (C : Cx X cc own) (G : Cn X b) {c' ci fk z0 : Nat} {fs : List (Nat × Nat)} {i : Nat} {z : Int} {v : Value} (hm : Cond.fieldLink own idx own fn fd ∈ gw_tbl) (hq : ∃ q, cl[ci]? = some q ∧ i < q.2.2 ∧ (q.2.1 i).1 = own ∧ (q.2.1 i).2.1 = fn ∧ (q.2.1 i).2.2.1 = fd) (hf9 : FNK own ci i fk) (hs : sh c' = some (.inl (ci, fs))) (hk : fs[i]? = some (fk, z0)) (hc : c' < N) (hv : v = jc (nad b) (jk fk, z)) (hz9 : jo (jk fk, z)) (d : decode cc pc = .ok (.putfield idx, 3)) (kk : VN X Qf b L0 N k n (st w c' i z) (pc + 3) S w9) : VN X Qf b L0 N k n w pc (v :: .ref (b + c') :: S) w9 := by
  subst hv
  intro hw hz H locs ls hsz hP hV hl
  obtain ⟨q, h1, h2, e1, e2, e3⟩ := hq
  obtain ⟨q', ty, h1', hty, hfin, hkd⟩ := hf9
  rw [h1] at h1'; cases h1'
  have hgd : fs.getD i (0, 0) = (fk, z0) := by simp [List.getD_eq_getElem?_getD, hk]
  have hjA : jkA c' i = jk fk := by simp only [jkA, hs, hgd]
  have hw' : wok (st w c' i z) := st_wok hw (by rw [hjA]; exact hz9)
  have he : (wl (nad b) (xC X) w N)[c']? = some (b + c', .inr (ci, jfs (nad b) w c' fs)) := by rw [wl_at hc]; simp only [jcell, hs]; rfl
  obtain ⟨hn, hft⟩ := fit9 (ad := nad b) (z := z) hkd
  obtain ⟨hws, ⟨ty0, -, hty0⟩, hnm⟩ := cl_ok ci q h1
  have hset : (wl (nad b) (xC X) w N).set c' (b + c', .inr (ci, (jfs (nad b) w c' fs).set i (jc (nad b) (jk fk, z)))) = wl (nad b) (xC X) (st w c' i z) N :=
    wl_set (ad := nad b) hc (fun c9 h => by funext k'; exact st_c h) (by simp only [jcell, hs]; rw [jfs_set hk])
  have hlen : i < (jfs (nad b) w c' fs).length := by rw [jfs_len]; exact (List.getElem?_eq_some_iff.mp hk).1
  have hlk : (Cond.fieldLink own idx (q.2.1 i).1 (q.2.1 i).2.1 (q.2.1 i).2.2.1).before (xa X) (xs X) = true := by rw [e1, e2, e3]; exact C.2.2.2.1 _ hm
  have hK := C.2.2.2.2.1
  have hap := va_apart (own := own) C.2.2.2.1 hws ty0 hty0 hnm hK h1
  obtain ⟨r, hr1, cell, q1, q2, q3, q4⟩ := hP c' _ he
  have hr : r = q := Option.some.inj (hr1.symm.trans h1)
  subst hr
  obtain ⟨hSl, hfc, kC, hkC, hkind⟩ := hK.1 ci _ h1
  obtain ⟨cf, kf, fi, f, hi, hsl⟩ := hSl i h2
  have hst := (u_facts hfc hkC (u_lays C.2.2.2.1 hws h2) hi).1
  have hlay := C.2.2.2.1 _ (hws _ (u_in_lay h2))
  unfold u_lay at hlay
  have hD := nad_D (X := X) (N := N) (w := w) G.2.1
  have fin : ∀ (H' : Heap), H'[b + c']? = some (cell.setSlot (((xD X).2 ci) i) (jc (nad b) (jk fk, z))) → H'.size = H.size → (∀ q, q ≠ b + c' → H'[q]? = H[q]?) → va_P (xD X) cl ((wl (nad b) (xC X) w N).set c' (b + c', .inr (ci, (jfs (nad b) w c' fs).set i (jc (nad b) (jk fk, z))))) H' := fun H' g1 g2 g3 =>
    hP.set hD he ⟨_, h1, t_OB.to (V := updV (vp_V (jfs (nad b) w c' fs)) i (jc (nad b) (jk fk, z))) ⟨_, g1, q2, q3, t_set q4 hap h2 _⟩ (fun j _ => vp_updV_set hlen _ j)⟩ g3
  have go : ∀ (H1 : Heap) (locs1 : List Loc), H1.size = H.size → va_P (xD X) cl ((wl (nad b) (xC X) w N).set c' (b + c', .inr (ci, (jfs (nad b) w c' fs).set i (jc (nad b) (jk fk, z))))) H1 → va_S (xA X) (xs X).heap H1 locs1 → W (xp X) (xl X) (xe X) (xR X) (xs X) (xm X) (xa X) (xb X) (xM X) (xc X) H1 locs1 k n (Qf w9) (F0 (xm X) (pc + 3) ls S) := fun H1 locs1 hz1 P1 V1 =>
    kk hw' (fun c9 k9 h => by rw [st_c (by omega)]; exact hz c9 k9 h) H1 locs1 ls (by omega) (by rw [← hset]; exact P1) V1 hl
  rcases hfin with hfin | ⟨hfin, hdecl⟩
  · rw [if_neg (by rw [hfin]; decide)] at hlay
    have h6 := u_store hfc hkC hkind hlay hi hty hn hft
    refine W.putK C.1 C.2.1 (f := f) ⟨C.2.2.1, hlk, ⟨_, _, _, hi⟩, hst⟩ (by rw [q2]; exact h6) q1 q3 (by rw [hsl]; exact k2_hasslot (q4 i h2)) rfl rfl d fun H' g1 g2 g3 => ?_
    rw [hsl] at g1 ⊢
    exact go H' _ g2 (fin H' g1 g2 g3) (hV.put g2 g3 (G.2.1 c'))
  · rw [if_pos hfin] at hlay
    have hcf : (xm X).cls = cf := by
      obtain ⟨_, _, c9, _, _, _, -, -, hf', -, -, -, hown2, -⟩ := Cond.laysFinal_spec hlay
      have e9 : c9 = cf := by have := hi.symm.trans hf'; simp at this; exact this.1.symm
      rw [hdecl] at hown2
      rw [← e9]; exact Option.some.inj (C.2.2.1.symm.trans hown2)
    have h6 := u_fits hfc hkC hkind (Or.inr hlay) hi hty hn hft
    refine W.putFinK C.1 C.2.1 C.2.2.1 hlk hi hst hcf G.2.2.1 (by rw [q2]; exact h6) q1 q3 (by rw [hsl]; exact k2_hasslot (q4 i h2)) rfl rfl d fun H' g1 g2 g3 => ?_
    rw [hsl] at g1 ⊢
    exact go H' _ g2 (fin H' g1 g2 g3) (hV.put g2 g3 (G.2.1 c'))
theorem vn_ast (C : Cx X cc own) (G : Cn X b) {a v m ci : Nat} {ps : List Nat} {fs : List (Nat × Nat)} {i : Int} (hs : sh a = some (.inr (2, m, ps))) (ha : a < N) (hsv : sh v = some (.inl (ci, fs))) (hv : v < N) (hci : cl[ci]? = some ("EachBringsAnother$Kept", T9, n9)) (hi : jo (0, i)) (hin : 0 ≤ i ∧ i < (m : Int)) (d : decode cc pc = .ok (.aastore, 1)) (kk : VN X Qf b L0 N k n (st w a i.toNat ((v + 1 : Nat) : Int)) (pc + 1) S w9) : VN X Qf b L0 N k n w pc (.ref (b + v) :: .int (Int32.ofInt i) :: .ref (b + a) :: S) w9 := by
  intro hw hz H locs ls hsz hP hV hl
  have hw' : wok (st w a i.toNat ((v + 1 : Nat) : Int)) := st_wok hw (by simp only [jkA, hs]; exact Int.natCast_nonneg _)
  have he : (wl (nad b) (xC X) w N)[a]? = some (b + a, .inl (xC X 2, jar (nad b) w a 2 m)) := by rw [wl_at ha]; simp only [jcell, hs]; rfl
  have hev : (wl (nad b) (xC X) w N)[v]? = some (b + v, .inr (ci, jfs (nad b) w v fs)) := by rw [wl_at hv]; simp only [jcell, hsv]; rfl
  have hK := C.2.2.2.2.1
  have hD := nad_D (X := X) (N := N) (w := w) G.2.1
  have hix := ix_in hi hin
  have hlt : (Int32.ofInt i).toNatClampNeg < m := Nat.not_le.mp fun q => hix (Or.inr q)
  have h0 : ¬ Int32.ofInt i < 0 := fun q => hix (Or.inl q)
  obtain ⟨r', hr', cellV, g1, g2, g3, -⟩ := hP v _ hev
  have hcls := (hK.1 ci _ hci).2
  obtain ⟨kA, comp, k1, k2, k3, -⟩ := (hK.2 2 _ (jtys_at (by decide))).2
  have hcomp : comp = (xD X).1 ci := Option.some.inj (k3.symm.trans hcls.1)
  subst hcomp
  obtain ⟨kC, hkC, -⟩ := hcls.2
  refine W.aast C.1 C.2.1 (hP a _ he) (fun q h => by cases h) (fun h => by cases h) k1 k2 rfl hkC ⟨h0, by show _ < (arrV _ _ _).slots.size; rw [arrV_size]; exact hlt⟩ g1 (fun q h => by rw [g3] at h; cases h) (by rw [g2]; exact hkC) (by rw [g2]; exact va_assign hcls) rfl rfl d fun H1 e z oq => ?_
  have hset : (wl (nad b) (xC X) w N).set a (b + a, jcell (nad b) (xC X) (st w a i.toNat ((v + 1 : Nat) : Int)) a) = wl (nad b) (xC X) (st w a i.toNat ((v + 1 : Nat) : Int)) N :=
    wl_set (ad := nad b) ha (fun c9 h => by funext k'; exact st_c h) rfl
  refine kk hw' (fun c9 k9 h => by rw [st_c (by omega)]; exact hz c9 k9 h) H1 _ ls (by omega) ?_ (hV.put z oq (G.2.1 a)) hl
  rw [← hset]
  refine hP.set hD he ?_ oq
  show va_at _ _ (b + a, jcell _ _ _ a) _
  simp only [jcell, hs]
  show H1[b + a]? = some (vp_cell _ _)
  rw [e]
  simp only [jar]
  rw [vp_cell_q, vp_cell_q, arrV_store]
  congr 2
  funext q
  rw [ix_nat hi hin.1]
  by_cases hq : q = i.toNat
  · subst hq
    simp only [updV, st_eq, if_pos]
    rw [show rfz (nad b) ((v + 1 : Nat) : Int) = some (b + v) by
      unfold rfz
      rw [if_neg (by omega)]
      congr 1
      show b + (((v + 1 : Nat) : Int) - 1).toNat = b + v
      omega]
    rfl
  · simp only [updV, if_neg hq, st_k hq]
end
