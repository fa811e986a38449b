theorem ml_A_19 : ML "EachBringsAnotherLaw" 19 y_E_init := Or.inl (mem_h 107 (by decide +kernel))
theorem ml_A_22 : ML "EachBringsAnotherLaw" 22 y_R_init := Or.inl (mem_h 1214 (by decide +kernel))
theorem hft_10 (b : Nat) (fs : List (Nat × Nat)) (hfs : fs.map (·.1) = [3, 3, 3, 3, 3, 3, 3, 3, 3, 3]) : ∀ j, j < 10 → ∀ ty : Nat → FieldType, tyL[10]? = some ty → defaultValue (ty j) = jc (nad b) (jk (fs.getD j (0, 0)).1, 0) := by
  intro j hj ty h
  cases h
  have e : (fs.getD j (0, 0)).1 = (fs.map (·.1)).getD j 0 := by
    rw [List.getD_eq_getElem?_getD, List.getD_eq_getElem?_getD, List.getElem?_map]
    cases fs[j]? <;> rfl
  rw [e, hfs]
  match j, hj with
  | 0, _ => rfl
  | 1, _ => rfl
  | 2, _ => rfl
  | 3, _ => rfl
  | 4, _ => rfl
  | 5, _ => rfl
  | 6, _ => rfl
  | 7, _ => rfl
  | 8, _ => rfl
  | 9, _ => rfl
  | k + 10, h => exact absurd h (by omega)
theorem hft_11 (b : Nat) (fs : List (Nat × Nat)) (hfs : fs.map (·.1) = [0, 3, 3, 3, 3, 3, 3, 0, 0, 3, 0, 0, 3, 0, 3, 0, 0, 2, 0, 0, 0, 0, 3, 3, 3, 3, 3, 0, 0, 0, 3, 3, 0, 3, 3, 3, 3, 3, 3, 3, 0, 0, 3, 3, 0, 3, 3, 3, 3, 3, 3, 3, 0, 3, 3, 3, 0, 3, 3, 3]) : ∀ j, j < 60 → ∀ ty : Nat → FieldType, tyL[11]? = some ty → defaultValue (ty j) = jc (nad b) (jk (fs.getD j (0, 0)).1, 0) := by
  intro j hj ty h
  cases h
  have e : (fs.getD j (0, 0)).1 = (fs.map (·.1)).getD j 0 := by
    rw [List.getD_eq_getElem?_getD, List.getD_eq_getElem?_getD, List.getElem?_map]
    cases fs[j]? <;> rfl
  rw [e, hfs]
  match j, hj with
  | 0, _ => rfl
  | 1, _ => rfl
  | 2, _ => rfl
  | 3, _ => rfl
  | 4, _ => rfl
  | 5, _ => rfl
  | 6, _ => rfl
  | 7, _ => rfl
  | 8, _ => rfl
  | 9, _ => rfl
  | 10, _ => rfl
  | 11, _ => rfl
  | 12, _ => rfl
  | 13, _ => rfl
  | 14, _ => rfl
  | 15, _ => rfl
  | 16, _ => rfl
  | 17, _ => rfl
  | 18, _ => rfl
  | 19, _ => rfl
  | 20, _ => rfl
  | 21, _ => rfl
  | 22, _ => rfl
  | 23, _ => rfl
  | 24, _ => rfl
  | 25, _ => rfl
  | 26, _ => rfl
  | 27, _ => rfl
  | 28, _ => rfl
  | 29, _ => rfl
  | 30, _ => rfl
  | 31, _ => rfl
  | 32, _ => rfl
  | 33, _ => rfl
  | 34, _ => rfl
  | 35, _ => rfl
  | 36, _ => rfl
  | 37, _ => rfl
  | 38, _ => rfl
  | 39, _ => rfl
  | 40, _ => rfl
  | 41, _ => rfl
  | 42, _ => rfl
  | 43, _ => rfl
  | 44, _ => rfl
  | 45, _ => rfl
  | 46, _ => rfl
  | 47, _ => rfl
  | 48, _ => rfl
  | 49, _ => rfl
  | 50, _ => rfl
  | 51, _ => rfl
  | 52, _ => rfl
  | 53, _ => rfl
  | 54, _ => rfl
  | 55, _ => rfl
  | 56, _ => rfl
  | 57, _ => rfl
  | 58, _ => rfl
  | 59, _ => rfl
  | k + 60, h => exact absurd h (by omega)
/-! THE LAW'S START -/
def w00 : Wd := fun _ _ => 0
def w0 : Wd := i_R (i_E w00)
theorem jpt_in {c k z : Nat} (h : jpt c k = some z) : c < 83 ∧ k < 70 := by
  have hL : shL.all (fun x => match x with | .inl q => Nat.ble q.2.length 70 | .inr q => Nat.ble q.2.2.length 70) = true := by decide +kernel
  have hn : shL.length = 83 := by decide +kernel
  unfold jpt sh at h
  cases hs : shL[c]? with
  | none => rw [hs] at h; cases h
  | some x =>
    have hc : c < shL.length := (List.getElem?_eq_some_iff.mp hs).1
    have hx := List.all_eq_true.mp hL x (List.mem_of_getElem? hs)
    refine ⟨by omega, ?_⟩
    rw [hs] at h
    match x, hx, h with
    | .inl (ci, fs), hx, h =>
      have h1 := Nat.le_of_ble_eq_true hx
      simp only at h h1
      cases hf : fs[k]? with
      | none => rw [hf] at h; cases h
      | some q => exact Nat.lt_of_lt_of_le (List.getElem?_eq_some_iff.mp hf).1 h1
    | .inr (0, n, ps), hx, h => cases h
    | .inr (1, n, ps), hx, h => cases h
    | .inr (2, n, ps), hx, h =>
      have h1 := Nat.le_of_ble_eq_true hx
      simp only at h h1
      exact Nat.lt_of_lt_of_le (List.getElem?_eq_some_iff.mp h).1 h1
    | .inr (a + 3, n, ps), hx, h => cases h
theorem w0_ptb : (List.range 83).all (fun c => (List.range 70).all fun k => match jpt c k with | some z => decide (w0 c k = (z : Int)) | none => true) = true := by decide +kernel
theorem w0_pt : wpt w0 := fun c k z h => by
  obtain ⟨hc, hk⟩ := jpt_in h
  have h1 := List.all_eq_true.mp (List.all_eq_true.mp w0_ptb c (List.mem_range.mpr hc)) k (List.mem_range.mpr hk)
  rw [h] at h1
  exact of_decide_eq_true h1
theorem w00_ok : wok w00 := fun c k => by
  show jo (jkA c k, 0)
  unfold jo
  split <;> simp
theorem vn_vf {X : jX} {Q : State → Prop} {b k n pc : Nat} {w w9 : Wd} {r : Int} {L : List (Nat × jv)} {L0 : List (Nat × Value)} (hI : ∀ i, xA X (b + i)) (hp : wpt w) (hL : ∀ q ∈ L, jo q.2) (hl0 : jL (nad b) L = L0) (hF : VF X (fun _ => Q) (nad b) NF k n w pc L [] (some (r, w9))) : VN X (fun _ => Q) b L0 83 k n w pc [] w9 := by
  subst hl0
  intro hw hz H locs ls hsz hP hV hl
  exact hF _ rfl hw (fun _ => hp) hL (fun _ h => by cases h) H locs ls hP hV hl ⟨fun i j _ _ e => Nat.add_left_cancel e, fun i _ => hI i⟩
theorem room_n {X : jX} {k n k1 n1 : Nat} (h : xR X = room_1) (hd : (Nat.ble (k + k1) 601024 && Nat.ble (n + n1) 7293034) = true) : k + k1 ≤ (xR X).cells ∧ n + n1 ≤ (xR X).slots := by
  simp only [Bool.and_eq_true, Nat.ble_eq] at hd
  rw [h]; exact hd
theorem room_r {X : jX} {d0 mL k0 k1 n0 n1 : Nat} (h : xR X = room_1) (hd : (Nat.ble d0 900 && Nat.ble mL 41 && Nat.ble (k0 + k1) 601024 && Nat.ble (n0 + n1) 7293034) = true) : d0 + 1 ≤ (xR X).frames ∧ 19 + mL + 60 * d0 ≤ (xR X).locals ∧ k0 + k1 ≤ (xR X).cells ∧ n0 + n1 ≤ (xR X).slots := by
  simp only [Bool.and_eq_true, Nat.ble_eq] at hd
  rw [h]
  have e : room_1.frames = 2048 ∧ room_1.cells = 601024 ∧ room_1.slots = 7293034 ∧ room_1.locals = 84000 := ⟨rfl, rfl, rfl, rfl⟩
  obtain ⟨e1, e2, e3, e4⟩ := e
  rw [e1, e2, e3, e4]
  omega
/-- from the entry, where the pure function of the law says 1 -/
theorem law_start {p : Program} {e : Env} {s : State} {m : MethodId} {below : List Frame} {meth : Method} {c : Code} (l : Launch) (hflags : l.flags = flags0) {b Ln : Nat} {xf : Nat → Int32} (hLn : Ln < 1000000000) (C0 : lw_At p s m meth c b Ln xf) {f : Nat} {w9 : Wd} (hf : f ≤ 599919) (hg : f_A_law Ln xf f 0 w0 = some (1, w9)) : W p l e room_1 s m #[Value.ref b] below meth c s.heap [] 0 0 (lw_Z below #[Value.ref b] s) (entryFrame m ([Value.ref b] : List Value).toArray 7) := by
  obtain ⟨hx, hb, hr, hml, hown, hts, hXs, hbl, hlocks, hgv⟩ := C0
  obtain ⟨D, cA, hK⟩ := l_K hts
  let X : jX := (p, l, e, room_1, s, m, #[.ref b], below, meth, c, D, cA, AN s.heap.size, 7)
  have C : Cx X code "EachBringsAnotherLaw" := ⟨hx, hb, hown, l_gw hts, hK, hml, l_NW hts⟩
  have hAO : va_AO "EachBringsAnother$Kept" (xs X) := l_AO hts
  have hAn : ∀ a : Nat, a < s.heap.size → ¬ AN s.heap.size a := fun a h1 h2 => absurd h1 (Nat.not_lt.mpr h2)
  have hZ : ZX (xA X) (xs X) := l_ZX hts hgv hAn
  have hSX : SX (xs X) := l_SX hts
  have hlt : (xl X).stackTraces = false := by
    show l.stackTraces = false
    unfold Launch.stackTraces
    rw [hflags]
    decide
  have hXL : LX X (b : Int) Ln xf := ⟨by rw [Int.toNat_natCast]; exact hXs, by rw [Int.toNat_natCast]; exact hbl, by rw [Int.toNat_natCast]; exact hAn b hbl, hLn⟩
  have hl := lv_entry ([.ref b]) (n := 7) (Nat.le_of_ble_eq_true rfl)
  rw [lg_entry_eq]
  have hRt : RtL X (fun _ => lw_Z below #[.ref b] s) (nad s.heap.size) code := by
    intro f k n pc w L hB hd o ho hw hp hL hS H locs ls hP hV hl' hI
    cases ho
    have h1 : k ≤ 601024 := by have h := hB.1; have e : (xR X).cells = 601024 := rfl; omega
    have h2 : n ≤ 7293034 := by have h := hB.2.1; have e : (xR X).slots = 7293034 := rfl; omega
    exact va_forget (fun q hq => hV.2.2 q hq) (W.widen (k := 601024) (n := 7293034) h1 h2 (lw_ret hx hb hr hlocks hd))
  have hLB : LB X f 83 968935 := ⟨by show 83 + f ≤ 601024; omega, by show 968935 + 6 * f ≤ 7293034; omega, by show 300 ≤ 2048; decide, by show 18060 ≤ 84000; decide⟩
  have hLj : ∀ q ∈ ([(3, (2, 83)), (2, (2, 44)), (1, (2, 1)), (0, (3, (b : Int)))] : List (Nat × jv)), jo q.2 := by
    intro q hq
    simp only [List.mem_cons, List.not_mem_nil, or_false] at hq
    rcases hq with rfl | rfl | rfl | rfl
    · show (0 : Int) ≤ 83; decide
    · show (0 : Int) ≤ 44; decide
    · show (0 : Int) ≤ 1; decide
    · exact Int.natCast_nonneg b
  have hVN : VN X (fun _ => lw_Z below #[.ref b] s) s.heap.size [(0, .ref b)] 0 0 0 w00 0 [] w9 := by
    refine vn_new C hAO (idx := 8) (q := ("EachBringsAnother", TN10, 10)) sh_0 rfl rfl (hft_10 _ _ rfl) (mem_h 105 (by decide +kernel)) (mem_h 106 (by decide +kernel)) (mem_h 84 (by decide +kernel)) (room_n rfl rfl) (by decide +kernel) ?_
    refine vn_dup C (by decide +kernel) rfl ?_
    refine vn_call C hAO rfl cyn_E ml_A_19 ctn_E (room_r rfl rfl) (Nat.le_of_ble_eq_true rfl) (by decide +kernel) ?_
    refine vn_astore_n C (f := 1) (i := 1) (nL := 7) (L1 := [(1, .ref (s.heap.size + 0)), (0, .ref b)]) (by decide +kernel) rfl rfl (by decide) rfl ?_
    refine vn_new C hAO (idx := 20) (q := ("EachBringsAnotherModel", TN11, 60)) sh_43 rfl rfl (hft_11 _ _ rfl) (mem_h 1212 (by decide +kernel)) (mem_h 1213 (by decide +kernel)) (mem_h 95 (by decide +kernel)) (room_n rfl rfl) (by decide +kernel) ?_
    refine vn_dup C (by decide +kernel) rfl ?_
    refine vn_call C hAO rfl cyn_R ml_A_22 ctn_R (room_r rfl rfl) (Nat.le_of_ble_eq_true rfl) (by decide +kernel) ?_
    refine vn_astore_n C (f := 2) (i := 2) (nL := 7) (L1 := [(2, .ref (s.heap.size + 43)), (1, .ref (s.heap.size + 0)), (0, .ref b)]) (by decide +kernel) rfl rfl (by decide) rfl ?_
    refine vn_ic C (z := 1) (by decide +kernel) ?_
    refine vn_newa C (z := 1) sh_82 (by decide) (by decide) rfl rfl (Nat.le_of_ble_eq_true rfl) (mem_h 408 (by decide +kernel)) (room_n rfl rfl) (at9 := .long) (by decide +kernel) ?_
    refine vn_astore_n C (f := 3) (i := 3) (nL := 7) (L1 := [(3, .ref (s.heap.size + 82)), (2, .ref (s.heap.size + 43)), (1, .ref (s.heap.size + 0)), (0, .ref b)]) (by decide +kernel) rfl rfl (by decide) rfl ?_
    refine vn_vf (r := 1) (L := [(3, (2, 83)), (2, (2, 44)), (1, (2, 1)), (0, (3, (b : Int)))]) (fun i => Nat.le_add_right _ i) w0_pt hLj rfl ?_
    refine vf_iconst C (z := 0) (by decide +kernel) (jz rfl) ?_
    refine vf_istore C (i := 4) (nL := 7) (L' := [(3, (2, 83)), (2, (2, 44)), (1, (2, 1)), (0, (3, (b : Int)))]) (by decide +kernel) [0, 1, 2, 3] (jrI rfl rfl) rfl (by decide) ?_
    refine vf_perm [4, 3, 2, 1, 0] rfl ?_
    rw [← hg]
    exact t_A_law C rfl hXL hRt hlt hZ hSX f 83 968935 0 w0 hLB
  exact hVN w00_ok (fun _ _ _ => rfl) s.heap [] _ rfl (fun k q h => by simp [wl] at h) va_S.rf hl
