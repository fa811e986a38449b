section
variable {X : jX} {cc : ByteArray} {own : String} {Qf : Int × Wd → State → Prop} {ad : Nat → Nat} {N k n pc : Nat} {w : Wd} {L : List (Nat × jv)} {S : List jv} {g : Option (Int × Wd)}
/-- a field's link: the entry idx of own's pool names field k of the class number ci -/
def FL (own : String) (idx ci k : Nat) : Prop := ∃ q : vw_C, cl[ci]? = some q ∧ k < q.2.2 ∧ (Cond.fieldLink own idx (q.2.1 k).1 (q.2.1 k).2.1 (q.2.1 k).2.2.1 ∈ gw_tbl ∨ ∃ host, Cond.fieldLinkNest own idx (q.2.1 k).1 (q.2.1 k).2.1 (q.2.1 k).2.2.1 host ∈ nw_tbl)
theorem vf_getq (C : Cx X cc own) {idx c ci fk z : Nat} {fs : List (Nat × Nat)} {i : Nat} (hf : FL own idx ci i) (hs : sh c = some (.inl (ci, fs))) (hk : fs[i]? = some (fk, z)) (hc : c < N) (d : decode cc pc = .ok (.getfield idx, 3)) (kk : VF X Qf ad N k n w (pc + 3) L ((jk fk, w c i) :: S) g) : VF X Qf ad N k n w pc L ((2, ((c + 1 : Nat) : Int)) :: S) g := by
  intro o ho hw hp hL hS H locs ls hP hV hl hI
  obtain ⟨q, h1, h2, h3⟩ := hf
  have hj : jo (jk fk, w c i) := by
    have := hw c i
    simp only [jkA, hs] at this
    rwa [show (fs.getD i (0, 0)) = (fk, z) by simp [List.getD_eq_getElem?_getD, hk]] at this
  have hk2 := kk o ho hw hp hL (al_c hj (al_t hS)) H locs ls hP hV hl hI
  have he : (wl ad (xC X) w N)[c]? = some (ad c, .inr (ci, jfs ad w c fs)) := by rw [wl_at hc]; simp only [jcell, hs]
  have e0 : jc ad (2, ((c + 1 : Nat) : Int)) = .ref (ad c) := jc_rf
  simp only [List.map_cons] at hk2 ⊢
  rw [e0]
  rcases h3 with h3 | ⟨host, h3⟩
  · exact va_get C.1 C.2.1 C.2.2.2.1 (cl_ok ci q h1).1 C.2.2.1 C.2.2.2.2.1 hP c he h1 i h2 (C.2.2.2.1 _ h3) (fun _ h => h) (jfs_at hk) d hk2
  · exact va_getN C.1 C.2.1 C.2.2.2.1 (cl_ok ci q h1).1 C.2.2.1 C.2.2.2.2.1 hP c he h1 i h2 (va_Nw.use rfl (C.2.2.2.2.2.2 _ h3)) (fun _ h => h) (jfs_at hk) d hk2
/-- an int, a long, a boolean -/
theorem vf_get (C : Cx X cc own) {idx c ci fk z kd : Nat} {fs : List (Nat × Nat)} {i : Nat} {r : Int} (hf : FL own idx ci i) (hs : sh c = some (.inl (ci, fs))) (hk : fs[i]? = some (fk, z)) (hc : c < N) (hr : r = ((c + 1 : Nat) : Int)) (hkd : jk fk = kd) (d : decode cc pc = .ok (.getfield idx, 3)) (kk : VF X Qf ad N k n w (pc + 3) L ((kd, w c i) :: S) g) : VF X Qf ad N k n w pc L ((2, r) :: S) g := by
  subst hr
  subst hkd
  exact vf_getq C hf hs hk hc d kk
/-- a final reference, behind the constructors -/
theorem vf_getp (C : Cx X cc own) {idx c ci z : Nat} {fs : List (Nat × Nat)} {i : Nat} {r x : Int} (hf : FL own idx ci i) (hs : sh c = some (.inl (ci, fs))) (hk : fs[i]? = some (3, z)) (hc : c < NF) (hr : r = ((c + 1 : Nat) : Int)) (hx : x = (z : Int)) (d : decode cc pc = .ok (.getfield idx, 3)) (kk : VF X Qf ad NF k n w (pc + 3) L ((2, x) :: S) g) : VF X Qf ad NF k n w pc L ((2, r) :: S) g := by
  subst hr
  subst hx
  intro o ho hw hp
  have e : w c i = (z : Int) := by
    apply hp rfl
    simp only [jpt, hs, hk]
  have kk2 : VF X Qf ad NF k n w (pc + 3) L ((jk 3, w c i) :: S) g := by
    rw [e]; exact kk
  exact vf_getq C hf hs hk hc d kk2 o ho hw hp
theorem st_wok {w : Wd} {c i : Nat} {z : Int} (hw : wok w) (hz : jo (jkA c i, z)) : wok (st w c i z) := by
  intro c' k'
  by_cases h : c' = c ∧ k' = i
  · obtain ⟨rfl, rfl⟩ := h
    rw [st_eq]; exact hz
  · have : st w c i z c' k' = w c' k' := by simp [st, h]
    rw [this]; exact hw c' k'
theorem st_wpt {w : Wd} {c i : Nat} {z : Int} (hw : wpt w) (hz : jpt c i = none) : wpt (st w c i z) := by
  intro c' k' v hv
  by_cases h : c' = c ∧ k' = i
  · obtain ⟨rfl, rfl⟩ := h
    rw [hz] at hv; cases hv
  · have : st w c i z c' k' = w c' k' := by simp [st, h]
    rw [this]; exact hw c' k' v hv
theorem jfs_set {ad : Nat → Nat} {w : Wd} {c i fk z0 : Nat} {z : Int} {fs : List (Nat × Nat)} (hk : fs[i]? = some (fk, z0)) : (jfs ad w c fs).set i (jc ad (jk fk, z)) = jfs ad (st w c i z) c fs := by
  apply List.ext_getElem?
  intro j
  have hi : i < fs.length := (List.getElem?_eq_some_iff.mp hk).1
  by_cases hj : j = i
  · subst hj
    rw [List.getElem?_set_self (by rw [jfs_len]; exact hi), jfs_at hk, st_eq]
  · rw [List.getElem?_set_ne (Ne.symm hj)]
    by_cases hl : j < fs.length
    · have e : fs[j]? = some (fs[j].1, fs[j].2) := by simp [hl]
      rw [jfs_at e, jfs_at e, st_k hj]
    · simp [jfs, hl]
/-- what a field of a kind takes -/
def jfit (fk : Nat) (z : Int) : Prop := fk = 0 ∨ fk = 1 ∨ (fk = 2) ∨ (fk = 4 ∧ (z = 0 ∨ z = 1))
/-- the class ci's field i has a type of kind fk, and isn't final -/
def FK (ci i fk : Nat) : Prop := ∃ q ty, cl[ci]? = some q ∧ parseFieldDescriptor (q.2.1 i).2.2.1 = some ty ∧ (q.2.1 i).2.2.2 = false ∧ ((fk = 0 ∧ ty = .int) ∨ (fk = 1 ∧ ty = .long) ∨ (fk = 4 ∧ ty = .boolean) ∨ (fk = 2 ∧ ((∃ C, ty = .object C) ∨ ∃ t, ty = .array t)))
theorem fit_ok {ad : Nat → Nat} {fk : Nat} {z : Int} {ty : FieldType} (h : (fk = 0 ∧ ty = .int) ∨ (fk = 1 ∧ ty = .long) ∨ (fk = 4 ∧ ty = .boolean) ∨ (fk = 2 ∧ ((∃ C, ty = .object C) ∨ ∃ t, ty = .array t))) (hz : fk = 4 → z = 0 ∨ z = 1) : narrow ty (jc ad (jk fk, z)) = jc ad (jk fk, z) ∧ fits ty (jc ad (jk fk, z)) = true := by
  rcases h with ⟨rfl, rfl⟩ | ⟨rfl, rfl⟩ | ⟨rfl, rfl⟩ | ⟨rfl, h⟩
  · exact ⟨rfl, rfl⟩
  · exact ⟨rfl, rfl⟩
  · rcases hz rfl with rfl | rfl
    · exact ⟨(by decide +kernel : narrow .boolean (.int (Int32.ofInt 0)) = .int (Int32.ofInt 0)), (by decide +kernel : fits .boolean (.int (Int32.ofInt 0)) = true)⟩
    · exact ⟨(by decide +kernel : narrow .boolean (.int (Int32.ofInt 1)) = .int (Int32.ofInt 1)), (by decide +kernel : fits .boolean (.int (Int32.ofInt 1)) = true)⟩
  · have : ∀ r, narrow ty (va_rf r) = va_rf r ∧ fits ty (va_rf r) = true := by
      intro r
      rcases h with ⟨C, rfl⟩ | ⟨t, rfl⟩ <;> cases r <;> exact ⟨rfl, rfl⟩
    exact this _
theorem vf_putq (C : Cx X cc own) {idx c ci fk z0 : Nat} {fs : List (Nat × Nat)} {i : Nat} {z : Int} (hf : FL own idx ci i) (hfk : FK ci i fk) (hs : sh c = some (.inl (ci, fs))) (hk : fs[i]? = some (fk, z0)) (hc : c < N) (h3 : fk ≠ 3) (hz : fk = 4 → z = 0 ∨ z = 1) (d : decode cc pc = .ok (.putfield idx, 3)) (kk : VF X Qf ad N k n (st w c i z) (pc + 3) L S g) : VF X Qf ad N k n w pc L ((jk fk, z) :: (2, ((c + 1 : Nat) : Int)) :: S) g := by
  intro o ho hw hp hL hS H locs ls hP hV hl hI
  obtain ⟨q, h1, h2, hln⟩ := hf
  obtain ⟨q', ty, h1', hty, hfin, hkd⟩ := hfk
  rw [h1] at h1'; cases h1'
  have hgd : fs.getD i (0, 0) = (fk, z0) := by simp [List.getD_eq_getElem?_getD, hk]
  have hjA : jkA c i = jk fk := by simp only [jkA, hs, hgd]
  have hpt : jpt c i = none := by
    simp only [jpt, hs, hk]
    split
    · rename_i heq; cases heq; exact absurd rfl h3
    · rfl
  have hw' : wok (st w c i z) := st_wok hw (by rw [hjA]; exact al_h hS)
  have hk2 := fun H1 locs1 P V => kk o ho hw' (fun e => st_wpt (hp e) hpt) hL (al_t (al_t hS)) H1 locs1 ls P V hl hI
  have he : (wl ad (xC X) w N)[c]? = some (ad c, .inr (ci, jfs ad w c fs)) := by rw [wl_at hc]; simp only [jcell, hs]
  have e0 : jc ad (2, ((c + 1 : Nat) : Int)) = .ref (ad c) := jc_rf
  obtain ⟨hn, hft⟩ := fit_ok (ad := ad) hkd hz
  obtain ⟨hws, ⟨ty0, -, hty0⟩, hnm⟩ := cl_ok ci q h1
  have hD : va_D (xA X) (wl ad (xC X) w N) := by
    refine ⟨fun a b p r ha hb e => ?_, fun a p ha => ?_⟩
    · have la : a < N := by have := (List.getElem?_eq_some_iff.mp ha).1; simpa [wl] using this
      have lb : b < N := by have := (List.getElem?_eq_some_iff.mp hb).1; simpa [wl] using this
      rw [wl_at la] at ha; rw [wl_at lb] at hb; cases ha; cases hb
      exact hI.1 a b la lb e
    · have la : a < N := by have := (List.getElem?_eq_some_iff.mp ha).1; simpa [wl] using this
      rw [wl_at la] at ha; cases ha
      exact hI.2 a la
  have hset : (wl ad (xC X) w N).set c (ad c, .inr (ci, (jfs ad w c fs).set i (jc ad (jk fk, z)))) = wl ad (xC X) (st w c i z) N :=
    wl_set hc (fun c' h => by funext k'; exact st_c h) (by simp only [jcell, hs]; rw [jfs_set hk])
  simp only [List.map_cons] at hk2 ⊢
  rw [e0]
  have hlen : i < (jfs ad w c fs).length := by rw [jfs_len]; exact (List.getElem?_eq_some_iff.mp hk).1
  rcases hln with h3 | ⟨host, h3⟩
  · exact va_put C.1 C.2.1 C.2.2.2.1 hws ty0 hty0 hnm C.2.2.1 C.2.2.2.2.1 hP hD hV c he h1 i h2 (C.2.2.2.1 _ h3) (fun _ h => h) hfin hty hn hft hlen d fun H1 locs1 P1 _ V1 => hk2 H1 locs1 (by rw [← hset]; exact P1) V1
  · exact va_putN C.1 C.2.1 C.2.2.2.1 hws ty0 hty0 hnm C.2.2.1 C.2.2.2.2.1 hP hD hV c he h1 i h2 (va_Nw.use rfl (C.2.2.2.2.2.2 _ h3)) (fun _ h => h) hfin hty hn hft hlen d fun H1 locs1 P1 _ V1 => hk2 H1 locs1 (by rw [← hset]; exact P1) V1
theorem vf_put (C : Cx X cc own) {idx c ci fk z0 kd : Nat} {fs : List (Nat × Nat)} {i : Nat} {z r : Int} (hf : FL own idx ci i) (hfk : FK ci i fk) (hs : sh c = some (.inl (ci, fs))) (hk : fs[i]? = some (fk, z0)) (hc : c < N) (hr : r = ((c + 1 : Nat) : Int)) (hkd : jk fk = kd) (h3 : fk ≠ 3 ∧ fk ≠ 4) (d : decode cc pc = .ok (.putfield idx, 3)) (kk : VF X Qf ad N k n (st w c i z) (pc + 3) L S g) : VF X Qf ad N k n w pc L ((kd, z) :: (2, r) :: S) g := by
  subst hr
  subst hkd
  exact vf_putq C hf hfk hs hk hc h3.1 (fun e => absurd e h3.2) d kk
/-- a boolean -/
theorem vf_putz (C : Cx X cc own) {idx c ci z0 : Nat} {fs : List (Nat × Nat)} {i : Nat} {z r : Int} (hf : FL own idx ci i) (hfk : FK ci i 4) (hs : sh c = some (.inl (ci, fs))) (hk : fs[i]? = some (4, z0)) (hc : c < N) (hr : r = ((c + 1 : Nat) : Int)) (d : decode cc pc = .ok (.putfield idx, 3)) (kk : VF X Qf ad N k n (st w c i z) (pc + 3) L S g) : VF X Qf ad N k n w pc L ((0, z) :: (2, r) :: S) (if z = 0 ∨ z = 1 then g else none) := by
  subst hr
  intro o ho
  by_cases hz : z = 0 ∨ z = 1
  · rw [if_pos hz] at ho
    exact vf_putq C hf hfk hs hk hc (by decide) (fun _ => hz) d kk o ho
  · rw [if_neg hz] at ho; cases ho
theorem wl_D {X : jX} {ad : Nat → Nat} {w : Wd} {N : Nat} (hI : jinj ad N (xA X)) : va_D (xA X) (wl ad (xC X) w N) := by
  refine ⟨fun a b p r ha hb e => ?_, fun a p ha => ?_⟩
  · have la : a < N := by have := (List.getElem?_eq_some_iff.mp ha).1; simpa [wl] using this
    have lb : b < N := by have := (List.getElem?_eq_some_iff.mp hb).1; simpa [wl] using this
    rw [wl_at la] at ha; rw [wl_at lb] at hb; cases ha; cases hb
    exact hI.1 a b la lb e
  · have la : a < N := by have := (List.getElem?_eq_some_iff.mp ha).1; simpa [wl] using this
    rw [wl_at la] at ha; cases ha
    exact hI.2 a la
theorem ix_in {i : Int} {m : Nat} (hi : jo (0, i)) (h : 0 ≤ i ∧ i < (m : Int)) : vp_in (Int32.ofInt i) m := vp_in_iff.mpr (by rw [i32_toInt hi]; exact h)
theorem ix_nat {i : Int} (hi : jo (0, i)) (h : 0 ≤ i) : (Int32.ofInt i).toNatClampNeg = i.toNat := by
  rw [← Int32.toNat_toInt, i32_toInt hi]
theorem vf_iald (C : Cx X cc own) {c m : Nat} {ps : List Nat} {i r mz : Int} (hs : sh c = some (.inr (0, m, ps))) (hc : c < N) (hr : r = ((c + 1 : Nat) : Int)) (hmz : mz = (m : Int)) (d : decode cc pc = .ok (.iaload, 1)) (kk : VF X Qf ad N k n w (pc + 1) L ((0, w c i.toNat) :: S) g) : VF X Qf ad N k n w pc L ((0, i) :: (2, r) :: S) (if 0 ≤ i ∧ i < mz then g else none) := by
  subst hr
  subst hmz
  intro o ho hw hp hL hS H locs ls hP hV hl hI
  by_cases hin : 0 ≤ i ∧ i < (m : Int)
  · rw [if_pos hin] at ho
    have hi : jo (0, i) := al_h hS
    have hj : jo (0, w c i.toNat) := by
      have := hw c i.toNat
      simpa only [jkA, hs] using this
    have hk2 := kk o ho hw hp hL (al_c hj (al_t (al_t hS))) H locs ls hP hV hl hI
    have he : (wl ad (xC X) w N)[c]? = some (ad c, .inl (xC X 0, jar ad w c 0 m)) := by rw [wl_at hc]; simp only [jcell, hs]
    have e0 : jc ad (2, ((c + 1 : Nat) : Int)) = .ref (ad c) := jc_rf
    simp only [List.map_cons] at hk2 ⊢
    rw [e0]
    rw [← ix_nat hi hin.1] at hk2
    exact va_iald C.1 C.2.1 C.2.2.2.2.1 hP c 0 he (jtys_at (by decide)) (ix_in hi hin) d hk2
  · rw [if_neg hin] at ho; cases ho
theorem vf_lald (C : Cx X cc own) {c m : Nat} {ps : List Nat} {i r mz : Int} (hs : sh c = some (.inr (1, m, ps))) (hc : c < N) (hr : r = ((c + 1 : Nat) : Int)) (hmz : mz = (m : Int)) (d : decode cc pc = .ok (.laload, 1)) (kk : VF X Qf ad N k n w (pc + 1) L ((1, w c i.toNat) :: S) g) : VF X Qf ad N k n w pc L ((0, i) :: (2, r) :: S) (if 0 ≤ i ∧ i < mz then g else none) := by
  subst hr
  subst hmz
  intro o ho hw hp hL hS H locs ls hP hV hl hI
  by_cases hin : 0 ≤ i ∧ i < (m : Int)
  · rw [if_pos hin] at ho
    have hi : jo (0, i) := al_h hS
    have hj : jo (1, w c i.toNat) := by
      have := hw c i.toNat
      simpa only [jkA, hs] using this
    have hk2 := kk o ho hw hp hL (al_c hj (al_t (al_t hS))) H locs ls hP hV hl hI
    have he : (wl ad (xC X) w N)[c]? = some (ad c, .inl (xC X 1, jar ad w c 1 m)) := by rw [wl_at hc]; simp only [jcell, hs]
    have e0 : jc ad (2, ((c + 1 : Nat) : Int)) = .ref (ad c) := jc_rf
    simp only [List.map_cons] at hk2 ⊢
    rw [e0]
    rw [← ix_nat hi hin.1] at hk2
    exact va_lald C.1 C.2.1 C.2.2.2.2.1 hP c 1 he (jtys_at (by decide)) (ix_in hi hin) d hk2
  · rw [if_neg hin] at ho; cases ho
theorem vf_bald (C : Cx X cc own) {c m : Nat} {ps : List Nat} {i r mz : Int} (hs : sh c = some (.inr (3, m, ps))) (hc : c < N) (hr : r = ((c + 1 : Nat) : Int)) (hmz : mz = (m : Int)) (d : decode cc pc = .ok (.baload, 1)) (kk : VF X Qf ad N k n w (pc + 1) L ((0, w c i.toNat) :: S) g) : VF X Qf ad N k n w pc L ((0, i) :: (2, r) :: S) (if 0 ≤ i ∧ i < mz then g else none) := by
  subst hr
  subst hmz
  intro o ho hw hp hL hS H locs ls hP hV hl hI
  by_cases hin : 0 ≤ i ∧ i < (m : Int)
  · rw [if_pos hin] at ho
    have hi : jo (0, i) := al_h hS
    have hj : jo (0, w c i.toNat) := by
      have := hw c i.toNat
      simpa only [jkA, hs] using this
    have hk2 := kk o ho hw hp hL (al_c hj (al_t (al_t hS))) H locs ls hP hV hl hI
    have he : (wl ad (xC X) w N)[c]? = some (ad c, .inl (xC X 3, jar ad w c 3 m)) := by rw [wl_at hc]; simp only [jcell, hs]
    have e0 : jc ad (2, ((c + 1 : Nat) : Int)) = .ref (ad c) := jc_rf
    simp only [List.map_cons] at hk2 ⊢
    rw [e0]
    rw [← ix_nat hi hin.1] at hk2
    exact va_bald C.1 C.2.1 C.2.2.2.2.1 hP c 3 he (jtys_at (by decide)) (ix_in hi hin) d hk2
  · rw [if_neg hin] at ho; cases ho
theorem vf_zald (C : Cx X cc own) {c m : Nat} {ps : List Nat} {i r mz : Int} (hs : sh c = some (.inr (4, m, ps))) (hc : c < N) (hr : r = ((c + 1 : Nat) : Int)) (hmz : mz = (m : Int)) (d : decode cc pc = .ok (.baload, 1)) (kk : VF X Qf ad N k n w (pc + 1) L ((0, w c i.toNat) :: S) g) : VF X Qf ad N k n w pc L ((0, i) :: (2, r) :: S) (if 0 ≤ i ∧ i < mz then g else none) := by
  subst hr
  subst hmz
  intro o ho hw hp hL hS H locs ls hP hV hl hI
  by_cases hin : 0 ≤ i ∧ i < (m : Int)
  · rw [if_pos hin] at ho
    have hi : jo (0, i) := al_h hS
    have hj : jo (0, w c i.toNat) := by
      have := hw c i.toNat
      simpa only [jkA, hs] using this
    have hk2 := kk o ho hw hp hL (al_c hj (al_t (al_t hS))) H locs ls hP hV hl hI
    have he : (wl ad (xC X) w N)[c]? = some (ad c, .inl (xC X 4, jar ad w c 4 m)) := by rw [wl_at hc]; simp only [jcell, hs]
    have e0 : jc ad (2, ((c + 1 : Nat) : Int)) = .ref (ad c) := jc_rf
    simp only [List.map_cons] at hk2 ⊢
    rw [e0]
    rw [← ix_nat hi hin.1] at hk2
    exact va_zald C.1 C.2.1 C.2.2.2.2.1 hP c 4 he (jtys_at (by decide)) (ix_in hi hin) d hk2
  · rw [if_neg hin] at ho; cases ho
theorem vf_cald (C : Cx X cc own) {c m : Nat} {ps : List Nat} {i r mz : Int} (hs : sh c = some (.inr (5, m, ps))) (hc : c < N) (hr : r = ((c + 1 : Nat) : Int)) (hmz : mz = (m : Int)) (d : decode cc pc = .ok (.caload, 1)) (kk : VF X Qf ad N k n w (pc + 1) L ((0, w c i.toNat) :: S) g) : VF X Qf ad N k n w pc L ((0, i) :: (2, r) :: S) (if 0 ≤ i ∧ i < mz then g else none) := by
  subst hr
  subst hmz
  intro o ho hw hp hL hS H locs ls hP hV hl hI
  by_cases hin : 0 ≤ i ∧ i < (m : Int)
  · rw [if_pos hin] at ho
    have hi : jo (0, i) := al_h hS
    have hj : jo (0, w c i.toNat) := by
      have := hw c i.toNat
      simpa only [jkA, hs] using this
    have hk2 := kk o ho hw hp hL (al_c hj (al_t (al_t hS))) H locs ls hP hV hl hI
    have he : (wl ad (xC X) w N)[c]? = some (ad c, .inl (xC X 5, jar ad w c 5 m)) := by rw [wl_at hc]; simp only [jcell, hs]
    have e0 : jc ad (2, ((c + 1 : Nat) : Int)) = .ref (ad c) := jc_rf
    simp only [List.map_cons] at hk2 ⊢
    rw [e0]
    rw [← ix_nat hi hin.1] at hk2
    exact va_cald C.1 C.2.1 C.2.2.2.2.1 hP c 5 he (jtys_at (by decide)) (ix_in hi hin) d hk2
  · rw [if_neg hin] at ho; cases ho
theorem vf_aald (C : Cx X cc own) {c m z : Nat} {ps : List Nat} {i r x : Int} (hs : sh c = some (.inr (2, m, ps))) (hc : c < NF) (hr : r = ((c + 1 : Nat) : Int)) (hi : 0 ≤ i ∧ i < (m : Int)) (hz : ps[i.toNat]? = some z) (hx : x = (z : Int)) (d : decode cc pc = .ok (.aaload, 1)) (kk : VF X Qf ad NF k n w (pc + 1) L ((2, x) :: S) g) : VF X Qf ad NF k n w pc L ((0, i) :: (2, r) :: S) g := by
  subst hr
  subst hx
  intro o ho hw hp hL hS H locs ls hP hV hl hI
  have hi0 : jo (0, i) := al_h hS
  have e : w c i.toNat = (z : Int) := by
    apply hp rfl
    simp only [jpt, hs, hz]
  have hk2 := kk o ho hw hp hL (al_c (show jo (2, (z : Int)) from Int.natCast_nonneg z) (al_t (al_t hS))) H locs ls hP hV hl hI
  have he : (wl ad (xC X) w NF)[c]? = some (ad c, .inl (xC X 2, jar ad w c 2 m)) := by rw [wl_at hc]; simp only [jcell, hs]
  have e0 : jc ad (2, ((c + 1 : Nat) : Int)) = .ref (ad c) := jc_rf
  simp only [List.map_cons] at hk2 ⊢
  rw [e0]
  rw [← e, ← ix_nat hi0 hi.1] at hk2
  exact va_aldq (C := "EachBringsAnother$Kept") C.1 C.2.1 C.2.2.2.2.1 hP c 2 he (jtys_at (by decide)) (ix_in hi0 hi) d hk2
theorem vf_iast (C : Cx X cc own) {c m : Nat} {ps : List Nat} {i v r mz : Int} (hs : sh c = some (.inr (0, m, ps))) (hc : c < N) (hr : r = ((c + 1 : Nat) : Int)) (hmz : mz = (m : Int)) (d : decode cc pc = .ok (.iastore, 1)) (kk : VF X Qf ad N k n (st w c i.toNat v) (pc + 1) L S g) : VF X Qf ad N k n w pc L ((0, v) :: (0, i) :: (2, r) :: S) (if 0 ≤ i ∧ i < mz then g else none) := by
  subst hr
  subst hmz
  intro o ho hw hp hL hS H locs ls hP hV hl hI
  by_cases hin : 0 ≤ i ∧ i < (m : Int)
  · rw [if_pos hin] at ho
    have hi : jo (0, i) := al_h (al_t hS)
    have hv : jo (0, v) := al_h hS
    have hw' : wok (st w c i.toNat v) := st_wok hw (by simp only [jkA, hs]; exact hv)
    have hpt : jpt c i.toNat = none := by simp only [jpt, hs]
    have hk2 := fun H1 locs1 P V => kk o ho hw' (fun e => st_wpt (hp e) hpt) hL (al_t (al_t (al_t hS))) H1 locs1 ls P V hl hI
    have he : (wl ad (xC X) w N)[c]? = some (ad c, .inl (xC X 0, jar ad w c 0 m)) := by rw [wl_at hc]; simp only [jcell, hs]
    have e0 : jc ad (2, ((c + 1 : Nat) : Int)) = .ref (ad c) := jc_rf
    simp only [List.map_cons] at hk2 ⊢
    rw [e0]
    refine va_iast C.1 C.2.1 C.2.2.2.2.1 hP (wl_D hI) hV c 0 he (jtys_at (by decide)) (ix_in hi hin) d fun H1 locs1 P1 _ V1 => hk2 H1 locs1 ?_ V1
    rw [← wl_set hc (fun c' h => by funext k'; exact st_c h) ?_]
    · exact P1
    · simp only [jcell, hs, jar]
      congr 1; congr 1; congr 1; congr 1
      funext q
      rw [ix_nat hi hin.1]
      by_cases hq : q = i.toNat
      · subst hq
        simp [upd, st_eq]
      · simp [upd, hq, st_k hq]
  · rw [if_neg hin] at ho; cases ho
theorem vf_last (C : Cx X cc own) {c m : Nat} {ps : List Nat} {i v r mz : Int} (hs : sh c = some (.inr (1, m, ps))) (hc : c < N) (hr : r = ((c + 1 : Nat) : Int)) (hmz : mz = (m : Int)) (d : decode cc pc = .ok (.lastore, 1)) (kk : VF X Qf ad N k n (st w c i.toNat v) (pc + 1) L S g) : VF X Qf ad N k n w pc L ((1, v) :: (0, i) :: (2, r) :: S) (if 0 ≤ i ∧ i < mz then g else none) := by
  subst hr
  subst hmz
  intro o ho hw hp hL hS H locs ls hP hV hl hI
  by_cases hin : 0 ≤ i ∧ i < (m : Int)
  · rw [if_pos hin] at ho
    have hi : jo (0, i) := al_h (al_t hS)
    have hv : jo (1, v) := al_h hS
    have hw' : wok (st w c i.toNat v) := st_wok hw (by simp only [jkA, hs]; exact hv)
    have hpt : jpt c i.toNat = none := by simp only [jpt, hs]
    have hk2 := fun H1 locs1 P V => kk o ho hw' (fun e => st_wpt (hp e) hpt) hL (al_t (al_t (al_t hS))) H1 locs1 ls P V hl hI
    have he : (wl ad (xC X) w N)[c]? = some (ad c, .inl (xC X 1, jar ad w c 1 m)) := by rw [wl_at hc]; simp only [jcell, hs]
    have e0 : jc ad (2, ((c + 1 : Nat) : Int)) = .ref (ad c) := jc_rf
    simp only [List.map_cons] at hk2 ⊢
    rw [e0]
    refine va_last C.1 C.2.1 C.2.2.2.2.1 hP (wl_D hI) hV c 1 he (jtys_at (by decide)) (ix_in hi hin) d fun H1 locs1 P1 _ V1 => hk2 H1 locs1 ?_ V1
    rw [← wl_set hc (fun c' h => by funext k'; exact st_c h) ?_]
    · exact P1
    · simp only [jcell, hs, jar]
      congr 1; congr 1; congr 1; congr 1; congr 1
      funext q
      rw [ix_nat hi hin.1]
      by_cases hq : q = i.toNat
      · subst hq
        simp [vp_updL, st_eq]
      · simp [vp_updL, hq, st_k hq]
  · rw [if_neg hin] at ho; cases ho
theorem vf_bast (C : Cx X cc own) {c m : Nat} {ps : List Nat} {i v r mz : Int} (hs : sh c = some (.inr (3, m, ps))) (hc : c < N) (hr : r = ((c + 1 : Nat) : Int)) (hmz : mz = (m : Int)) (d : decode cc pc = .ok (.bastore, 1)) (kk : VF X Qf ad N k n (st w c i.toNat (nb v)) (pc + 1) L S g) : VF X Qf ad N k n w pc L ((0, v) :: (0, i) :: (2, r) :: S) (if 0 ≤ i ∧ i < mz then g else none) := by
  subst hr
  subst hmz
  intro o ho hw hp hL hS H locs ls hP hV hl hI
  by_cases hin : 0 ≤ i ∧ i < (m : Int)
  · rw [if_pos hin] at ho
    have hi : jo (0, i) := al_h (al_t hS)
    have hv : jo (0, v) := al_h hS
    have hw' : wok (st w c i.toNat (nb v)) := st_wok hw (by simp only [jkA, hs]; exact jo_i _)
    have hpt : jpt c i.toNat = none := by simp only [jpt, hs]
    have hk2 := fun H1 locs1 P V => kk o ho hw' (fun e => st_wpt (hp e) hpt) hL (al_t (al_t (al_t hS))) H1 locs1 ls P V hl hI
    have he : (wl ad (xC X) w N)[c]? = some (ad c, .inl (xC X 3, jar ad w c 3 m)) := by rw [wl_at hc]; simp only [jcell, hs]
    have e0 : jc ad (2, ((c + 1 : Nat) : Int)) = .ref (ad c) := jc_rf
    simp only [List.map_cons] at hk2 ⊢
    rw [e0]
    refine va_bast C.1 C.2.1 C.2.2.2.2.1 hP (wl_D hI) hV c 3 he (jtys_at (by decide)) (ix_in hi hin) d fun H1 locs1 P1 _ V1 => hk2 H1 locs1 ?_ V1
    rw [← wl_set hc (fun c' h => by funext k'; exact st_c h) ?_]
    · exact P1
    · simp only [jcell, hs, jar]
      congr 1; congr 1; congr 1; congr 1
      funext q
      rw [ix_nat hi hin.1]
      by_cases hq : q = i.toNat
      · subst hq
        simp [upd, st_eq, nb, Int32.ofInt_toInt]
      · simp [upd, hq, st_k hq]
  · rw [if_neg hin] at ho; cases ho
theorem vf_zast (C : Cx X cc own) {c m : Nat} {ps : List Nat} {i v r mz : Int} (hs : sh c = some (.inr (4, m, ps))) (hc : c < N) (hr : r = ((c + 1 : Nat) : Int)) (hmz : mz = (m : Int)) (d : decode cc pc = .ok (.bastore, 1)) (kk : VF X Qf ad N k n (st w c i.toNat (nz v)) (pc + 1) L S g) : VF X Qf ad N k n w pc L ((0, v) :: (0, i) :: (2, r) :: S) (if 0 ≤ i ∧ i < mz then g else none) := by
  subst hr
  subst hmz
  intro o ho hw hp hL hS H locs ls hP hV hl hI
  by_cases hin : 0 ≤ i ∧ i < (m : Int)
  · rw [if_pos hin] at ho
    have hi : jo (0, i) := al_h (al_t hS)
    have hv : jo (0, v) := al_h hS
    have hw' : wok (st w c i.toNat (nz v)) := st_wok hw (by simp only [jkA, hs]; exact jo_i _)
    have hpt : jpt c i.toNat = none := by simp only [jpt, hs]
    have hk2 := fun H1 locs1 P V => kk o ho hw' (fun e => st_wpt (hp e) hpt) hL (al_t (al_t (al_t hS))) H1 locs1 ls P V hl hI
    have he : (wl ad (xC X) w N)[c]? = some (ad c, .inl (xC X 4, jar ad w c 4 m)) := by rw [wl_at hc]; simp only [jcell, hs]
    have e0 : jc ad (2, ((c + 1 : Nat) : Int)) = .ref (ad c) := jc_rf
    simp only [List.map_cons] at hk2 ⊢
    rw [e0]
    refine va_zast C.1 C.2.1 C.2.2.2.2.1 hP (wl_D hI) hV c 4 he (jtys_at (by decide)) (ix_in hi hin) d fun H1 locs1 P1 _ V1 => hk2 H1 locs1 ?_ V1
    rw [← wl_set hc (fun c' h => by funext k'; exact st_c h) ?_]
    · exact P1
    · simp only [jcell, hs, jar]
      congr 1; congr 1; congr 1; congr 1
      funext q
      rw [ix_nat hi hin.1]
      by_cases hq : q = i.toNat
      · subst hq
        simp [upd, st_eq, nz, Int32.ofInt_toInt]
      · simp [upd, hq, st_k hq]
  · rw [if_neg hin] at ho; cases ho
theorem vf_cast (C : Cx X cc own) {c m : Nat} {ps : List Nat} {i v r mz : Int} (hs : sh c = some (.inr (5, m, ps))) (hc : c < N) (hr : r = ((c + 1 : Nat) : Int)) (hmz : mz = (m : Int)) (d : decode cc pc = .ok (.castore, 1)) (kk : VF X Qf ad N k n (st w c i.toNat (nc v)) (pc + 1) L S g) : VF X Qf ad N k n w pc L ((0, v) :: (0, i) :: (2, r) :: S) (if 0 ≤ i ∧ i < mz then g else none) := by
  subst hr
  subst hmz
  intro o ho hw hp hL hS H locs ls hP hV hl hI
  by_cases hin : 0 ≤ i ∧ i < (m : Int)
  · rw [if_pos hin] at ho
    have hi : jo (0, i) := al_h (al_t hS)
    have hv : jo (0, v) := al_h hS
    have hw' : wok (st w c i.toNat (nc v)) := st_wok hw (by simp only [jkA, hs]; exact jo_i _)
    have hpt : jpt c i.toNat = none := by simp only [jpt, hs]
    have hk2 := fun H1 locs1 P V => kk o ho hw' (fun e => st_wpt (hp e) hpt) hL (al_t (al_t (al_t hS))) H1 locs1 ls P V hl hI
    have he : (wl ad (xC X) w N)[c]? = some (ad c, .inl (xC X 5, jar ad w c 5 m)) := by rw [wl_at hc]; simp only [jcell, hs]
    have e0 : jc ad (2, ((c + 1 : Nat) : Int)) = .ref (ad c) := jc_rf
    simp only [List.map_cons] at hk2 ⊢
    rw [e0]
    refine va_cast C.1 C.2.1 C.2.2.2.2.1 hP (wl_D hI) hV c 5 he (jtys_at (by decide)) (ix_in hi hin) d fun H1 locs1 P1 _ V1 => hk2 H1 locs1 ?_ V1
    rw [← wl_set hc (fun c' h => by funext k'; exact st_c h) ?_]
    · exact P1
    · simp only [jcell, hs, jar]
      congr 1; congr 1; congr 1; congr 1
      funext q
      rw [ix_nat hi hin.1]
      by_cases hq : q = i.toNat
      · subst hq
        simp [upd, st_eq, nc, Int32.ofInt_toInt]
      · simp [upd, hq, st_k hq]
  · rw [if_neg hin] at ho; cases ho
theorem vf_alen (C : Cx X cc own) {c m ak : Nat} {ps : List Nat} {r x : Int} (hs : sh c = some (.inr (ak, m, ps))) (hak : ak < 6) (hc : c < N) (hr : r = ((c + 1 : Nat) : Int)) (hx : x = (m : Int)) (hm : jo (0, x)) (d : decode cc pc = .ok (.arraylength, 1)) (kk : VF X Qf ad N k n w (pc + 1) L ((0, x) :: S) g) : VF X Qf ad N k n w pc L ((2, r) :: S) g := by
  subst hr
  subst hx
  intro o ho hw hp hL hS H locs ls hP hV hl hI
  have hk2 := kk o ho hw hp hL (al_c hm (al_t hS)) H locs ls hP hV hl hI
  have he : (wl ad (xC X) w N)[c]? = some (ad c, .inl (xC X ak, jar ad w c ak m)) := by rw [wl_at hc]; simp only [jcell, hs]
  have e0 : jc ad (2, ((c + 1 : Nat) : Int)) = .ref (ad c) := jc_rf
  simp only [List.map_cons] at hk2 ⊢
  rw [e0]
  exact va_alen C.1 C.2.1 C.2.2.2.2.1 hP c ak he (jtys_at hak) (v := Int32.ofInt (m : Int)) (by rw [Int32.ofInt_eq_ofNat]; rfl) d hk2
-- naming, guards, switches
def jlet {α : Type} (x : Int) (f : Int → α) : α := f x
def jlw {α : Type} (w : Wd) (f : Wd → α) : α := f w
def jcall (x : Option (Int × Wd)) (f : Int → Wd → Option (Int × Wd)) : Option (Int × Wd) := match x with
  | none => none
  | some (r, w) => f r w
theorem vf_no {S : List jv} : VF X Qf ad N k n w pc L S none := fun o ho => by cases ho
theorem vf_perm {L' : List (Nat × jv)} (ps : List Nat) (h : L' = ps.filterMap (fun j => L[j]?)) (kk : VF X Qf ad N k n w pc L' S g) : VF X Qf ad N k n w pc L S g := by
  intro o ho hw hp hL hS H locs ls hP hV hl hI
  have hm : ∀ q ∈ L', q ∈ L := fun q hq => by
    rw [h] at hq
    obtain ⟨j, -, hj⟩ := List.mem_filterMap.mp hq
    exact List.mem_of_getElem? hj
  exact kk o ho hw hp (fun q hq => hL q (hm q hq)) hS H locs ls hP hV (lv_sup hl (fun q hq => by
    obtain ⟨r, hr, rfl⟩ := List.mem_map.mp hq
    exact List.mem_map.mpr ⟨r, hm r hr, rfl⟩)) hI
theorem vf_if {c : Prop} (dc : Decidable c) {g1 g2 : Option (Int × Wd)} (h1 : c → VF X Qf ad N k n w pc L S g1) (h2 : ¬ c → VF X Qf ad N k n w pc L S g2) : VF X Qf ad N k n w pc L S (@ite _ c dc g1 g2) := by
  by_cases h : c
  · rw [if_pos h]; exact h1 h
  · rw [if_neg h]; exact h2 h
theorem vf_sw (C : Cx X cc own) {dflt lo hi : Int} {offs : Array Int} {len : Nat} {x : Int} {off : Int} {tgt : Nat} (d : decode cc pc = .ok (.tableswitch dflt lo hi offs, len)) (h1 : ¬ x < lo) (h2 : ¬ hi < x) (ho1 : offs[(x - lo).toNat]? = some off) (ht : (pc : Int) + off = (tgt : Int)) (kk : VF X Qf ad N k n w tgt L S g) : VF X Qf ad N k n w pc L ((0, x) :: S) g := by
  intro o ho hw hp hL hS H locs ls hP hV hl hI
  have hx : (Int32.ofInt x).toInt = x := i32_toInt (al_h hS)
  exact lv_tableIn C.1 C.2.1 d (by rw [hx]; exact h1) (by rw [hx]; exact h2) (by rw [hx]; exact ho1) ht (kk o ho hw hp hL (al_t hS) H locs ls hP hV hl hI)
theorem vf_swd (C : Cx X cc own) {dflt lo hi : Int} {offs : Array Int} {len : Nat} {x : Int} {tgt : Nat} (d : decode cc pc = .ok (.tableswitch dflt lo hi offs, len)) (h : x < lo ∨ hi < x) (ht : (pc : Int) + dflt = (tgt : Int)) (kk : VF X Qf ad N k n w tgt L S g) : VF X Qf ad N k n w pc L ((0, x) :: S) g := by
  intro o ho hw hp hL hS H locs ls hP hV hl hI
  have hx : (Int32.ofInt x).toInt = x := i32_toInt (al_h hS)
  exact lv_tableOut C.1 C.2.1 d (by rw [hx]; exact h) ht (kk o ho hw hp hL (al_t hS) H locs ls hP hV hl hI)
theorem vf_lsw (C : Cx X cc own) {dflt : Int} {ps : Array (Int × Int)} {len : Nat} {x : Int} {off : Int} {tgt : Nat} (d : decode cc pc = .ok (.lookupswitch dflt ps, len)) (hp1 : (ps.toList.zip (ps.toList.drop 1)).all (fun (a, next) => a.1 < next.1) = true) (ho1 : Op.lookupswitch.offset ps.toList dflt x = off) (ht : (pc : Int) + off = (tgt : Int)) (kk : VF X Qf ad N k n w tgt L S g) : VF X Qf ad N k n w pc L ((0, x) :: S) g := by
  intro o ho hw hp hL hS H locs ls hP hV hl hI
  have hx : (Int32.ofInt x).toInt = x := i32_toInt (al_h hS)
  exact lv_lookup C.1 C.2.1 d hp1 (by rw [hx]; exact ho1) ht (kk o ho hw hp hL (al_t hS) H locs ls hP hV hl hI)
end
