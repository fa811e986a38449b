theorem mth_ini : Cond.initialized "java/lang/Math" ∈ gw_tbl := mem_g 104 (by decide +kernel) (by decide +kernel)
theorem mmn_st : Cond.static Lib.Math.min.name ∈ gw_tbl := mem_g 638 (by decide +kernel) (by decide +kernel)
theorem mmn_co : Cond.code Lib.Math.min.name Lib.Math.min.code 2 (some .int) ∈ gw_tbl := mem_g 639 (by decide +kernel) (by decide +kernel)
theorem mmx_st : Cond.static Lib.Math.max.name ∈ gw_tbl := mem_g 641 (by decide +kernel) (by decide +kernel)
theorem mmx_co : Cond.code Lib.Math.max.name Lib.Math.max.code 2 (some .int) ∈ gw_tbl := mem_g 642 (by decide +kernel) (by decide +kernel)
theorem acp_nat : Cond.native arraycopyName ∈ gw_tbl := mem_g 596 (by decide +kernel) (by decide +kernel)
theorem acp_st : Cond.static arraycopyName ∈ gw_tbl := mem_g 595 (by decide +kernel) (by decide +kernel)
theorem acp_ini : Cond.initialized "java/lang/System" ∈ gw_tbl := mem_g 97 (by decide +kernel) (by decide +kernel)
section
variable {X : jX} {cc cy : ByteArray} {own : String} {Qf : Int × Wd → State → Prop} {ad : Nat → Nat} {N k n pc idx mL dep na : Nat} {w : Wd} {L : List (Nat × jv)} {S S0 avs : List jv} {y : MethodName} {rt : Option FieldType} {g : Option (Int × Wd)}
abbrev jgd {α : Type} (c : Prop) [Decidable c] (x : Option α) : Option α := if c then x else none
theorem jrI {L : List (Nat × jv)} {i kd : Nat} {ps : List Nat} {L' : List (Nat × jv)} (h1 : L' = ps.filterMap (fun j => L[j]?)) (h2 : L'.all (fun q => !(q.1 == i) && !(q.1 + 1 == i && q.2.1 == 1) && !(kd == 1 && q.1 == i + 1)) = true) : jrest L i kd ps L' := ⟨h1, h2⟩
theorem jrm_o {X : jX} {d dep mL : Nat} (h : xR X = rmD d) (hd : dep + 1 ≤ d) (hm : mL ≤ 41) : jrm X dep mL 0 0 := by
  unfold jrm
  rw [h]
  simp only [rmD]
  omega
theorem vf_ul {x : Int} {f : Int → Option (Int × Wd)} (h : VF X Qf ad N k n w pc L S (f x)) : VF X Qf ad N k n w pc L S (jlet x f) := h
theorem vf_uw {x : Wd} {f : Wd → Option (Int × Wd)} (h : VF X Qf ad N k n w pc L S (f x)) : VF X Qf ad N k n w pc L S (jlw x f) := h
theorem vf_gd {c : Prop} (dc : Decidable c) (h1 : c → VF X Qf ad N k n w pc L S g) : VF X Qf ad N k n w pc L S (@ite _ c dc g none) := vf_if dc h1 (fun _ => vf_no)
theorem vf_putzl (C : Cx X cc own) {idx c ci z0 : Nat} {fs : List (Nat × Nat)} {i : Nat} {z r : Int} (hf : FL own idx ci i) (hfk : FK ci i 4) (hs : sh c = some (.inl (ci, fs))) (hk : fs[i]? = some (4, z0)) (hc : c < N) (hr : r = ((c + 1 : Nat) : Int)) (hz : z = 0 ∨ z = 1) (d : decode cc pc = .ok (.putfield idx, 3)) (kk : VF X Qf ad N k n (st w c i z) (pc + 3) L S g) : VF X Qf ad N k n w pc L ((0, z) :: (2, r) :: S) g := by
  subst hr
  exact vf_putq C hf hfk hs hk hc (by decide) (fun _ => hz) d kk
theorem vf_swx (C : Cx X cc own) {dflt lo hi z : Int} {offs : Array Int} {len : Nat} {x : Int} {off : Int} {tgt : Nat} (d : decode cc pc = .ok (.tableswitch dflt lo hi offs, len)) (hx : x = z) (h1 : ¬ z < lo) (h2 : ¬ hi < z) (ho1 : offs[(z - lo).toNat]? = some off) (ht : (pc : Int) + off = (tgt : Int)) (kk : VF X Qf ad N k n w tgt L S g) : VF X Qf ad N k n w pc L ((0, x) :: S) g := by
  subst hx
  exact vf_sw C d h1 h2 ho1 ht kk
theorem vf_callSi (C : Cx X cc own) (hy : CY y cy mL rt na true) (hl : ML own idx y) {F : Int → Wd → Option (Int × Wd)} (hct : Ct y cy mL rt dep 0 avs w g) (hR : jrm X dep mL k n) (hn : avs.length = na) (hst : S0 = avs.reverse ++ S) (hS8 : jwords S ≤ 8) (d : decode cc pc = .ok (.invokestatic idx, 3))
    (kk : ∀ r w', VF X Qf ad NF k n w' (pc + 3) L ((0, r) :: S) (F r w')) : VF X Qf ad NF k n w pc L S0 (jcall g F) := vf_callS C hy hl hct hR hn hst hS8 d kk
theorem vf_callVi (C : Cx X cc own) (hy : CY y cy mL rt na false) (hl : ML own idx y) {F : Int → Wd → Option (Int × Wd)} {c ci : Nat} {r0 : Int} {fs : List (Nat × Nat)} {T : u_T} {fn : Nat} (hr : r0 = ((c + 1 : Nat) : Int)) (hct : Ct y cy mL rt dep 0 ((2, r0) :: avs) w g) (hs : sh c = some (.inl (ci, fs))) (hc : c < NF) (hcl : cl[ci]? = some (y.cls, T, fn)) (hR : jrm X dep mL k n) (hn : avs.length = na) (hst : S0 = avs.reverse ++ (2, r0) :: S) (hS8 : jwords S ≤ 8) (d : decode cc pc = .ok (.invokevirtual idx, 3))
    (kk : ∀ r w', VF X Qf ad NF k n w' (pc + 3) L ((0, r) :: S) (F r w')) : VF X Qf ad NF k n w pc L S0 (jcall g F) := vf_callV C hy hl hr hct hs hc hcl hR hn hst hS8 d kk
theorem vf_callSz (C : Cx X cc own) (hy : CY y cy mL rt na true) (hl : ML own idx y) {F : Int → Wd → Option (Int × Wd)} (hct : Ct y cy mL rt dep 4 avs w g) (hR : jrm X dep mL k n) (hn : avs.length = na) (hst : S0 = avs.reverse ++ S) (hS8 : jwords S ≤ 8) (d : decode cc pc = .ok (.invokestatic idx, 3))
    (kk : ∀ r w', VF X Qf ad NF k n w' (pc + 3) L ((0, r) :: S) (F r w')) : VF X Qf ad NF k n w pc L S0 (jcall g F) := vf_callS C hy hl hct hR hn hst hS8 d kk
theorem vf_callVz (C : Cx X cc own) (hy : CY y cy mL rt na false) (hl : ML own idx y) {F : Int → Wd → Option (Int × Wd)} {c ci : Nat} {r0 : Int} {fs : List (Nat × Nat)} {T : u_T} {fn : Nat} (hr : r0 = ((c + 1 : Nat) : Int)) (hct : Ct y cy mL rt dep 4 ((2, r0) :: avs) w g) (hs : sh c = some (.inl (ci, fs))) (hc : c < NF) (hcl : cl[ci]? = some (y.cls, T, fn)) (hR : jrm X dep mL k n) (hn : avs.length = na) (hst : S0 = avs.reverse ++ (2, r0) :: S) (hS8 : jwords S ≤ 8) (d : decode cc pc = .ok (.invokevirtual idx, 3))
    (kk : ∀ r w', VF X Qf ad NF k n w' (pc + 3) L ((0, r) :: S) (F r w')) : VF X Qf ad NF k n w pc L S0 (jcall g F) := vf_callV C hy hl hr hct hs hc hcl hR hn hst hS8 d kk
theorem vf_callSl (C : Cx X cc own) (hy : CY y cy mL rt na true) (hl : ML own idx y) {F : Int → Wd → Option (Int × Wd)} (hct : Ct y cy mL rt dep 1 avs w g) (hR : jrm X dep mL k n) (hn : avs.length = na) (hst : S0 = avs.reverse ++ S) (hS8 : jwords S ≤ 8) (d : decode cc pc = .ok (.invokestatic idx, 3))
    (kk : ∀ r w', VF X Qf ad NF k n w' (pc + 3) L ((1, r) :: S) (F r w')) : VF X Qf ad NF k n w pc L S0 (jcall g F) := vf_callS C hy hl hct hR hn hst hS8 d kk
theorem vf_callVl (C : Cx X cc own) (hy : CY y cy mL rt na false) (hl : ML own idx y) {F : Int → Wd → Option (Int × Wd)} {c ci : Nat} {r0 : Int} {fs : List (Nat × Nat)} {T : u_T} {fn : Nat} (hr : r0 = ((c + 1 : Nat) : Int)) (hct : Ct y cy mL rt dep 1 ((2, r0) :: avs) w g) (hs : sh c = some (.inl (ci, fs))) (hc : c < NF) (hcl : cl[ci]? = some (y.cls, T, fn)) (hR : jrm X dep mL k n) (hn : avs.length = na) (hst : S0 = avs.reverse ++ (2, r0) :: S) (hS8 : jwords S ≤ 8) (d : decode cc pc = .ok (.invokevirtual idx, 3))
    (kk : ∀ r w', VF X Qf ad NF k n w' (pc + 3) L ((1, r) :: S) (F r w')) : VF X Qf ad NF k n w pc L S0 (jcall g F) := vf_callV C hy hl hr hct hs hc hcl hR hn hst hS8 d kk
theorem vf_callSv (C : Cx X cc own) (hy : CY y cy mL rt na true) (hl : ML own idx y) {F : Int → Wd → Option (Int × Wd)} (hct : Ct y cy mL rt dep 9 avs w g) (hR : jrm X dep mL k n) (hn : avs.length = na) (hst : S0 = avs.reverse ++ S) (hS8 : jwords S ≤ 8) (d : decode cc pc = .ok (.invokestatic idx, 3))
    (kk : ∀ r w', VF X Qf ad NF k n w' (pc + 3) L S (F r w')) : VF X Qf ad NF k n w pc L S0 (jcall g F) := vf_callS C hy hl hct hR hn hst hS8 d kk
theorem vf_callVv (C : Cx X cc own) (hy : CY y cy mL rt na false) (hl : ML own idx y) {F : Int → Wd → Option (Int × Wd)} {c ci : Nat} {r0 : Int} {fs : List (Nat × Nat)} {T : u_T} {fn : Nat} (hr : r0 = ((c + 1 : Nat) : Int)) (hct : Ct y cy mL rt dep 9 ((2, r0) :: avs) w g) (hs : sh c = some (.inl (ci, fs))) (hc : c < NF) (hcl : cl[ci]? = some (y.cls, T, fn)) (hR : jrm X dep mL k n) (hn : avs.length = na) (hst : S0 = avs.reverse ++ (2, r0) :: S) (hS8 : jwords S ≤ 8) (d : decode cc pc = .ok (.invokevirtual idx, 3))
    (kk : ∀ r w', VF X Qf ad NF k n w' (pc + 3) L S (F r w')) : VF X Qf ad NF k n w pc L S0 (jcall g F) := vf_callV C hy hl hr hct hs hc hcl hR hn hst hS8 d kk
def cpy (w : Wd) (src dst : Nat) (sp dp n : Int) : Wd := fun c k => if c = dst ∧ dp.toNat ≤ k ∧ k < dp.toNat + n.toNat then w src (sp.toNat + (k - dp.toNat)) else w c k
theorem jrm_n {X : jX} {d : Nat} (h : xR X = rmD d) (hd : 1 ≤ d) : 1 ≤ (xR X).frames ∧ 60 ≤ (xR X).locals := by
  rw [h]; simp only [rmD]; omega
theorem vf_copy (C : Cx X cc own) {c0 c1 m0 m1 : Nat} {ps0 ps1 : List Nat} {sp dp cn r0 r1 z0 z1 : Int} (hm : Cond.methodLink own idx arraycopyName ∈ gw_tbl) (hs0 : sh c0 = some (.inr (0, m0, ps0))) (hs1 : sh c1 = some (.inr (0, m1, ps1))) (h0 : c0 < N) (h1 : c1 < N) (hne : c0 ≠ c1) (hr0 : r0 = ((c0 + 1 : Nat) : Int)) (hr1 : r1 = ((c1 + 1 : Nat) : Int)) (hz0 : z0 = (m0 : Int)) (hz1 : z1 = (m1 : Int)) (hR : 1 ≤ (xR X).frames ∧ 60 ≤ (xR X).locals) (hS8 : jwords S ≤ 8) (d : decode cc pc = .ok (.invokestatic idx, 3))
    (kk : VF X Qf ad N k n (cpy w c0 c1 sp dp cn) (pc + 3) L S g) : VF X Qf ad N k n w pc L ((0, cn) :: (0, dp) :: (2, r1) :: (0, sp) :: (2, r0) :: S) (if 0 ≤ sp ∧ 0 ≤ dp ∧ 0 ≤ cn ∧ sp + cn ≤ z0 ∧ dp + cn ≤ z1 then g else none) := by
  subst hr0; subst hr1; subst hz0; subst hz1
  intro o ho hw hp hL hS H locs ls hP hV hl hI
  by_cases hin : 0 ≤ sp ∧ 0 ≤ dp ∧ 0 ≤ cn ∧ sp + cn ≤ (m0 : Int) ∧ dp + cn ≤ (m1 : Int)
  · rw [if_pos hin] at ho
    have jn : jo (0, cn) := al_h hS
    have jd : jo (0, dp) := al_h (al_t hS)
    have js : jo (0, sp) := al_h (al_t (al_t (al_t hS)))
    have en := ix_nat jn hin.2.2.1
    have ed := ix_nat jd hin.2.1
    have es := ix_nat js hin.1
    have hw' : wok (cpy w c0 c1 sp dp cn) := by
      intro c' k'
      unfold cpy
      by_cases h : c' = c1 ∧ dp.toNat ≤ k' ∧ k' < dp.toNat + cn.toNat
      · rw [if_pos h]
        have h2 := hw c0 (sp.toNat + (k' - dp.toNat))
        obtain ⟨rfl, -⟩ := h
        simp only [jkA, hs0] at h2
        simp only [jkA, hs1]
        exact h2
      · rw [if_neg h]; exact hw c' k'
    have hp' : wpt w → wpt (cpy w c0 c1 sp dp cn) := by
      intro hq c' k' z hz
      unfold cpy
      by_cases h : c' = c1 ∧ dp.toNat ≤ k' ∧ k' < dp.toNat + cn.toNat
      · obtain ⟨rfl, -⟩ := h
        simp only [jpt, hs1] at hz
        cases hz
      · rw [if_neg h]; exact hq c' k' z hz
    have hk2 := fun H1 locs1 P V => kk o ho hw' (fun e => hp' (hp e)) hL (al_t (al_t (al_t (al_t (al_t hS))))) H1 locs1 ls P V hl hI
    have he0 : (wl ad (xC X) w N)[c0]? = some (ad c0, .inl (xC X 0, jar ad w c0 0 m0)) := by rw [wl_at h0]; simp only [jcell, hs0]
    have he1 : (wl ad (xC X) w N)[c1]? = some (ad c1, .inl (xC X 0, jar ad w c1 0 m1)) := by rw [wl_at h1]; simp only [jcell, hs1]
    have e0 : jc ad (2, ((c0 + 1 : Nat) : Int)) = .ref (ad c0) := jc_rf
    have e1 : jc ad (2, ((c1 + 1 : Nat) : Int)) = .ref (ad c1) := jc_rf
    have ht := C.2.2.2.1
    have nn : ∀ z : Int, jo (0, z) → 0 ≤ z → ¬ Int32.ofInt z < 0 := fun z hz h0 q => by
      have := (i32_lt hz jo00).mp q
      omega
    simp only [List.map_cons] at hk2 ⊢
    rw [e0, e1]
    have hwr := jwords_room ad hS8
    have h60 : nativeFrameWords "java/lang/System" "arraycopy" 5 + 11 ≤ 50 := by decide +kernel
    have hroom : ((S.map (jc ad)).map fun v => v.category).sum + (nativeFrameWords "java/lang/System" "arraycopy" 5 + 11) ≤ (xR X).locals := by
      have := hR.2
      omega
    refine va_copyi C.1 C.2.1 (by rw [C.2.2.2.2.2.1]; exact hl.1.symm) C.2.2.1 (ht _ hm) (ht _ acp_nat) (ht _ acp_st) (ht _ acp_ini) C.2.2.2.2.1 hP (wl_D hI) hV c0 c1 0 0 he0 he1 (jtys_at (by decide)) (jtys_at (by decide)) rfl (nn _ js hin.1) (nn _ jd hin.2.1) (nn _ jn hin.2.2.1) (by rw [es, en]; omega) (by rw [ed, en]; omega) (fun i _ => rfl) hR.1 hroom d fun H1 locs1 P1 _ V1 => hk2 H1 locs1 ?_ V1
    rw [← wl_set h1 (w' := cpy w c0 c1 sp dp cn) (fun c' h => by funext k'; unfold cpy; rw [if_neg (fun q => h q.1)]) ?_]
    · exact P1
    · simp only [jcell, hs1, jar]
      congr 1; congr 1; congr 1; congr 1
      funext q
      rw [es, ed, en]
      unfold va_cpy cpy
      by_cases hq : dp.toNat ≤ q ∧ q < dp.toNat + cn.toNat
      · rw [if_pos hq, if_pos ⟨rfl, hq⟩]
      · rw [if_neg hq, if_neg (fun h => hq h.2)]
  · rw [if_neg hin] at ho; cases ho
def imax (x y : Int) : Int := if x < y then y else x
def imin (x y : Int) : Int := if y < x then y else x
theorem vf_mmax (C : Cx X cc own) {x y : Int} (hm : Cond.methodLink own idx Lib.Math.max.name ∈ gw_tbl) (hR : 1 ≤ (xR X).frames ∧ 60 ≤ (xR X).locals) (hk : k ≤ (xR X).cells ∧ n ≤ (xR X).slots) (hS8 : jwords S ≤ 8) (d : decode cc pc = .ok (.invokestatic idx, 3)) (kk : VF X Qf ad N k n w (pc + 3) L ((0, imax x y) :: S) g) : VF X Qf ad N k n w pc L ((0, y) :: (0, x) :: S) g := by
  intro o ho hw hp hL hS H locs ls hP hV hl hI
  have hy : jo (0, y) := al_h hS
  have hx : jo (0, x) := al_h (al_t hS)
  have e : (if Int32.ofInt x < Int32.ofInt y then Int32.ofInt y else Int32.ofInt x) = Int32.ofInt (imax x y) := by
    unfold imax
    by_cases h : x < y
    · rw [if_pos ((i32_lt hx hy).mpr h), if_pos h]
    · rw [if_neg (fun q => h ((i32_lt hx hy).mp q)), if_neg h]
  have hj : jo (0, imax x y) := by unfold imax; split <;> assumption
  have hk2 := kk o ho hw hp hL (al_c hj (al_t (al_t hS))) H locs ls hP hV hl hI
  have ht := C.2.2.2.1
  have hwr := jwords_room ad hS8
  simp only [List.map_cons, jc] at hk2 ⊢
  rw [← e] at hk2
  exact va_mmax C.1 C.2.1 (by rw [C.2.2.2.2.2.1]; exact hl.1.symm) C.2.2.1 (ht _ hm) (ht _ mmx_st) (ht _ mth_ini) (ht _ mmx_co) hR.1 (by have := hR.2; omega) hk.1 hk.2 d hk2
theorem vf_mmin (C : Cx X cc own) {x y : Int} (hm : Cond.methodLink own idx Lib.Math.min.name ∈ gw_tbl) (hR : 1 ≤ (xR X).frames ∧ 60 ≤ (xR X).locals) (hk : k ≤ (xR X).cells ∧ n ≤ (xR X).slots) (hS8 : jwords S ≤ 8) (d : decode cc pc = .ok (.invokestatic idx, 3)) (kk : VF X Qf ad N k n w (pc + 3) L ((0, imin x y) :: S) g) : VF X Qf ad N k n w pc L ((0, y) :: (0, x) :: S) g := by
  intro o ho hw hp hL hS H locs ls hP hV hl hI
  have hy : jo (0, y) := al_h hS
  have hx : jo (0, x) := al_h (al_t hS)
  have e : (if Int32.ofInt y < Int32.ofInt x then Int32.ofInt y else Int32.ofInt x) = Int32.ofInt (imin x y) := by
    unfold imin
    by_cases h : y < x
    · rw [if_pos ((i32_lt hy hx).mpr h), if_pos h]
    · rw [if_neg (fun q => h ((i32_lt hy hx).mp q)), if_neg h]
  have hj : jo (0, imin x y) := by unfold imin; split <;> assumption
  have hk2 := kk o ho hw hp hL (al_c hj (al_t (al_t hS))) H locs ls hP hV hl hI
  have ht := C.2.2.2.1
  have hwr := jwords_room ad hS8
  simp only [List.map_cons, jc] at hk2 ⊢
  rw [← e] at hk2
  exact va_mmin C.1 C.2.1 (by rw [C.2.2.2.2.2.1]; exact hl.1.symm) C.2.2.1 (ht _ hm) (ht _ mmn_st) (ht _ mth_ini) (ht _ mmn_co) hR.1 (by have := hR.2; omega) hk.1 hk.2 d hk2
end
