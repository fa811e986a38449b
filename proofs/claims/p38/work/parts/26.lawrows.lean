/-! THE LAW'S OWN ROWS: the script, its helpers, its room -/
section
variable {X : jX} {cc cy : ByteArray} {own : String} {Qf : Int × Wd → State → Prop} {ad : Nat → Nat} {N k n pc idx mL dep na : Nat} {w : Wd} {L L' : List (Nat × jv)} {S S0 avs : List jv} {y : MethodName} {g : Option (Int × Wd)}
def LX (X : jX) (sb : Int) (Ln : Nat) (xs9 : Nat → Int32) : Prop := va_X sb.toNat Ln xs9 (xs X) (xs X).heap ∧ sb.toNat < (xs X).heap.size ∧ ¬ xA X sb.toNat ∧ Ln < 1000000000
/-- room for f more throws -/
def LB (X : jX) (f k n : Nat) : Prop := k + f ≤ (xR X).cells ∧ n + 6 * f ≤ (xR X).slots ∧ 300 ≤ (xR X).frames ∧ 18060 ≤ (xR X).locals
theorem LB.s {f k n : Nat} (h : LB X (f + 1) k n) : LB X f k n := ⟨by have := h.1; omega, by have := h.2.1; omega, h.2.2⟩
theorem LB.t {f k n : Nat} (h : LB X (f + 1) k n) : LB X f (k + 1) (n + 6) := ⟨by have := h.1; omega, by have := h.2.1; omega, h.2.2⟩
theorem lb_jrm {f dep mL : Nat} (h : LB X f k n) (hd : (decide (dep ≤ 298) && decide (mL ≤ 41)) = true) : jrm X dep mL k n := by
  simp only [Bool.and_eq_true, decide_eq_true_eq] at hd
  obtain ⟨h1, h2, h3, h4⟩ := h
  unfold jrm
  omega
def RtL (X : jX) (Qf : Int × Wd → State → Prop) (ad : Nat → Nat) (cc : ByteArray) : Prop :=
  ∀ (f k n pc : Nat) (w : Wd) (L : List (Nat × jv)), LB X f k n → decode cc pc = .ok (.ireturn, 1) → VF X Qf ad NF k n w pc L [(0, 1)] (some (1, w))
theorem vf_xlen (C : Cx X cc own) {sb : Int} {Ln : Nat} {xs9 : Nat → Int32} (hX : LX X sb Ln xs9) (d : decode cc pc = .ok (.arraylength, 1)) (kk : VF X Qf ad N k n w (pc + 1) L ((0, (Ln : Int)) :: S) g) : VF X Qf ad N k n w pc L ((3, sb) :: S) g := by
  intro o ho hw hp hL hS H locs ls hP hV hl hI
  obtain ⟨h1, h2, h3, h4⟩ := hX
  have hj : jo (0, (Ln : Int)) := ⟨by omega, by omega⟩
  have hk := kk o ho hw hp hL (al_c hj (al_t hS)) H locs ls hP hV hl hI
  refine va_slen C.1 C.2.1 h1 h2 h3 hV d ?_
  exact hk
theorem vf_xld (C : Cx X cc own) {sb i : Int} {Ln : Nat} {xs9 : Nat → Int32} (hX : LX X sb Ln xs9) (d : decode cc pc = .ok (.iaload, 1)) (kk : VF X Qf ad N k n w (pc + 1) L ((0, (xs9 i.toNat).toInt) :: S) g) : VF X Qf ad N k n w pc L ((0, i) :: (3, sb) :: S) (if 0 ≤ i ∧ i < (Ln : Int) then g else none) := by
  intro o ho hw hp hL hS H locs ls hP hV hl hI
  obtain ⟨h1, h2, h3, h4⟩ := hX
  by_cases hin : 0 ≤ i ∧ i < (Ln : Int)
  · rw [if_pos hin] at ho
    have hi : jo (0, i) := al_h hS
    have hk := kk o ho hw hp hL (al_c (jo_i _) (al_t (al_t hS))) H locs ls hP hV hl hI
    refine va_sld C.1 C.2.1 h1 h2 h3 hV (ix_in hi hin) d ?_
    rw [ix_nat hi hin.1]
    have e : jc ad (0, (xs9 i.toNat).toInt) = .int (xs9 i.toNat) := by
      show Value.int (Int32.ofInt _) = _
      rw [Int32.ofInt_toInt]
    rw [List.map_cons, e] at hk
    exact hk
  · rw [if_neg hin] at ho; cases ho
theorem vrh_go {H : Heap} {locs : List Loc} {ls : Array Slot} {st0 rest : List Value} {a : Array Value} {o : Int × Wd} {Q : State → Prop}
    (hr : va_Run (xp X) (xl X) (xe X) (xR X) (xs X) (xm X) (xa X) (xb X) (xM X) (xc X) H locs k n 1 6 (F0 (xm X) pc ls st0) rest (QB (xD X) (xC X) ad 0 o a) (AF ad)) (hS : va_S (xA X) (xs X).heap H locs) (hI : jinj ad NF (xA X))
    (kk : ∀ (H1 : Heap) (locs1 : List Loc), jo (0, o.1) → wok o.2 → wpt o.2 → va_P (xD X) cl (wl ad (xC X) o.2 NF) H1 → va_S (xA X) (xs X).heap H1 locs1 → W (xp X) (xl X) (xe X) (xR X) (xs X) (xm X) (xa X) (xb X) (xM X) (xc X) H1 locs1 (k + 1) (n + 6) Q (F0 (xm X) (pc + 3) ls (jc ad (0, o.1) :: rest))) :
    W (xp X) (xl X) (xe X) (xR X) (xs X) (xm X) (xa X) (xb X) (xM X) (xc X) H locs k n Q (F0 (xm X) pc ls st0) := by
  have hf : ∀ q, AF ad q → xA X q := fun q ⟨c, hc, e⟩ => by rw [e]; exact hI.2 c hc
  intro T hT XX
  obtain ⟨v, st₀, t, T', L9, h0, X', hL, e1, e2, ⟨⟨hv, hj, hw, hp, hP⟩, hz, hk⟩, st⟩ := hr T hT XX
  cases hv
  rw [h0] at hz hk
  obtain ⟨t2, a1, b1⟩ := kk T'.heap (locs ++ L9) hj hw hp (by rw [e1]; exact hP) ⟨Nat.le_trans hS.1 (by rw [e1]; exact hz), fun q h1 h2 => by rw [e1, hk q (Nat.lt_of_lt_of_le h1 hS.1) (fun z => h2 (hf q z))]; exact hS.2.1 q h1 h2, fun q hq => by
      rcases List.mem_append.mp hq with h | h
      · exact hS.2.2 q h
      · exact hf _ (hL q h)⟩ T' rfl X'
  exact ⟨t2, st t2 a1, b1⟩
theorem vf_callH {hh : List (Nat × Nat × Nat × Nat)} (C : Cx X cc own) (hd : y.cls ≠ "java/lang/invoke/MethodHandle" ∧ y.cls ≠ "java/lang/invoke/VarHandle" ∧ (parseMethodDescriptor y.desc).map (fun d => d.parameters.length) = some na) (hini : Cond.initialized y.cls ∈ gw_tbl) (hlk : Cond.methodLink own idx y ∈ gw_tbl) (hst9 : Cond.static y ∈ gw_tbl) (hcode : Cond.codeWith y cy mL (some .int) hh ∈ gw_tbl) {F : Int → Wd → Option (Int × Wd)} (hct : CtH y cy mL hh dep avs w g) (hR : jrm X dep mL (k + 1) (n + 6)) (hn : avs.length = na) (hst : S0 = avs.reverse ++ S) (hS8 : jwords S ≤ 8) (d : decode cc pc = .ok (.invokestatic idx, 3))
    (hlt : (xl X).stackTraces = false) (hZ : ZX (xA X) (xs X)) (hX : SX (xs X))
    (kk : ∀ r w', VF X Qf ad NF (k + 1) (n + 6) w' (pc + 3) L ((0, r) :: S) (F r w')) : VF X Qf ad NF k n w pc L S0 (jcall g F) := by
  intro o ho hw hp hL hS H locs ls hP hV hl9 hI
  subst hst
  cases hg : g with
  | none => rw [hg] at ho; cases ho
  | some q =>
    rw [hg] at ho
    have ha : ∀ v ∈ avs, jo v := fun v hv => hS v (List.mem_append_left _ (List.mem_reverse.mpr hv))
    have hM := hct (xl X) (xD X) (xC X) ad q hlt hg hw (hp rfl) ha hI.1
    have ht := C.2.2.2.1
    have hB : ∀ q, AF ad q → xA X q := fun q ⟨c, hc, e⟩ => by rw [e]; exact hI.2 c hc
    have hrun : va_Run (xp X) (xl X) (xe X) (xR X) (xs X) (xm X) (xa X) (xb X) (xM X) (xc X) H locs k n 1 6 (F0 (xm X) pc ls ((avs.reverse ++ S).map (jc ad))) (S.map (jc ad)) (QB (xD X) (xC X) ad 0 q (avs.map (jc ad)).toArray) (AF ad) := by
      have hpre : PreS (xs X) H (va_Pc (avs.map (jc ad)) (PBX (xD X) (xC X) ad w)) (avs.map (jc ad)) := ⟨PBX_blind, fun U hU hW => ⟨rfl, ⟨by rw [hU]; exact hP, va_K.moved hW.alike C.2.2.2.2.1, NW.warm hW C.2.2.2.2.2.2⟩, hZ.kept hV hW.alike hU hB, SX.warm hW hX⟩⟩
      have hsk : (F0 (xm X) pc ls ((avs.reverse ++ S).map (jc ad))).stack = (avs.map (jc ad)).reverse ++ S.map (jc ad) := by simp
      have hG : GoodIn gw_tbl (va_wsS own idx y (Cond.codeWith y cy mL (some .int) hh :: gw_tbl)) := fun w hw => by
        have h1 : w ∈ gw_tbl := by
          simp only [va_wsS, List.mem_append, List.mem_cons, List.not_mem_nil, or_false] at hw
          rcases hw with (rfl | rfl | rfl) | (rfl | h) <;> assumption
        exact ⟨h1, (gw_good _ h1).2⟩
      exact vx_runSW ⟨C.1, C.2.1, C.2.2.2.2.2.1, C.2.2.1, ht⟩ hM (vx_cwSW na ht hG rfl rfl rfl hd ⟨hR.1, by have := hR.2.1; show 8 + (mL + 11) + 60 * dep ≤ _; omega⟩) hpre rfl (by simpa using hn) hl9.1 hsk (lv_room (jwords_room ad hS8)) d ⟨hR.2.2.1, hR.2.2.2⟩
    refine vrh_go hrun hV hI fun H1 locs1 hj hw1 hp1 P1 V1 => ?_
    exact kk q.1 q.2 o ho hw1 (fun _ => hp1) hL (fun v hv => by
      rcases List.mem_cons.mp hv with rfl | h
      · exact hj
      · exact hS v (List.mem_append_right _ h)) H1 locs1 ls P1 V1 hl9 hI
end
