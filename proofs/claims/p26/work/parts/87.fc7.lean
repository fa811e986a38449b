def pwc (c k : Nat) : Bool := !(c == 8 || c == 16 || c == 17 || c == 18 || c == 28 || c == 47 || c == 48 || c == 49 || c == 50 || c == 59 || (c == 5 && (k == 4 || k == 6)) || (c == 15 && (k == 3 || k == 4)) || (c == 43 && (k == 7 || k == 8 || k == 32)))
def pwr (c : Nat) : Bool := !(c == 8 || c == 16 || c == 17 || c == 18 || c == 28 || c == 47 || c == 48 || c == 49 || c == 50 || c == 59 || c == 5 || c == 15 || c == 43)
theorem pwc_t {c k : Nat} (h : pwc c k = true) : (c ≠ 8 ∧ c ≠ 16 ∧ c ≠ 17 ∧ c ≠ 18 ∧ c ≠ 28 ∧ ¬ (c = 5 ∧ (k = 4 ∨ k = 6)) ∧ ¬ (c = 15 ∧ (k = 3 ∨ k = 4))) ∧ c ≠ 47 ∧ c ≠ 48 ∧ c ≠ 49 ∧ c ≠ 50 ∧ c ≠ 59 ∧ ¬ (c = 43 ∧ (k = 7 ∨ k = 8 ∨ k = 32)) := by
  unfold pwc at h
  simp only [Bool.not_eq_true', Bool.or_eq_false_iff, Bool.and_eq_false_iff, beq_eq_false_iff_ne] at h
  obtain ⟨⟨⟨⟨⟨⟨⟨⟨⟨⟨⟨⟨h1, h2⟩, h3⟩, h4⟩, h5⟩, h6⟩, h7⟩, h8⟩, h9⟩, ha⟩, hb⟩, hc⟩, hd⟩ := h
  refine ⟨⟨h1, h2, h3, h4, h5, fun ⟨e, hk⟩ => ?_, fun ⟨e, hk⟩ => ?_⟩, h6, h7, h8, h9, ha, fun ⟨e, hk⟩ => ?_⟩
  · rcases hb with e2 | e2
    · exact e2 e
    · rcases hk with hk | hk
      · exact e2.1 hk
      · exact e2.2 hk
  · rcases hc with e2 | e2
    · exact e2 e
    · rcases hk with hk | hk
      · exact e2.1 hk
      · exact e2.2 hk
  · rcases hd with e2 | e2
    · exact e2 e
    · rcases hk with hk | hk | hk
      · exact e2.1.1 hk
      · exact e2.1.2 hk
      · exact e2.2 hk
theorem pwr_t {c : Nat} (h : pwr c = true) (k : Nat) : pwc c k = true := by
  unfold pwr at h
  unfold pwc
  simp only [Bool.not_eq_true', Bool.or_eq_false_iff, beq_eq_false_iff_ne] at h
  obtain ⟨⟨⟨⟨⟨⟨⟨⟨⟨⟨⟨⟨h1, h2⟩, h3⟩, h4⟩, h5⟩, h6⟩, h7⟩, h8⟩, h9⟩, ha⟩, hb⟩, hc⟩, hd⟩ := h
  simp only [Bool.not_eq_true', Bool.or_eq_false_iff, Bool.and_eq_false_iff, beq_eq_false_iff_ne]
  exact ⟨⟨⟨⟨⟨⟨⟨⟨⟨⟨⟨⟨h1, h2⟩, h3⟩, h4⟩, h5⟩, h6⟩, h7⟩, h8⟩, h9⟩, ha⟩, Or.inl hb⟩, Or.inl hc⟩, Or.inl hd⟩
/-- A WEEK: both answer alike, and what both have in common stays so -/
theorem er_pass {a w : Wd} (h : ER a w) (hL : PLN a w) (h59 : a 43 8 ≤ 59) : ∀ r u r' a', f_E_pass w = some (r, u) → f_R_goWeek a = some (r', a') → r = r' ∧ ER a' u ∧ a' 43 7 = w32 (a 43 7 + r') ∧ a' 43 8 = a 43 8 + 1 := by
  intro r u r' a' hE hR
  obtain ⟨hF, hU, hC⟩ := h
  obtain ⟨fCO, fPP, fHB, fWH, fN, f16, fSN, fUB, fK1, fK2, fg, fs⟩ := hF
  obtain ⟨m, hm, hP, hW⟩ := hL
  have x0 : 0 ≤ a 43 0 ∧ a 43 0 ≤ 10 := hC.1
  have x3 : w 5 3 = a 43 0 := fCO.2.1
  have x7 : w 5 7 = a 43 10 := fCO.2.2.1.1
  have xg : 1 ≤ a 43 10 ∧ a 43 10 ≤ 3 := fg
  have xW : WH (w 5 4) (a 47) (a 43 0) := fWH
  have xp : ∀ j : Nat, (j : Int) < a 43 0 → w 6 j = a 44 j ∧ w 7 j = a 45 j ∧ w 8 j = a 48 j := fPP
  have x56 : w 5 6 = a 43 7 := fN.1
  have x15 : w 15 3 = a 43 8 := fN.2.1
  have x154 : w 15 4 = a 43 32 := fN.2.2
  have x44 : ∀ j, 0 ≤ a 44 j ∧ a 44 j ≤ 9 := hC.2.1
  have x6 : ∀ j, 0 ≤ w 6 j ∧ w 6 j ≤ 9 := hC.2.2.1
  have x8 : 0 ≤ a 43 8 ∧ a 43 8 ≤ 60 := hC.2.2.2.2.1
  have x32 : 0 ≤ a 43 32 ∧ a 43 32 ≤ a 43 8 := hC.2.2.2.2.2
  have x16 : ∀ t : Nat, (t : Int) ≤ a 43 8 → w 16 t = a 50 t := f16
  have xSN : SN (a 43 0) (a 47) (a 48) (a 49) (a 50) (a 43 8) := fSN
  obtain ⟨⟨p1, p2, p3⟩, p4, p5, p6, p7, p8, ⟨p9, pa, pb⟩, pc⟩ := pass_pc x0 x3 x7 xg xW hP hm hW (by omega) (by omega) x6 r u hE
  obtain ⟨⟨q1, q2, q3⟩, q4, q5, q6, q7, q8, q9, qa, qb, qc⟩ := goweek_pc x0 rfl ⟨x8.1, h59⟩ (by omega) hW.1 (fun i hi => by
    rcases hW.2 i hi with e | e
    · exact Or.inl e
    · exact Or.inr ⟨e.1, e.2.1⟩) xW.2.2 x44 r' a' hR
  have er : r = r' := by
    rw [p4, q4]
    refine sms_eq (fun j hj => ?_)
    rw [(xp j (by omega)).1]
  have hc : ∀ c k, pwc c k = true → mx u a' c k = mx w a c k := fun c k hk => by
    have := pwc_t hk
    unfold mx
    by_cases z : c < 43
    · rw [if_pos z, if_pos z, pc c k this.1.1 this.1.2.1 this.1.2.2.1 this.1.2.2.2.1 this.1.2.2.2.2.1 this.1.2.2.2.2.2.1 this.1.2.2.2.2.2.2]
    · rw [if_neg z, if_neg z, qc c k this.2.1 this.2.2.1 this.2.2.2.1 this.2.2.2.2.1 this.2.2.2.2.2.1 this.2.2.2.2.2.2]
  have hr : ∀ c, pwr c = true → mx u a' c = mx w a c := fun c hk => funext fun k => hc c k (pwr_t hk k)
  have r430 : a' 43 0 = a 43 0 := hc 43 0 (by decide)
  have r4310 : a' 43 10 = a 43 10 := hc 43 10 (by decide)
  have r4311 : a' 43 11 = a 43 11 := hc 43 11 (by decide)
  have r44 : a' 44 = a 44 := hr 44 (by decide)
  have r45 : a' 45 = a 45 := hr 45 (by decide)
  have r46 : a' 46 = a 46 := hr 46 (by decide)
  have r6 : u 6 = w 6 := hr 6 (by decide)
  have r7 : u 7 = w 7 := hr 7 (by decide)
  have r55 : u 5 5 = w 5 5 := hc 5 5 (by decide)
  have whu : WH (u 5 4) (a' 47) (a 43 0) := wh_eq p5 (fun k hk => (q5 k hk).symm)
  have e8p : (a 43 8 + 1).toNat = (a 43 8).toNat + 1 := by omega
  rw [x15] at p6 p7
  refine ⟨er, ⟨⟨?_, ?_, ?_, ?_, ?_, ?_, ?_, ?_, ?_, ?_, ?_, ?_⟩, ?_, ?_⟩, q3, q1⟩
  · exact co_fr fCO (fr_of pwc hc pwr hr (by decide) (by decide))
  · intro j hj
    have hj2 : (j : Int) < a 43 0 := by rw [← r430]; exact hj
    show u 6 j = a' 44 j ∧ u 7 j = a' 45 j ∧ u 8 j = a' 48 j
    rw [r6, r44, r7, r45, p8 j hj2, (q6 j).1, (xp j hj2).2.2]
    exact ⟨(xp j hj2).1, (xp j hj2).2.1, rfl⟩
  · show B10 (u 5 5) (hB (a' 43 0) (a' 46))
    rw [r55, r430, r46]; exact fHB
  · show WH (u 5 4) (a' 47) (a' 43 0)
    rw [r430]; exact whu
  · show u 5 6 = a' 43 7 ∧ u 15 3 = a' 43 8 ∧ u 15 4 = a' 43 32
    rw [p1, p2, p3, q1, q2, q3, x56, x15, x154, er]
    exact ⟨rfl, rfl, rfl⟩
  · intro t ht
    have ht2 : (t : Int) ≤ a 43 8 + 1 := by rw [← q1]; exact ht
    show u 16 t = a' 50 t
    by_cases c : t = (a 43 8 + 1).toNat
    · rw [c]
      refine b10_eq p6 q7 (fun k _ => ?_)
      exact gs_eq (fun j hj => (q5 j hj).symm) k
    · rw [p7 t c, q8 t c]; exact x16 t (by omega)
  · show SN (a' 43 0) (a' 47) (a' 48) (a' 49) (a' 50) (a' 43 8)
    rw [r430, q1]
    exact sn_week xSN x8.1 x0.2 xW.2.2 hW q5 (fun j _ => (q6 j).1) (fun j _ => (q6 j).2) q7 q8
  · intro t ht
    have ht2 : (t : Int) < a 43 32 + 1 := by rw [← q2]; exact ht
    have ek : (wki (mx u a') t).toNat = (a 43 8 - a 43 32 + t).toNat := by
      show (a' 43 8 - a' 43 32 + t).toNat = _
      rw [q1, q2]; congr 1; omega
    have ek2 : wki (mx u a') t = a 43 8 - a 43 32 + t := by
      show a' 43 8 - a' 43 32 + t = _
      rw [q1, q2]; omega
    rw [ek, ek2]
    show WH (u 17 (a 43 8 - a 43 32 + t).toNat) (fun j => a' 59 (31 * t + 3 * j)) (a' 43 0) ∧ u 18 (a 43 8 - a 43 32 + t).toNat = a' 59 (31 * t + 30) ∧ SN (a' 43 0) (fun j => a' 59 (31 * t + 3 * j)) (fun j => a' 59 (31 * t + 3 * j + 1)) (fun j => a' 59 (31 * t + 3 * j + 2)) (a' 50) (a 43 8 - a 43 32 + t) ∧ (∀ j : Nat, (j : Int) < a' 43 0 → a' 59 (31 * t + 3 * j) ≠ 0 → a' 59 (31 * t + 3 * j + 1) = a' 48 j ∧ a' 47 j ≠ 0) ∧ ∀ t2 : Nat, t ≤ t2 → (t2 : Int) < a' 43 32 → ∀ j : Nat, (j : Int) < a' 43 0 → a' 59 (31 * t + 3 * j) ≠ 0 → a' 59 (31 * t2 + 3 * j) ≠ 0
    rw [r430, q2]
    have old50 : ∀ s : Nat, (s : Int) ≤ a 43 8 → a 50 s = a' 50 s := fun s hs => (q8 s (by omega)).symm
    have now : ∀ j : Nat, (j : Int) < a 43 0 → a 47 j ≠ 0 → a 48 j = a' 48 j ∧ a' 47 j ≠ 0 := fun j hj hn => by
      refine ⟨?_, ?_⟩
      · rw [(q6 j).1]
        have : brn (a 58) (a 43 0).toNat j = false := by
          cases c : brn (a 58) (a 43 0).toNat j with
          | false => rfl
          | true => exact absurd (brn_sr hW c).2.1 hn
        rw [this, if_neg (by decide)]
      · rw [q5 j hj]; exact nis_n (xW.2.2 j hj).1 hn
    by_cases c : t = (a 43 32).toNat
    · have ew : (a 43 8 - a 43 32 + t).toNat = (w 15 3).toNat := by rw [x15]; congr 1; omega
      have ew2 : a 43 8 - a 43 32 + t = a 43 8 := by omega
      have row : ∀ j : Nat, (j : Int) < a 43 0 → a' 59 (31 * t + 3 * j) = a 47 j ∧ a' 59 (31 * t + 3 * j + 1) = a 48 j ∧ a' 59 (31 * t + 3 * j + 2) = a 49 j := fun j hj => by rw [c]; exact q9 j (by omega)
      rw [ew, p9, pa, ew2]
      refine ⟨wh_eq xW (fun k hk => (row k hk).1.symm), ?_, ?_, fun j hj hn => ?_, fun t2 h1 h2 j hj hn => ?_⟩
      · rw [c, qa]; exact x56
      · exact sn_eq xSN x8.1 (fun j hj => ⟨(row j hj).1.symm, (row j hj).2.1.symm, (row j hj).2.2.symm⟩) old50
      · rw [(row j hj).1] at hn
        rw [(row j hj).2.1]
        exact now j hj hn
      · rw [show t2 = t by omega]; exact hn
    · have ht3 : (t : Int) < a 43 32 := by omega
      obtain ⟨u1, u2, u3, u4, u5⟩ := fUB t ht3
      have v1 : WH (w 17 (a 43 8 - a 43 32 + t).toNat) (fun j => a 59 (31 * t + 3 * j)) (a 43 0) := u1
      have v2 : w 18 (a 43 8 - a 43 32 + t).toNat = a 59 (31 * t + 30) := u2
      have v3 : SN (a 43 0) (fun j => a 59 (31 * t + 3 * j)) (fun j => a 59 (31 * t + 3 * j + 1)) (fun j => a 59 (31 * t + 3 * j + 2)) (a 50) (a 43 8 - a 43 32 + t) := u3
      have v4 : ∀ j : Nat, (j : Int) < a 43 0 → a 59 (31 * t + 3 * j) ≠ 0 → a 59 (31 * t + 3 * j + 1) = a 48 j ∧ a 47 j ≠ 0 := u4
      have v5 : ∀ t2 : Nat, t ≤ t2 → (t2 : Int) < a 43 32 → ∀ j : Nat, (j : Int) < a 43 0 → a 59 (31 * t + 3 * j) ≠ 0 → a 59 (31 * t2 + 3 * j) ≠ 0 := u5
      have lo : ∀ i, i ≤ 30 → a' 59 (31 * t + i) = a 59 (31 * t + i) := fun i hi => qb _ (by omega)
      have row : ∀ j : Nat, (j : Int) < a 43 0 → a' 59 (31 * t + 3 * j) = a 59 (31 * t + 3 * j) ∧ a' 59 (31 * t + 3 * j + 1) = a 59 (31 * t + 3 * j + 1) ∧ a' 59 (31 * t + 3 * j + 2) = a 59 (31 * t + 3 * j + 2) := fun j hj => ⟨qb _ (by omega), qb _ (by omega), qb _ (by omega)⟩
      have nw := pb (a 43 8 - a 43 32 + t).toNat (by rw [x15]; omega)
      rw [nw.1, nw.2, lo 30 (by omega)]
      refine ⟨wh_eq v1 (fun k hk => (row k hk).1.symm), v2, ?_, fun j hj hn => ?_, fun t2 h1 h2 j hj hn => ?_⟩
      · exact sn_eq v3 (by omega) (fun j hj => ⟨(row j hj).1.symm, (row j hj).2.1.symm, (row j hj).2.2.symm⟩) (fun s hs => old50 s (by omega))
      · rw [(row j hj).1] at hn
        rw [(row j hj).2.1]
        obtain ⟨z1, z2⟩ := v4 j hj hn
        obtain ⟨z3, z4⟩ := now j hj z2
        exact ⟨z1.trans z3, z4⟩
      · rw [(row j hj).1] at hn
        by_cases c2 : t2 = (a 43 32).toNat
        · rw [c2, (q9 j (by omega)).1]
          exact (v4 j hj hn).2
        · rw [qb (31 * t2 + 3 * j) (by omega)]
          exact v5 t2 h1 (by omega) j hj hn
  · exact kbf_ag fK1 (fr_of pwc hc pwr hr (by decide) (by decide))
  · exact kbf_ag fK2 (fr_of pwc hc pwr hr (by decide) (by decide))
  · show 1 ≤ a' 43 10 ∧ a' 43 10 ≤ 3
    rw [r4310]; exact fg
  · show 1 ≤ a' 43 11 ∧ a' 43 11 ≤ 10
    rw [r4311]; exact fs
  · exact ru_fr hU (fr_of pwc hc pwr hr (by decide) (by decide))
  · refine ⟨?_, ?_, ?_, ?_, ?_, ?_⟩
    · show 0 ≤ a' 43 0 ∧ a' 43 0 ≤ 10
      rw [r430]; exact x0
    · show ∀ j, 0 ≤ a' 44 j ∧ a' 44 j ≤ 9
      rw [r44]; exact x44
    · show ∀ j, 0 ≤ u 6 j ∧ u 6 j ≤ 9
      rw [r6]; exact x6
    · show ∀ j : Nat, (j : Int) < a' 43 0 → 0 ≤ a' 45 j ∧ a' 45 j ≤ 1023
      rw [r430, r45]; exact hC.2.2.2.1
    · show 0 ≤ a' 43 8 ∧ a' 43 8 ≤ 60
      rw [q1]; omega
    · show 0 ≤ a' 43 32 ∧ a' 43 32 ≤ a' 43 8
      rw [q1, q2]; omega
