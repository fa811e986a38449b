/-! MEET, HIDE: by the number of people alone -/
def mt (P v1 v2 : Int) : Int := if 0 ≤ v1 ∧ v1 < P ∧ 0 ≤ v2 ∧ v2 < P ∧ ¬ v1 = v2 then 1 else 0
def hd (P v1 : Int) : Int := if 0 ≤ v1 ∧ v1 < P then 1 else 0
theorem it_pc (v1 : Int) (w : Wd) : PC (f_F_isThere v1 w) (fun r u => u = w ∧ r = hd (w 5 3) v1) := by
  unfold f_F_isThere hd
  refine pc_ite (fun h => ?_) (fun h => ?_)
  · rw [if_neg (by omega)]; exact pc_some ⟨rfl, rfl⟩
  · refine pc_ite (fun h1 => ?_) (fun h1 => ?_)
    · rw [if_neg (by omega)]; exact pc_some ⟨rfl, rfl⟩
    · rw [if_pos (by omega)]; exact pc_some ⟨rfl, rfl⟩
theorem io_pc (v1 : Int) (w : Wd) (h : 0 ≤ w 43 0 ∧ w 43 0 ≤ 10) : PC (f_R_isOne v1 w) (fun r u => u = w ∧ r = hd (w 43 0) v1) := by
  unfold f_R_isOne
  have w1 := w32_sp (w 43 0 - 1)
  rw [in_e, jc_s]
  refine pc_ite (fun _ => ?_) (fun _ => pc_none)
  refine pc_some ⟨rfl, ?_⟩
  unfold hd
  by_cases c : 0 ≤ v1 ∧ v1 < w 43 0
  · rw [if_pos c, if_pos (by omega)]
  · rw [if_neg c, if_neg (by omega)]
theorem hd_0 {P v : Int} (h : hd P v = 0) : ¬ (0 ≤ v ∧ v < P) := fun c => by
  unfold hd at h
  rw [if_pos c] at h
  exact absurd h (by decide)
theorem hd_1 {P v : Int} (h : ¬ hd P v = 0) : 0 ≤ v ∧ v < P := by
  unfold hd at h
  by_cases c : 0 ≤ v ∧ v < P
  · exact c
  · rw [if_neg c] at h; exact absurd rfl h
theorem at_pc (v1 v2 : Int) (w : Wd) : PC (f_E_areTwo v1 v2 w) (fun r u => u = w ∧ r = mt (w 5 3) v1 v2) := by
  unfold f_E_areTwo mt
  refine pc_ite (fun c => ?_) (fun c => ?_)
  · rw [if_neg (fun h => h.2.2.2.2 c)]; exact pc_some ⟨rfl, rfl⟩
  · refine pc_call (it_pc v1 w) (fun r1 u2 q => ?_)
    obtain ⟨q1, q2⟩ := q
    rw [q1]
    refine pc_ite (fun c1 => ?_) (fun c1 => ?_)
    · have := hd_0 (q2.symm.trans c1)
      rw [if_neg (by omega)]; exact pc_some ⟨rfl, rfl⟩
    · have h1 := hd_1 (fun h => c1 (q2.trans h))
      refine pc_call (it_pc v2 w) (fun r3 u4 p => ?_)
      obtain ⟨p1, p2⟩ := p
      rw [p1]
      refine pc_ite (fun c2 => ?_) (fun c2 => ?_)
      · have := hd_0 (p2.symm.trans c2)
        rw [if_neg (by omega)]; exact pc_some ⟨rfl, rfl⟩
      · have h2 := hd_1 (fun h => c2 (p2.trans h))
        rw [if_pos (by omega)]; exact pc_some ⟨rfl, rfl⟩
theorem ar_pc (v1 v2 : Int) (w : Wd) (h : 0 ≤ w 43 0 ∧ w 43 0 ≤ 10) : PC (f_R_areTwo v1 v2 w) (fun r u => u = w ∧ r = mt (w 43 0) v1 v2) := by
  unfold f_R_areTwo mt
  refine pc_call (io_pc v1 w h) (fun r1 u2 q => ?_)
  obtain ⟨q1, q2⟩ := q
  rw [q1]
  refine pc_ite (fun c1 => ?_) (fun c1 => ?_)
  · have := hd_0 (q2.symm.trans c1)
    rw [if_neg (by omega)]; exact pc_some ⟨rfl, rfl⟩
  · have h1 := hd_1 (fun h => c1 (q2.trans h))
    refine pc_call (io_pc v2 w h) (fun r3 u4 p => ?_)
    obtain ⟨p1, p2⟩ := p
    rw [p1]
    refine pc_ite (fun c2 => ?_) (fun c2 => ?_)
    · have := hd_0 (p2.symm.trans c2)
      rw [if_neg (by omega)]; exact pc_some ⟨rfl, rfl⟩
    · have h2 := hd_1 (fun h => c2 (p2.trans h))
      refine pc_ite (fun c => ?_) (fun c => ?_)
      · rw [if_neg (fun h => h.2.2.2.2 c)]; exact pc_some ⟨rfl, rfl⟩
      · rw [if_pos ⟨h1.1, h1.2, h2.1, h2.2, c⟩]; exact pc_some ⟨rfl, rfl⟩
theorem mt_01 (P v1 v2 : Int) : mt P v1 v2 = 0 ∨ mt P v1 v2 = 1 := by
  unfold mt
  split
  · exact Or.inr rfl
  · exact Or.inl rfl
theorem pc_1 {x : Option (Int × Wd)} {f : Int → Wd → Option (Int × Wd)} {Q : Int → Wd → Prop} (hf : ∀ r u, PC (f r u) Q) : PC (jcall x f) Q := pc_call (P := fun _ _ => True) (fun _ _ _ => trivial) (fun r u _ => hf r u)
theorem me_E (v1 v2 v3 : Int) (w : Wd) : PC (f_E_meet v1 v2 v3 w) (fun r _ => r = mt (w 5 3) v1 v2) := by
  unfold f_E_meet
  refine pc_call (at_pc v1 v2 w) (fun r1 u2 q => ?_)
  have h01 := mt_01 (w 5 3) v1 v2
  refine pc_ite (fun c => pc_some (c.symm.trans q.2)) (fun c => ?_)
  have h1 : (1 : Int) = mt (w 5 3) v1 v2 := by
    have := q.2
    omega
  refine pc_gd (fun _ => ?_)
  refine pc_1 (fun r3 u4 => ?_)
  refine pc_gd (fun _ => ?_)
  refine pc_lw (fun u5 _ => ?_)
  refine pc_gd (fun _ => ?_)
  refine pc_1 (fun r6 u7 => ?_)
  refine pc_gd (fun _ => ?_)
  refine pc_lw (fun u8 _ => ?_)
  exact pc_1 (fun r9 u10 => pc_some h1)
theorem me_85 {s1 s2 : Int} {w : Wd} {x : Int} (h : (1 : Int) = x) : PC (f_R_meet_85 s1 s2 w) (fun r _ => r = x) := by
  unfold f_R_meet_85
  exact pc_gd (fun _ => pc_lw (fun u5 _ => pc_some h))
theorem me_50 {v1 v2 v3 s1 s2 : Int} {w : Wd} {x : Int} (h : (1 : Int) = x) : PC (f_R_meet_50 v1 v2 v3 s1 s2 w) (fun r _ => r = x) := by
  unfold f_R_meet_50
  refine pc_gd (fun _ => ?_)
  refine pc_lw (fun u4 _ => ?_)
  exact pc_ite (fun _ => pc_gd (fun _ => me_85 h)) (fun _ => pc_gd (fun _ => me_85 h))
theorem me_R (v1 v2 v3 : Int) (w : Wd) (hb : 0 ≤ w 43 0 ∧ w 43 0 ≤ 10) : PC (f_R_meet v1 v2 v3 w) (fun r _ => r = mt (w 43 0) v1 v2) := by
  unfold f_R_meet
  refine pc_lw (fun u1 e1 => ?_)
  have t0 : u1 43 0 = w 43 0 := by rw [e1, st_k (by decide)]
  refine pc_call (ar_pc v1 v2 u1 (by omega)) (fun r2 u3 q => ?_)
  rw [t0] at q
  have h01 := mt_01 (w 43 0) v1 v2
  refine pc_ite (fun c => pc_some (c.symm.trans q.2)) (fun c => ?_)
  have h1 : (1 : Int) = mt (w 43 0) v1 v2 := by
    have := q.2
    omega
  exact pc_ite (fun _ => pc_gd (fun _ => me_50 h1)) (fun _ => pc_gd (fun _ => me_50 h1))
theorem hd_01 (P v : Int) : hd P v = 0 ∨ hd P v = 1 := by
  unfold hd
  split
  · exact Or.inr rfl
  · exact Or.inl rfl
theorem hi_E (v1 v2 : Int) (w : Wd) : PC (f_E_hide v1 v2 w) (fun r _ => r = hd (w 5 3) v1) := by
  unfold f_E_hide
  refine pc_call (it_pc v1 w) (fun r1 u2 q => ?_)
  have h01 := hd_01 (w 5 3) v1
  refine pc_ite (fun c => pc_some (c.symm.trans q.2)) (fun c => ?_)
  have h1 : (1 : Int) = hd (w 5 3) v1 := by
    have := q.2
    omega
  refine pc_1 (fun r3 u4 => ?_)
  refine pc_lw (fun u5 _ => ?_)
  exact pc_1 (fun r6 u7 => pc_some h1)
theorem hi_R (v1 v2 : Int) (w : Wd) (hb : 0 ≤ w 43 0 ∧ w 43 0 ≤ 10) : PC (f_R_hide v1 v2 w) (fun r _ => r = hd (w 43 0) v1) := by
  unfold f_R_hide
  refine pc_lw (fun u1 e1 => ?_)
  have t0 : u1 43 0 = w 43 0 := by rw [e1, st_k (by decide)]
  refine pc_call (io_pc v1 u1 (by omega)) (fun r2 u3 q => ?_)
  rw [t0] at q
  have h01 := hd_01 (w 43 0) v1
  refine pc_ite (fun c => pc_some (c.symm.trans q.2)) (fun c => ?_)
  have h1 : (1 : Int) = hd (w 43 0) v1 := by
    have := q.2
    omega
  refine pc_gd (fun _ => ?_)
  exact pc_lw (fun u4 _ => pc_some h1)
