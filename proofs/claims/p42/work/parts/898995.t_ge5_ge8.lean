/-! THE ROW'S SIZE, the reference: pairs, far, begin -/
theorem sr_pairs {P : Int} {w : Wd} (hP : 0 ≤ P ∧ P ≤ 10) (h0 : w 43 0 = P) (h45 : ∀ j : Nat, (j : Int) < P → 0 ≤ w 45 j ∧ w 45 j ≤ 1023) : PC (f_R_pairs w) (fun r u => u 43 15 = r) := by
  unfold f_R_pairs
  refine pc_lw (fun y ey => ?_)
  have y0 : y 43 0 = P := by rw [ey, st_k (by decide)]; exact h0
  have yr : ∀ c, c ≠ 43 → y c = w c := fun c hc => by rw [ey, st_row hc]
  have hfp : PC (f_R_findPairs y) (fun _ v => SM62 y v ∧ TBL P (w 45) (gs P (w 47)) (fre P (w 47) (w 46)) v (-1)) := by
    unfold f_R_findPairs
    refine pc_call (rfree_e (w := y) (by omega)) (fun r1 u2 q => ?_)
    have q2 := q.2
    rw [y0, yr 47 (by decide), yr 46 (by decide)] at q2
    rw [q.1]
    refine pc_let (fun x3 e3 => ?_)
    rw [e3, y0]
    exact fp_pc (w := y) (kn := w 45) (s := w 47) hP y0 (fun j hj => ⟨by rw [yr 45 (by decide)], h45 j hj⟩) (yr 47 (by decide)) q2 FU (by omega) (Int.le_refl _) (fun _ _ => rfl) (fun i' x h1 h2 _ => by omega)
  refine pc_call hfp (fun r2 u3 q => ?_)
  have u0 : u3 43 0 = P := by rw [q.1 43 (by decide)]; exact y0
  refine pc_call (rfree_e (w := u3) (by omega)) (fun r4 u5 q4 => ?_)
  rw [q4.1]
  refine pc_lw (fun u6 e6 => ?_)
  have pw := p2_1024 hP
  have T0 : u6 62 0 = mpv P (w 45) (gs P (w 47)) (fre P (w 47) (w 46)) P.toNat 0 := by
    rw [e6, st_c (by decide)]
    have := q.2 0 0 (by decide) (by omega) (by omega)
    exact this
  have ep : ∀ x : Int, 0 ≤ x → x < ((2 ^ P.toNat : Nat) : Int) → x < 1024 := fun x _ h => by omega
  have uf : u6 = st u3 43 15 0 := e6
  have tb : ∀ (i : Nat) (x : Int), (i : Int) ≤ P → 0 ≤ x → x < ((2 ^ P.toNat : Nat) : Int) → u6 62 (1024 * (i : Int) + x).toNat = mpv P (w 45) (gs P (w 47)) (fre P (w 47) (w 46)) (P.toNat - i) x := fun i x hi hx0 hx1 => by
    rw [uf, st_c (by decide)]
    have := q.2 i x.toNat (by omega) hi (by omega)
    rw [show ((x.toNat : Nat) : Int) = x by omega] at this
    rw [← this]
    congr 1
    omega
  have f6 : ∀ c, c ≠ 43 → c ≠ 62 → u6 c = w c := fun c a b => by rw [uf, st_row a, q.1 c b, yr c a]
  have l23 : ∀ (n : Nat) {v2 v3 : Int} {u : Wd}, 0 ≤ v3 → v3 ≤ P → 0 ≤ v2 → v2 < ((2 ^ P.toNat : Nat) : Int) → (∀ c, c ≠ 43 → c ≠ 52 → u c = u6 c) → u 43 0 = P → u 43 15 + mpv P (w 45) (gs P (w 47)) (fre P (w 47) (w 46)) (P.toNat - v3.toNat) v2 = mpv P (w 45) (gs P (w 47)) (fre P (w 47) (w 46)) P.toNat 0 → PC (f_R_pairs_23 n r4 v2 v3 u) (fun r v => v 43 15 = r) := by
    intro n
    induction n with
    | zero => intros; exact pc_none
    | succ n ih =>
      intro v2 v3 u i3 i3' i2 i2' hu u0' hS
      rw [f_R_pairs_23, u0', hu 47 (by decide) (by decide), f6 47 (by decide) (by decide)]
      refine pc_ite (fun c => pc_gd (fun _ => pc_some ?_)) (fun c => pc_gd (fun _ => ?_))
      · have e : u 62 (0 : Int).toNat = mpv P (w 45) (gs P (w 47)) (fre P (w 47) (w 46)) P.toNat 0 := by rw [hu 62 (by decide) (by decide)]; exact T0
        rw [e]
        rw [show P.toNat - v3.toNat = 0 by omega] at hS
        have z : mpv P (w 45) (gs P (w 47)) (fre P (w 47) (w 46)) 0 v2 = 0 := rfl
        omega
      · rw [isG_e, jc_s]
        have egs : gs P (w 47) v3.toNat = gst (w 47 v3.toNat) := by
          unfold gs
          rw [show inP P v3.toNat = true from decide_eq_true (by omega)]; rfl
        have en : P.toNat - v3.toNat = (P.toNat - (v3.toNat + 1)) + 1 := by omega
        have ei : P.toNat - (P.toNat - (v3.toNat + 1) + 1) = v3.toNat := by omega
        have w31 : w32 (v3 + 1) = v3 + 1 := w32_id (by omega)
        have nx : ∀ {v2 : Int} {u : Wd}, 0 ≤ v2 → v2 < ((2 ^ P.toNat : Nat) : Int) → (∀ c, c ≠ 43 → c ≠ 52 → u c = u6 c) → u 43 0 = P → u 43 15 + mpv P (w 45) (gs P (w 47)) (fre P (w 47) (w 46)) (P.toNat - (v3.toNat + 1)) v2 = mpv P (w 45) (gs P (w 47)) (fre P (w 47) (w 46)) P.toNat 0 → PC (f_R_pairs_142 (f_R_pairs_23 n) r4 v2 v3 u) (fun r v => v 43 15 = r) := fun {v2 u} a1 a2 a3 a4 a5 => by
          unfold f_R_pairs_142
          rw [w31]
          refine pc_let (fun x9 e9 => ?_)
          rw [e9]
          exact ih (by omega) (by omega) a1 a2 a3 a4 (by rw [show (v3 + 1).toNat = v3.toNat + 1 by omega]; exact a5)
        cases hg : gst (w 47 v3.toNat) with
        | false =>
          refine pc_ite (fun _ => nx i2 i2' hu u0' ?_) (fun e => absurd rfl e)
          have hm : mpv P (w 45) (gs P (w 47)) (fre P (w 47) (w 46)) (P.toNat - v3.toNat) v2 = mpv P (w 45) (gs P (w 47)) (fre P (w 47) (w 46)) (P.toNat - (v3.toNat + 1)) v2 := by
            rw [en, mpv, ei, egs, hg]; rfl
          rw [← hm]; exact hS
        | true =>
          refine pc_ite (fun e => absurd e (by decide)) (fun _ => ?_)
          have hm : mpv P (w 45) (gs P (w 47)) (fre P (w 47) (w 46)) (P.toNat - v3.toNat) v2 = mpo (mpv P (w 45) (gs P (w 47)) (fre P (w 47) (w 46)) (P.toNat - (v3.toNat + 1))) (w 45 v3.toNat) (fre P (w 47) (w 46)) v2 (mpv P (w 45) (gs P (w 47)) (fre P (w 47) (w 46)) (P.toNat - (v3.toNat + 1)) v2) P.toNat := by
            rw [en, mpv, ei, egs, hg, if_pos rfl]
          have b4 : B10 r4 (fre P (w 47) (w 46)) := by
            have := q4.2
            rw [u0, q.1 47 (by decide), q.1 46 (by decide), yr 47 (by decide), yr 46 (by decide)] at this
            exact this
          have l49 : ∀ (k : Nat) {v4 : Int}, 0 ≤ v4 → v4 ≤ P → (∀ o : Nat, (o : Int) < v4 → (bt (w 45 v3.toNat) o && fre P (w 47) (w 46) o && !bt v2 o) = true → 1 + mpv P (w 45) (gs P (w 47)) (fre P (w 47) (w 46)) (P.toNat - (v3.toNat + 1)) (ior v2 (ishl 1 (o : Int))) ≠ mpv P (w 45) (gs P (w 47)) (fre P (w 47) (w 46)) (P.toNat - v3.toNat) v2) → PC (f_R_pairs_49 (f_R_pairs_23 n) k r4 v2 v3 v4 u) (fun r v => v 43 15 = r) := by
            intro k
            induction k with
            | zero => intros; exact pc_none
            | succ k ihk =>
              intro v4 i4 i4' hno
              have w41 : w32 (v4 + 1) = v4 + 1 := w32_id (by omega)
              have e4' : ((v4.toNat : Nat) : Int) = v4 := by omega
              have on : ((bt (w 45 v3.toNat) v4.toNat && fre P (w 47) (w 46) v4.toNat && !bt v2 v4.toNat) = true → 1 + mpv P (w 45) (gs P (w 47)) (fre P (w 47) (w 46)) (P.toNat - (v3.toNat + 1)) (ior v2 (ishl 1 v4)) ≠ mpv P (w 45) (gs P (w 47)) (fre P (w 47) (w 46)) (P.toNat - v3.toNat) v2) → v4 < P → PC (f_R_pairs_136 (f_R_pairs_23 n) (f_R_pairs_49 (f_R_pairs_23 n) k) r4 v2 v3 v4 u) (fun r v => v 43 15 = r) := fun hn hlt => by
                unfold f_R_pairs_136
                rw [w41]
                refine pc_let (fun x12 e12 => ?_)
                rw [e12]
                refine ihk (by omega) (by omega) (fun o ho hc => ?_)
                by_cases co : (o : Int) < v4
                · exact hno o co hc
                · have eo : o = v4.toNat := by omega
                  rw [eo] at hc ⊢
                  rw [e4']
                  exact hn hc
              rw [f_R_pairs_49, u0', hu 45 (by decide) (by decide), f6 45 (by decide) (by decide)]
              refine pc_ite (fun c4 => nx i2 i2' hu u0' ?_) (fun c4 => pc_gd (fun _ => ?_))
              · rcases mpo_w (v := mpv P (w 45) (gs P (w 47)) (fre P (w 47) (w 46)) (P.toNat - (v3.toNat + 1))) (kni := w 45 v3.toNat) (fr := fre P (w 47) (w 46)) (u := v2) (base := mpv P (w 45) (gs P (w 47)) (fre P (w 47) (w 46)) (P.toNat - (v3.toNat + 1)) v2) P.toNat with e | ⟨o, o1, o2, o3⟩
                · rw [← hm] at e
                  rw [← e]; exact hS
                · rw [← hm] at o3
                  exact absurd o3.symm (hno o (by omega) o2)
              · have hB := b10_andn (b10_and (b10_self (h45 v3.toNat (by omega))) b4.2) (b10_self (x := v2) (by omega)).2
                rw [hasR_10 u hB (by omega), jc_s]
                cases hc : (bt (w 45 v3.toNat) v4.toNat && fre P (w 47) (w 46) v4.toNat && !bt v2 v4.toNat) with
                | false =>
                  exact pc_ite (fun _ => on (fun e => by rw [hc] at e; cases e) (by omega)) (fun e => absurd rfl e)
                | true =>
                  refine pc_ite (fun e => absurd e (by decide)) (fun _ => ?_)
                  have o5 := or_lt2 (P := P) (x := v2) (o := v4.toNat) hP ⟨i2, i2'⟩ (by omega)
                  rw [e4'] at o5
                  rw [w31, ix62 (i := v3 + 1) (x := ior v2 (ishl 1 v4)) (by omega) (by omega), ix62 (i := v3) (x := v2) (by omega) (by omega), hu 62 (by decide) (by decide)]
                  have t1 := tb (v3.toNat + 1) (ior v2 (ishl 1 v4)) (by omega) o5.1 o5.2
                  rw [show (((v3.toNat + 1 : Nat) : Nat) : Int) = v3 + 1 by omega] at t1
                  have t2 := tb v3.toNat v2 (by omega) i2 i2'
                  rw [show ((v3.toNat : Nat) : Int) = v3 by omega] at t2
                  rw [t1, t2]
                  have hr := mpv_rg P (w 45) (gs P (w 47)) (fre P (w 47) (w 46)) (P.toNat - (v3.toNat + 1)) (ior v2 (ishl 1 v4))
                  refine pc_gd (fun _ => pc_gd (fun _ => ?_))
                  rw [w32_id (show -2147483648 ≤ 1 + mpv P (w 45) (gs P (w 47)) (fre P (w 47) (w 46)) (P.toNat - (v3.toNat + 1)) (ior v2 (ishl 1 v4)) ∧ 1 + mpv P (w 45) (gs P (w 47)) (fre P (w 47) (w 46)) (P.toNat - (v3.toNat + 1)) (ior v2 (ishl 1 v4)) ≤ 2147483647 by omega)]
                  refine pc_ite (fun ce => ?_) (fun ce => on (fun _ => ce) (by omega))
                  refine pc_call (rt15 _ u) (fun r13 u14 z => pc_let (fun x15 e15 => ?_))
                  rw [e15]
                  have z1 := z.1
                  refine nx o5.1 o5.2 (fun c a b => ?_) ?_ (by omega)
                  · rw [← hu c a b]
                    exact funext fun kk => z.2 c kk b (fun hh => a hh.1)
                  · rw [z.2 43 0 (by decide) (by decide)]; exact u0'
          exact l49 FU (by decide) hP.1 (fun o ho => by omega)
  refine l23 FU (by decide) hP.1 (by decide) (by omega) (fun _ _ _ => rfl) (by rw [uf, st_k (by decide)]; exact u0) ?_
  rw [uf, st_eq]
  show 0 + mpv P (w 45) (gs P (w 47)) (fre P (w 47) (w 46)) (P.toNat - 0) 0 = _
  rw [Nat.sub_zero]; omega
theorem sr_far {P : Int} {w : Wd} {v1 : Int} (hP : 0 ≤ P ∧ P ≤ 10) (h0 : w 43 0 = P) (h45 : ∀ j : Nat, (j : Int) < P → 0 ≤ w 45 j ∧ w 45 j ≤ 1023) : PC (f_R_far v1 w) (fun r u => SZR szF (w 43 15) r (u 43 15)) := by
  have pcT : ∀ o : Option (Int × Wd), PC o (fun _ _ => True) := fun _ _ _ _ => trivial
  unfold f_R_far
  refine pc_lw (fun y ey => ?_)
  have y0 : y 43 0 = P := by rw [ey, st_k (by decide)]; exact h0
  have yr : ∀ c, c ≠ 43 → y c = w c := fun c hc => by rw [ey, st_row hc]
  refine pc_call (io_pc v1 y (by rw [y0]; exact hP)) (fun r2 u3 z => ?_)
  rw [z.1, z.2, y0]
  by_cases cv : 0 ≤ v1 ∧ v1 < P
  · rw [show hd P v1 = 1 from if_pos cv, if_neg (by decide)]
    have v10 : 0 ≤ v1 ∧ v1 < 10 := by omega
    refine pc_call (rfree_e (w := y) (by rw [y0]; exact hP)) (fun r4 u5 q4 => pc_gd (fun _ => ?_))
    rw [q4.1, isG_e, jc_s, yr 47 (by decide)]
    have b4 := q4.2
    rw [y0, yr 47 (by decide), yr 46 (by decide)] at b4
    have gsv : ∀ o : Nat, (o : Int) < P → gs P (w 47) o = gst (w 47 o) := fun o ho => by
      unfold gs; rw [show inP P o = true from decide_eq_true ho]; rfl
    -- all that follows tells the way
    have l341 : ∀ (n : Nat) {v2 v3 v4 v5 : Int} {v : Wd}, v5 ≤ 1000000 → PC (f_R_far_341 n v2 v3 v4 v5 v) (fun r u => r = v3 ∧ u 43 15 = v 43 15 + imax 0 v5) := by
      intro n
      induction n with
      | zero => intros; exact pc_none
      | succ n ih =>
        intro v2 v3 v4 v5 v i5
        rw [f_R_far_341]
        have im := imax_sp 0 v5
        refine pc_ite (fun _ => pc_some ⟨rfl, by omega⟩) (fun _ => ?_)
        have l396 : ∀ (m : Nat) {v6 v7 : Int} {x : Wd}, RKP v x → PC (f_R_far_396 (f_R_far_341 n) m v2 v3 v5 v6 v7 x) (fun r u => r = v3 ∧ u 43 15 = v 43 15 + imax 0 v5) := by
          intro m
          induction m with
          | zero => intros; exact pc_none
          | succ m ihm =>
            intro v6 v7 x k
            rw [f_R_far_396]
            unfold f_R_far_427
            refine pc_call (kr_R_has k) (fun _ _ k => pc_ite (fun _ => pc_let (fun _ _ => ihm k)) (fun _ => pc_gd (fun _ => pc_ite (fun _ => pc_call (kr_R_has k) (fun _ u14 k => pc_ite (fun _ => pc_let (fun _ _ => ihm k)) (fun _ => pc_call (rt15 v7 u14) (fun _ u16 z => pc_let (fun _ _ => pc_let (fun x18 e18 => ?_)))))) (fun _ => pc_let (fun _ _ => ihm k)))))
            have k' : u14 43 15 = v 43 15 := k.1
            have z1 := z.1
            rw [w32_id (by omega)] at e18
            have im2 := imax_sp 0 x18
            exact pc_w (ih (by omega)) (fun _ _ q => ⟨q.1, by have := q.2; omega⟩)
        have l352 : ∀ (m : Nat) {v6 v7 : Int} {x : Wd}, RKP v x → PC (f_R_far_352 (f_R_far_341 n) m v2 v3 v4 v5 v6 v7 x) (fun r u => r = v3 ∧ u 43 15 = v 43 15 + imax 0 v5) := by
          intro m
          induction m with
          | zero => intros; exact pc_none
          | succ m ihm =>
            intro v6 v7 x k
            rw [f_R_far_352]
            unfold f_R_far_384
            exact pc_ite (fun _ => l396 FU k) (fun _ => pc_call (kr_R_has k) (fun _ _ k => pc_ite (fun _ => pc_let (fun _ _ => pc_let (fun _ _ => ihm k))) (fun _ => pc_gd (fun _ => pc_let (fun _ _ => pc_let (fun _ _ => ihm k))))))
        exact l352 FU (kr_0 v)
    have l284 : ∀ (n : Nat) {v2 v3 v4 v5 : Int} {v : Wd}, 0 ≤ v3 ∧ v3 ≤ 1000000 → v 43 15 = 0 → PC (f_R_far_284 n v2 v3 v4 v5 v) (fun r u => r = v3 ∧ u 43 15 = szF v3) := by
      intro n
      induction n with
      | zero => intros; exact pc_none
      | succ n ih =>
        intro v2 v3 v4 v5 v i3 hv
        rw [f_R_far_284]
        unfold f_R_far_326 f_R_far_327
        refine pc_ite (fun _ => pc_let (fun x9 e9 => ?_)) (fun _ => pc_gd (fun _ => pc_call (kr_R_isGuest (kr_0 v)) (fun _ _ k => pc_ite (fun _ => pc_let (fun _ _ => pc_let (fun _ _ => ih i3 (k.1.trans hv)))) (fun _ => pc_gd (fun _ => pc_ite (fun _ => pc_let (fun _ _ => pc_let (fun _ _ => ih i3 (k.1.trans hv)))) (fun _ => pc_let (fun _ _ => pc_let (fun _ _ => ih i3 (k.1.trans hv)))))))))
        rw [w32_id (by omega)] at e9
        refine pc_w (l341 FU (by omega)) (fun _ _ q => ⟨q.1, ?_⟩)
        have q2 := q.2
        have im := imax_sp 0 x9
        unfold szF
        by_cases c : v3 ≤ 1
        · rw [if_pos c]; omega
        · rw [if_neg c]; omega
    -- the nearest GUEST
    have l223 : ∀ (n : Nat) {v3 v4 : Int} {u : Wd}, 0 ≤ v4 → v4 ≤ P → (∀ c, c ≠ 78 → u c = y c) → KIN P (w 45) (fre P (w 47) (w 46)) (gs P (w 47)) v1.toNat P u → ((0 ≤ v3 ∧ v3 ≤ 1000000) ∧ (∀ q : Nat, (q : Int) < v4 → gs P (w 47) q = true → v3 ≤ u 78 q) ∧ (v3 = 1000000 ∨ ∃ q : Nat, (q : Int) < v4 ∧ gs P (w 47) q = true ∧ u 78 q = v3)) → PC (f_R_far_223 n r4 v3 v4 u) (fun r v => SZR szF (w 43 15) r (v 43 15)) := by
      intro n
      induction n with
      | zero => intros; exact pc_none
      | succ n ih =>
        intro v3 v4 u i4 i4' hu hI hM
        obtain ⟨m1, m2, m3⟩ := hM
        rw [f_R_far_223, hu 43 (by decide), y0]
        unfold f_R_far_257
        refine pc_ite (fun c => ?_) (fun c => pc_gd (fun _ => ?_))
        · refine pc_ite (fun c3 => pc_some (Or.inl ⟨by decide, ?_⟩)) (fun c3 => pc_lw (fun u8 e8 => pc_w (l284 FU m1 (by rw [e8, st_eq])) (fun r _ e => Or.inr ?_)))
          · rw [hu 43 (by decide), ey, st_k (by decide)]
          · rw [e.1]; exact ⟨m1.1, e.2⟩
        · rw [isG_e, jc_s, hu 47 (by decide), yr 47 (by decide), ← gsv v4.toNat (by omega)]
          have w4 : w32 (v4 + 1) = v4 + 1 := w32_id (by omega)
          rw [w4]
          by_cases cg : gs P (w 47) v4.toNat = true
          · rw [if_pos cg]
            refine pc_ite (fun e => absurd e (by decide)) (fun _ => pc_gd (fun _ => pc_let (fun x30 e30 => pc_let (fun x29 e29 => ?_))))
            rw [e29]
            have u78 : 0 ≤ u 78 v4.toNat ∧ u 78 v4.toNat ≤ 1000000 := by
              rcases hI v4.toNat (by omega) with ⟨e1, _⟩ | ⟨d, e1, e2, _⟩ <;> omega
            have im := imin_sp v3 (u 78 v4.toNat)
            refine ih (by omega) (by omega) hu hI ⟨?_, fun q hq hg => ?_, ?_⟩
            · rcases im with ⟨_, e⟩ | ⟨_, e⟩ <;> rw [e30, e] <;> omega
            · by_cases cq : (q : Int) < v4
              · have := m2 q cq hg
                rcases im with ⟨_, e⟩ | ⟨_, e⟩ <;> rw [e30, e] <;> omega
              · rw [show q = v4.toNat by omega]
                rcases im with ⟨_, e⟩ | ⟨_, e⟩ <;> rw [e30, e] <;> omega
            · rcases im with ⟨_, e⟩ | ⟨_, e⟩
              · exact Or.inr ⟨v4.toNat, by omega, cg, by rw [e30, e]⟩
              · rw [e30, e]
                rcases m3 with e3 | ⟨q, q1, q2, q3⟩
                · exact Or.inl e3
                · exact Or.inr ⟨q, by omega, q2, q3⟩
          · rw [if_neg cg]
            refine pc_ite (fun _ => pc_let (fun x29 e29 => ?_)) (fun e => absurd rfl e)
            rw [e29]
            refine ih (by omega) (by omega) hu hI ⟨m1, fun q hq hg => ?_, ?_⟩
            · by_cases cq : (q : Int) < v4
              · exact m2 q cq hg
              · rw [show q = v4.toNat by omega] at hg; exact absurd hg cg
            · rcases m3 with e3 | ⟨q, q1, q2, q3⟩
              · exact Or.inl e3
              · exact Or.inr ⟨q, by omega, q2, q3⟩
    -- one step after the other
    have l79 : ∀ (n : Nat) {L : Int} {b : Wd}, 0 ≤ L → L ≤ P → (∀ c, c ≠ 78 → b c = y c) → KIN P (w 45) (fre P (w 47) (w 46)) (gs P (w 47)) v1.toNat L b → PC (f_R_far_79 n r4 L b) (fun r v => SZR szF (w 43 15) r (v 43 15)) := by
      intro n
      induction n with
      | zero => intros; exact pc_none
      | succ n ih =>
        intro L b iL iL' hbu hI
        rw [f_R_far_79, hbu 43 (by decide), y0]
        refine pc_ite (fun c => ?_) (fun c => ?_)
        · rw [show L = P by omega] at hI
          exact l223 FU (by decide) hP.1 hbu hI ⟨by decide, fun q hq => by omega, Or.inl rfl⟩
        · have l90 : ∀ (m : Nat) {v4 : Int} {u : Wd}, 0 ≤ v4 → v4 ≤ P → (∀ c, c ≠ 78 → u c = y c) → KIM P (w 45) (fre P (w 47) (w 46)) (gs P (w 47)) L b v4 0 u → PC (f_R_far_90 (f_R_far_79 n) m r4 L v4 u) (fun r v => SZR szF (w 43 15) r (v 43 15)) := by
            intro m
            induction m with
            | zero => intros; exact pc_none
            | succ m ihm =>
              intro v4 u i4 i4' hu hM
              rw [f_R_far_90, hu 43 (by decide), y0]
              have w4 : w32 (v4 + 1) = v4 + 1 := w32_id (by omega)
              -- on to the next
              have nx : ∀ {v5 : Int} {u : Wd}, v4 < P → (∀ c, c ≠ 78 → u c = y c) → KIM P (w 45) (fre P (w 47) (w 46)) (gs P (w 47)) L b v4 v5 u → (∀ o : Nat, (o : Int) < P → KQX (w 45) (fre P (w 47) (w 46)) (gs P (w 47)) L b v4.toNat o → (o : Int) < v5) → PC (f_R_far_204 (f_R_far_79 n) (f_R_far_90 (f_R_far_79 n) m) r4 L v4 u) (fun r v => SZR szF (w 43 15) r (v 43 15)) := fun {v5 u} h4 hu hM hq => by
                unfold f_R_far_204
                rw [w4]
                refine pc_let (fun x32 e32 => ?_)
                rw [e32]
                refine ihm (by omega) (by omega) hu (kim_w hM (fun o ho => ?_))
                constructor
                · rintro (⟨x, hx, hh⟩ | ⟨_, c⟩)
                  · by_cases cx : (x : Int) < v4
                    · exact Or.inl ⟨x, cx, hh⟩
                    · rw [show x = v4.toNat by omega] at hh
                      exact Or.inr ⟨hh, hq o ho hh⟩
                  · omega
                · rintro (⟨x, hx, hh⟩ | ⟨hh, _⟩)
                  · exact Or.inl ⟨x, by omega, hh⟩
                  · exact Or.inl ⟨v4.toNat, by omega, hh⟩
              refine pc_ite (fun c4 => pc_let (fun x31 e31 => ?_)) (fun c4 => pc_gd (fun _ => ?_))
              · rw [w32_id (by omega)] at e31
                rw [e31]
                rw [show v4 = P by omega] at hM
                exact ih (by omega) (by omega) hu (kin_s hP ⟨iL, by omega⟩ hI hM)
              · -- its own number: as at the step's beginning
                have own : u 78 v4.toNat = L ↔ b 78 v4.toNat = L := by
                  have hm := hM v4.toNat (by omega)
                  by_cases cb : b 78 v4.toNat = 1000000
                  · have := hm.2 cb
                    by_cases hR : KQR (w 45) (fre P (w 47) (w 46)) (gs P (w 47)) L b v4 0 v4.toNat
                    · have := this.1 hR; omega
                    · have := this.2 hR; omega
                  · rw [hm.1 cb]
                refine pc_ite (fun cL => pc_gd (fun _ => ?_)) (fun cL => nx (by omega) hu hM (fun o _ hh => absurd (own.mpr hh.1) cL))
                rw [isG_e, jc_s, hu 47 (by decide), yr 47 (by decide), ← gsv v4.toNat (by omega)]
                by_cases cg : gs P (w 47) v4.toNat = true
                · rw [if_pos cg]
                  exact pc_ite (fun e => absurd e (by decide)) (fun _ => nx (by omega) hu hM (fun o _ hh => by have h2 := hh.2.1; rw [cg] at h2; cases h2))
                · rw [if_neg cg]
                  have cg2 : gs P (w 47) v4.toNat = false := by
                    cases e : gs P (w 47) v4.toNat with
                    | false => rfl
                    | true => exact absurd e cg
                  refine pc_ite (fun _ => ?_) (fun e => absurd rfl e)
                  have bL := own.mp cL
                  have l129 : ∀ (k : Nat) {v5 : Int} {u : Wd}, 0 ≤ v5 → v5 ≤ P → (∀ c, c ≠ 78 → u c = y c) → KIM P (w 45) (fre P (w 47) (w 46)) (gs P (w 47)) L b v4 v5 u → PC (f_R_far_129 (f_R_far_79 n) (f_R_far_90 (f_R_far_79 n) m) k r4 L v4 v5 u) (fun r v => SZR szF (w 43 15) r (v 43 15)) := by
                    intro k
                    induction k with
                    | zero => intros; exact pc_none
                    | succ k ihk =>
                      intro v5 u i5 i5' hu hM
                      rw [f_R_far_129, hu 43 (by decide), y0]
                      have w5 : w32 (v5 + 1) = v5 + 1 := w32_id (by omega)
                      refine pc_ite (fun c5 => nx (by omega) hu hM (fun o ho _ => by omega)) (fun c5 => pc_gd (fun _ => ?_))
                      -- nothing is written
                      have no : (KQX (w 45) (fre P (w 47) (w 46)) (gs P (w 47)) L b v4.toNat v5.toNat → u 78 v5.toNat ≠ 1000000) → PC (f_R_far_198 (f_R_far_79 n) (f_R_far_90 (f_R_far_79 n) m) (f_R_far_129 (f_R_far_79 n) (f_R_far_90 (f_R_far_79 n) m) k) r4 L v4 v5 u) (fun r v => SZR szF (w 43 15) r (v 43 15)) := fun hne => by
                        unfold f_R_far_198
                        rw [w5]
                        refine pc_let (fun x37 e37 => ?_)
                        rw [e37]
                        refine ihk (by omega) (by omega) hu (fun o ho => ⟨(hM o ho).1, fun hb => ?_⟩)
                        have hm := (hM o ho).2 hb
                        refine ⟨fun hR => ?_, fun hR => hm.2 (fun hR0 => hR ?_)⟩
                        · by_cases hR0 : KQR (w 45) (fre P (w 47) (w 46)) (gs P (w 47)) L b v4 v5 o
                          · exact hm.1 hR0
                          · rcases hR with hx | ⟨hh, hlt⟩
                            · exact absurd (Or.inl hx) hR0
                            · by_cases co : (o : Int) < v5
                              · exact absurd (Or.inr ⟨hh, co⟩) hR0
                              · have eo : o = v5.toNat := by omega
                                rw [eo] at hh hm hR0
                                exact absurd (hm.2 hR0) (hne hh)
                        · rcases hR0 with hx | ⟨hh, hlt⟩
                          · exact Or.inl hx
                          · exact Or.inr ⟨hh, by omega⟩
                      -- it is written
                      have yes : KQX (w 45) (fre P (w 47) (w 46)) (gs P (w 47)) L b v4.toNat v5.toNat → u 78 v5.toNat = 1000000 → PC (f_R_far_188 (f_R_far_79 n) (f_R_far_90 (f_R_far_79 n) m) (f_R_far_129 (f_R_far_79 n) (f_R_far_90 (f_R_far_79 n) m) k) r4 L v4 v5 u) (fun r v => SZR szF (w 43 15) r (v 43 15)) := fun hq h78 => by
                        unfold f_R_far_188 f_R_far_198
                        rw [w5, w32_id (show -2147483648 ≤ L + 1 ∧ L + 1 ≤ 2147483647 by omega)]
                        refine pc_gd (fun _ => pc_lw (fun u40 e40 => pc_let (fun x37 e37 => ?_)))
                        rw [e37]
                        refine ihk (by omega) (by omega) (fun c hc => by rw [e40, st_row hc, hu c hc]) (fun o ho => ?_)
                        by_cases co : o = v5.toNat
                        · have e78 : u40 78 o = L + 1 := by rw [e40, co, st_eq]
                          have hm := hM o ho
                          rw [co] at hm
                          have hb : b 78 v5.toNat = 1000000 := Classical.byContradiction fun hh => by
                            have := hm.1 hh
                            rw [h78] at this
                            exact hh this.symm
                          rw [co] at e78 ⊢
                          refine ⟨fun hh => absurd hb hh, fun _ => ⟨fun _ => e78, fun hR => absurd (Or.inr ⟨hq, by omega⟩) hR⟩⟩
                        · have e78 : u40 78 o = u 78 o := by rw [e40, st_k co]
                          rw [e78]
                          have hm := hM o ho
                          refine ⟨hm.1, fun hb => ⟨fun hR => (hm.2 hb).1 ?_, fun hR => (hm.2 hb).2 (fun hR0 => hR ?_)⟩⟩
                          · rcases hR with hx | ⟨hh, hlt⟩
                            · exact Or.inl hx
                            · exact Or.inr ⟨hh, by omega⟩
                          · rcases hR0 with hx | ⟨hh, hlt⟩
                            · exact Or.inl hx
                            · exact Or.inr ⟨hh, by omega⟩
                      rw [hu 45 (by decide), yr 45 (by decide), hasR_10 u (b10_self (h45 v4.toNat (by omega))) (by omega), jc_s]
                      by_cases cb : bt (w 45 v4.toNat) v5.toNat = true
                      · rw [if_pos cb]
                        refine pc_ite (fun e => absurd e (by decide)) (fun _ => pc_gd (fun _ => pc_ite (fun c78 => ?_) (fun c78 => no (fun _ => c78))))
                        rw [hasR_10 u b4 (by omega), jc_s]
                        by_cases cf : fre P (w 47) (w 46) v5.toNat = true
                        · rw [if_pos cf]
                          exact pc_ite (fun e => absurd e (by decide)) (fun _ => yes ⟨bL, cg2, cb, Or.inl cf⟩ c78)
                        · rw [if_neg cf]
                          refine pc_ite (fun _ => pc_gd (fun _ => ?_)) (fun e => absurd rfl e)
                          rw [isG_e, jc_s, hu 47 (by decide), yr 47 (by decide), ← gsv v5.toNat (by omega)]
                          by_cases cgo : gs P (w 47) v5.toNat = true
                          · rw [if_pos cgo]
                            exact pc_ite (fun e => absurd e (by decide)) (fun _ => yes ⟨bL, cg2, cb, Or.inr cgo⟩ c78)
                          · rw [if_neg cgo]
                            refine pc_ite (fun _ => no (fun hh => ?_)) (fun e => absurd rfl e)
                            rcases hh.2.2.2 with e | e
                            · exact absurd e cf
                            · exact absurd e cgo
                      · rw [if_neg cb]
                        exact pc_ite (fun _ => no (fun hh => absurd hh.2.2.1 cb)) (fun e => absurd rfl e)
                  exact l129 FU (by decide) hP.1 hu hM
          refine l90 FU (by decide) hP.1 hbu (fun o ho => ⟨fun _ => rfl, fun hb => ⟨fun hR => ?_, fun _ => hb⟩⟩)
          rcases hR with ⟨x, hx, _⟩ | ⟨_, c⟩
          · omega
          · omega
    -- the beginning
    have l45 : ∀ (n : Nat) {v3 : Int} {u : Wd}, 0 ≤ v3 → v3 ≤ P → (∀ c, c ≠ 78 → u c = y c) → (∀ o : Nat, (o : Int) < v3 → u 78 o = if o = v1.toNat then 0 else 1000000) → PC (f_R_far_45 n v1 r4 v3 u) (fun r v => SZR szF (w 43 15) r (v 43 15)) := by
      intro n
      induction n with
      | zero => intros; exact pc_none
      | succ n ih =>
        intro v3 u i3 i3' hu hM
        rw [f_R_far_45, hu 43 (by decide), y0]
        unfold f_R_far_70
        refine pc_ite (fun c => ?_) (fun c => ?_)
        · refine l79 FU (by decide) hP.1 hu (fun o ho => ?_)
          have := hM o (by omega)
          by_cases co : o = v1.toNat
          · rw [if_pos co] at this
            exact Or.inr ⟨0, by decide, this, decide_eq_true co, fun d' hd' => by omega⟩
          · rw [if_neg co] at this
            exact Or.inl ⟨this, decide_eq_false co⟩
        · have w3 : w32 (v3 + 1) = v3 + 1 := w32_id (by omega)
          rw [w3]
          have go : ∀ {z : Int}, z = (if v3.toNat = v1.toNat then 0 else 1000000) → PC (jgd ((0 : Int) ≤ v3 ∧ v3 < 10) <| jlw (st u 78 v3.toNat z) fun u43 => jlet (v3 + 1) fun x44 => f_R_far_45 n v1 r4 x44 u43) (fun r v => SZR szF (w 43 15) r (v 43 15)) := fun {z} hz => by
            refine pc_gd (fun _ => pc_lw (fun u43 e43 => pc_let (fun x44 e44 => ?_)))
            rw [e44]
            refine ih (by omega) (by omega) (fun c hc => by rw [e43, st_row hc, hu c hc]) (fun o ho => ?_)
            by_cases co : o = v3.toNat
            · rw [e43, co, st_eq, hz]
            · rw [e43, st_k co]; exact hM o (by omega)
          refine pc_ite (fun c3 => go (by rw [if_pos (by omega)])) (fun c3 => go (by rw [if_neg (by omega)]))
    have done : PC (f_R_far_43 v1 r4 y) (fun r v => SZR szF (w 43 15) r (v 43 15)) := by
      unfold f_R_far_43
      exact l45 FU (by decide) hP.1 (fun _ _ => rfl) (fun o ho => by omega)
    rw [← gsv v1.toNat (by omega)]
    by_cases cg : gs P (w 47) v1.toNat = true
    · rw [if_pos cg]
      exact pc_ite (fun e => absurd e (by decide)) (fun _ => done)
    · rw [if_neg cg]
      have cg2 : gs P (w 47) v1.toNat = false := by
        cases e : gs P (w 47) v1.toNat with
        | false => rfl
        | true => exact absurd e cg
      refine pc_ite (fun _ => ?_) (fun e => absurd rfl e)
      rw [hasR_10 y b4 v10, jc_s]
      by_cases cf : fre P (w 47) (w 46) v1.toNat = true
      · rw [if_pos cf]
        exact pc_ite (fun e => absurd e (by decide)) (fun _ => done)
      · rw [if_neg cf]
        have cf2 : fre P (w 47) (w 46) v1.toNat = false := by
          cases e : fre P (w 47) (w 46) v1.toNat with
          | false => rfl
          | true => exact absurd e cf
        exact pc_ite (fun _ => pc_some (Or.inl ⟨by decide, by rw [ey, st_k (by decide)]⟩)) (fun e => absurd rfl e)
  · rw [show hd P v1 = 0 from if_neg cv, if_pos rfl]
    exact pc_some (Or.inl ⟨by decide, by rw [ey, st_k (by decide)]⟩)
/-- all are looked at -/
theorem fdf_all {P se : Int} {kn : Nat → Int} {br fr sy : Nat → Bool} {hit : Int → Bool} (hP : 0 ≤ P ∧ P ≤ 10) {N : Nat} (hN : P < (N : Int)) (h0 : fdf P se kn br fr sy hit N 0 0 = none) : ∀ (d : Nat) {f m : Int}, DRC P se kn br fr sy d f m → ∃ n : Nat, P - f < (n : Int) ∧ fdf P se kn br fr sy hit n f m = none := by
  intro d
  induction d with
  | zero =>
    rintro f m ⟨rfl, rfl⟩
    exact ⟨N, by omega, h0⟩
  | succ d ih =>
    rintro f m ⟨f0, m0, hm0, i, o, c1, c2, c3, c4, c5, c6, c7, c8, c9, c10⟩
    obtain ⟨n, hn, e⟩ := ih hm0
    cases n with
    | zero => omega
    | succ n =>
      rw [fdf_s] at e
      by_cases ch : hit m0 = true
      · rw [if_pos ch] at e; cases e
      · rw [if_neg ch] at e
        have e1 := fdo_of e i (by omega)
        unfold fgi at e1
        rw [if_pos c1] at e1
        have e2 := fdo_of e1 o c3
        unfold fgo at e2
        rw [if_pos (cnd1_t.mpr ⟨c4, c5, c6, c7, by rw [← c8]; exact c9⟩)] at e2
        exact ⟨n, by omega, by rw [c10, c8]; exact e2⟩
theorem fdf_none_no {P se : Int} {kn : Nat → Int} {br fr sy : Nat → Bool} {hit : Int → Bool} (hP : 0 ≤ P ∧ P ≤ 10) {N : Nat} (hN : P < (N : Int)) (h0 : fdf P se kn br fr sy hit N 0 0 = none) {m : Int} (hm : MOV P se kn br fr sy m) : hit m = false := by
  obtain ⟨d, f, hD⟩ := hm
  obtain ⟨n, hn, e⟩ := fdf_all hP hN h0 d hD
  have := (drc_rg hP hD).2
  cases n with
  | zero => omega
  | succ n =>
    rw [fdf_s] at e
    cases ch : hit m with
    | false => rfl
    | true => rw [if_pos ch] at e; cases e
theorem fdb_ex {P g se : Int} {h kn : Nat → Int} {x0 L : Int} {H : Nat → Int → Bool} (hP : 0 ≤ P ∧ P ≤ 10) (hH : ∀ n, HIT P g se h kn x0 n (H n)) (hL : LWQ P g se h kn x0 L) (h1 : 1 ≤ L) : ∃ x, FDB P g se h kn x0 H L = some x := by
  cases e : FDB P g se h kn x0 H L with
  | some x => exact ⟨x, rfl⟩
  | none =>
    rcases hL with ⟨a, _⟩ | ⟨_, ⟨y, y1, y2⟩, _⟩
    · omega
    · rw [show L.toNat = (L - 1).toNat + 1 by omega] at y1
      obtain ⟨z', ⟨m, hm, hz⟩, z2⟩ := rcx_first.mp y1
      have a := fdf_none_no hP (by omega) e hm
      rw [(hH _ m).mpr ⟨hm, z', hz, y, z2, y2⟩] at a
      cases a
/-- what is told is as long as it says -/
theorem rtp15 : ∀ (D : Nat) {f v2 v3 : Int} {u : Wd}, PC (f_R_tellPairs D f v2 v3 u) (fun r v => (r = 0 ∨ r = 1) ∧ (r = 1 → v 43 15 = imax 0 (v 43 52))) := by
  intro D
  induction D with
  | zero => intros; exact pc_none
  | succ D ih =>
    intro f v2 v3 u
    rw [f_R_tellPairs]
    unfold f_R_tellPairs_b f_R_tellPairs_59
    have l31 : ∀ (n : Nat) {v5 : Int} {u : Wd}, 0 ≤ v5 → v5 ≤ imax 0 (u 43 52) → u 43 15 = v5 → PC (f_R_tellPairs_31 (f_R_tellPairs D) n v5 u) (fun r v => (r = 0 ∨ r = 1) ∧ (r = 1 → v 43 15 = imax 0 (v 43 52))) := by
      intro n
      induction n with
      | zero => intros; exact pc_none
      | succ n ihn =>
        intro v5 u i5 i5' h15
        rw [f_R_tellPairs_31]
        have im := imax_sp 0 (u 43 52)
        refine pc_ite (fun c => pc_some ⟨Or.inr rfl, fun _ => by omega⟩) (fun c => pc_gd (fun hg => ?_))
        refine pc_call (rt15 _ u) (fun r15 u16 q => pc_let (fun x17 e17 => ?_))
        have q1 := q.1
        have q2 := q.2 43 52 (by decide) (by decide)
        rw [w32_id (by omega)] at e17
        exact ihn (by omega) (by rw [q2]; omega) (by omega)
    have l62 : ∀ (n : Nat) {v5 : Int} {u : Wd}, PC (f_R_tellPairs_62 (f_R_tellPairs D) n v2 v3 v5 u) (fun r v => (r = 0 ∨ r = 1) ∧ (r = 1 → v 43 15 = imax 0 (v 43 52))) := by
      intro n
      induction n with
      | zero => intros; exact pc_none
      | succ n ihn =>
        intro v5 u
        rw [f_R_tellPairs_62]
        unfold f_R_tellPairs_206
        refine pc_ite (fun _ => pc_some ⟨Or.inl rfl, fun e => absurd e (by decide)⟩) (fun _ => pc_gd (fun _ => pc_call (pcTT _) (fun _ u4 _ => pc_ite (fun _ => pc_let (fun _ _ => ihn)) (fun _ => ?_))))
        have l90 : ∀ (k : Nat) {v6 : Int} {u : Wd}, PC (f_R_tellPairs_90 (f_R_tellPairs D) (f_R_tellPairs_62 (f_R_tellPairs D) n) k v2 v3 v5 v6 u) (fun r v => (r = 0 ∨ r = 1) ∧ (r = 1 → v 43 15 = imax 0 (v 43 52))) := by
          intro k
          induction k with
          | zero => intros; exact pc_none
          | succ k ihk =>
            intro v6 u
            rw [f_R_tellPairs_90]
            unfold f_R_tellPairs_206 f_R_tellPairs_200
            refine pc_ite (fun _ => pc_let (fun _ _ => ihn)) (fun _ => pc_gd (fun _ => pc_call (pcTT _) (fun _ _ _ => pc_ite (fun _ => pc_let (fun _ _ => ihk)) (fun _ => pc_gd (fun _ => pc_ite (fun _ => pc_gd (fun _ => pc_lw (fun _ _ => pc_lw (fun _ _ => pc_call ih (fun r11 u12 q => ?_))))) (fun _ => pc_let (fun _ _ => ihk)))))))
            refine pc_ite (fun _ => pc_lw (fun _ _ => pc_let (fun _ _ => ihk))) (fun c => pc_some ⟨Or.inr rfl, fun _ => q.2 ?_⟩)
            rcases q.1 with e | e
            · exact absurd e c
            · exact e
        exact l90 FU
    refine pc_call (pcTT _) (fun r1 u2 _ => pc_ite (fun _ => l62 FU) (fun _ => pc_gd (fun _ => pc_ite (fun _ => l62 FU) (fun _ => pc_lw (fun u14 e14 => ?_)))))
    have h15 : u14 43 15 = 0 := by rw [e14, st_eq]
    have im := imax_sp 0 (u14 43 52)
    exact l31 FU (by decide) (by omega) h15
theorem rbs_pc {P g se : Int} {h kn : Nat → Int} {x0 : Int} {u : Wd} {H : Nat → Int → Bool} (hP : 0 ≤ P ∧ P ≤ 10) (hg : 1 ≤ g ∧ g ≤ 3) (h0 : WH x0 (sof x0) P) (hH : ∀ n, HIT P g se h kn x0 n (H n)) (hrc : RLC P g se h kn x0 u) (hG : G [] u u) (c0 : u 43 0 = P) (c10 : u 43 10 = g) (c11 : u 43 11 = se) (c45 : ∀ j : Nat, (j : Int) < P → u 45 j = kn j ∧ 0 ≤ kn j ∧ kn j ≤ 1023) : PC (jcall (f_R_all u) fun r4 u5 => jcall (f_R_findLife r4 u5) fun r6 u7 => jgd ((0 : Int) ≤ (0 : Int) ∧ (0 : Int) < 3000) <| if (1 : Int) ≤ (u7 71 (0 : Int).toNat) then jcall (f_R_findNext u7) fun r8 u9 => f_R_begin2_43 FU 0 u9 else some ((-2), u7)) (fun r v => SZK (∃ L, LWQ P g se h kn x0 L ∧ L ≤ 0) (u 43 15) r (v 43 15)) := by
  obtain ⟨hr, hcod, hnm⟩ := hrc
  obtain ⟨X, hx⟩ := rli_x hP hr
  have hn1 := hr.1
  have hall := b10_all hP
  have lf := flf_pc (ok := sbg P) hP c0 hr hx hall (fun x => by
    constructor
    · rintro ⟨k, hk, hgk⟩
      refine ⟨k, hk, hgk, decide_eq_true ?_⟩
      unfold gs at hgk
      rw [Bool.and_eq_true] at hgk
      exact inP_t hgk.1
    · rintro ⟨k, hk, hgk, _⟩; exact ⟨k, hk, hgk⟩) (fun x z n y hv hs _ hn hy => by
    obtain ⟨m, _, hw⟩ := hs
    exact sbg_back hP (wh_sof hw hP.2) hn hy) (fun x z hv hgu hs => ls_gs hP hg hv hs hgu)
  unfold f_R_all
  rw [jc_s, c0]
  refine pc_call (pc_and lf (pc_ok (s_R_findLife (g_self hG) hall.1))) (fun r6 u7 q => ?_)
  obtain ⟨⟨q1, q2⟩, _, q3⟩ := q
  have g7 : G [] u7 u7 := g_self q3
  have l0 := lfq_lwq (q2 0 (by omega))
  rw [(xok_0 hP h0 hr hx (by omega)).mpr rfl] at l0
  refine pc_gd (fun _ => ?_)
  refine pc_ite (fun c => ?_) (fun c => ?_)
  rotate_left
  · have c' : ¬ (1 : Int) ≤ u7 71 0 := c
    exact pc_some (Or.inl ⟨⟨u7 71 0, l0, by omega⟩, congrFun (q1 43 (by decide) (by decide) (by decide)) 15⟩)
  have c' : (1 : Int) ≤ u7 71 0 := c
  have x43 : u7 43 = u 43 := q1 43 (by decide) (by decide) (by decide)
  have x63 : u7 63 = u 63 := q1 63 (by decide) (by decide) (by decide)
  have hr7 : RLI P g se h kn x0 u7 := rli_eq hr (by rw [x43]) x63 (q1 64 (by decide) (by decide) (by decide)) (q1 65 (by decide) (by decide) (by decide))
  refine pc_call (pc_and (fnx_pc h0 hr7) (pc_ok (s_R_findNext (g_self g7)))) (fun r8 u9 z => ?_)
  obtain ⟨⟨z1, z2⟩, _, z3⟩ := z
  have g9 : G [] u9 u9 := g_self z3
  have y43 : u9 43 = u7 43 := z1 43 (by decide)
  have y71 : u9 71 = u7 71 := z1 71 (by decide)
  refine b43_pc (b := u9) (fun t ht => ?_) (fun v hv gv hfl => ?_) FU (by decide) g9 (fun _ _ => rfl) (fun t ht => by omega)
  · rw [y43] at ht
    rcases z2 t ht with ⟨a, _⟩ | ⟨a, _⟩
    · exact Or.inr a
    · exact Or.inl a
  · -- all that stands in v
    have fr : ∀ c, c ≠ 71 → c ≠ 72 → c ≠ 73 → c ≠ 74 → c ≠ 76 → v c = u c := fun c a1 a2 a3 a4 a5 => (hv c a4).trans ((z1 c a5).trans (q1 c a1 a2 a3))
    have v43 : v 43 = u 43 := fr 43 (by decide) (by decide) (by decide) (by decide) (by decide)
    have v45 : v 45 = u 45 := fr 45 (by decide) (by decide) (by decide) (by decide) (by decide)
    have v63 : v 63 = u 63 := fr 63 (by decide) (by decide) (by decide) (by decide) (by decide)
    have v67 : v 67 = u 67 := fr 67 (by decide) (by decide) (by decide) (by decide) (by decide)
    unfold f_R_tellFirst
    have hld := load_pc (P := P) (s := sof x0) (w := v) (t := 0) hP (by rw [v43]; exact c0) h0.2.2 (by rw [v63]; exact hr.2.2.2.2.1)
    change PC (f_R_load 0 v) _ at hld
    refine pc_call (pc_and hld (pc_ok (s_R_load (g_self gv) (by decide)))) (fun r1 u2 y => ?_)
    obtain ⟨⟨y1, y2⟩, _, y3⟩ := y
    have g2 : G [] u2 u2 := g_self y3
    refine pc_lw (fun u3 e3 => ?_)
    have g3 : G [4352] u2 u3 := g_st (g_self g2) e3 rfl rfl (show (0 : Int) ≤ 0 ∧ (0 : Int) ≤ 10 by decide)
    have ro : ∀ c, c ≠ 43 → c ≠ 68 → u3 c = v c := fun c a b => by rw [e3, st_row a]; exact y2 c b
    have rk : ∀ k, k ≠ 52 → u3 43 k = u 43 k := fun k hk => by rw [e3, st_k hk, y2 43 (by decide), v43]
    have t63 : u3 63 = u 63 := (ro 63 (by decide) (by decide)).trans v63
    have t67 : u3 67 = u 67 := (ro 67 (by decide) (by decide)).trans v67
    have t74 : u3 74 = v 74 := ro 74 (by decide) (by decide)
    -- where what follows stands
    have at_ : ∀ m, MVS P g se h kn (sof x0) m → ∃ (t : Nat) (y : Int), (t : Int) < u 43 40 ∧ Fnd u3 (cdf (nis P (sof x0) g (bt m)) P.toNat) t ∧ WH y (nis P (sof x0) g (bt m)) P ∧ SUX P g se h kn x0 y ∧ X t = y ∧ u 63 t = cdx P y := fun m hm => by
      obtain ⟨y, _, hy⟩ := after_e (v := m) h0 hP hg (b10_self (mvs_who hP hm).1) (mvs_ok hP hm) u
      have hsx : SUX P g se h kn x0 y := ⟨m, hm, hy⟩
      obtain ⟨t, ht, et⟩ := hx.2 y ⟨rx_wh hP h0 (t := 1) (x := y) ⟨x0, rfl, hsx⟩, 1, x0, rfl, hsx⟩
      have e63 := (hx.1 t ht).2
      rw [et] at e63
      have hf := hcod.1 t ht
      rw [e63, cdx_wh hP hy] at hf
      exact ⟨t, y, ht, (fnd_w t63 t67).mpr hf, hy, hsx, et, e63⟩
    have hHL := hH (u7 71 0 - 1).toNat
    have rtp15x : PC (f_R_tellPairs 16 0 0 0 u3) (fun r v => (r = 0 ∨ r = 1) ∧ (r = 1 → v 43 15 = imax 0 (v 43 52))) := rtp15 16
    obtain ⟨x, ex⟩ := fdb_ex hP hH l0 c'
    refine pc_call (pc_and rtp15x (rtp_pc (P := P) (g := g) (se := se) (s := sof x0) (h := h) (kn := kn) (b := u3) (hit := H (u7 71 0 - 1).toNat) hP hg.2 (by rw [rk 0 (by decide)]; exact c0) (by rw [rk 10 (by decide)]; exact c10) (by rw [rk 11 (by decide)]; exact c11) (fun j hj => by rw [ro 45 (by decide) (by decide), v45]; exact c45 j hj) (by rw [rk 44 (by decide)]; exact hnm) (fun k hk => by rw [e3, st_c (by decide)]; exact y1 k hk) h0.2.2 (fun m hm => ?_) (fun m hm t hft => ?_) (fun d f m hm hd hs => ?_) 16 (d := 0) (f := 0) (v2 := 0) (v3 := 0) (m := 0) (u := u3) 12 ⟨g_self g3, fun _ _ _ _ => rfl, fun _ _ _ => rfl⟩ ⟨rfl, rfl⟩ (by decide) (by decide) (by decide) ⟨fun _ => rfl, fun _ => rfl⟩ (fun _ _ _ => rfl) (by omega) (by rw [e3, st_eq]; rfl))) (fun r4 u5 q => pc_some (Or.inr ⟨fun ⟨L, l1, l2⟩ => by have := lwq_one hP h0 l1 l0; omega, ?_⟩))
    · obtain ⟨t, y, a1, a2, _⟩ := at_ m hm
      exact ⟨t, by rw [rk 40 (by decide)]; exact a1, a2⟩
    · obtain ⟨t', y, a1, a2, a3, a4, a5, a6⟩ := at_ m hm
      have et : t = t' := fnd_one hft a2
      rw [et, t74]
      have ht9 : (t' : Int) < u9 43 40 := by rw [y43, x43]; exact a1
      have b71 : (-1 : Int) ≤ u7 71 0 ∧ u7 71 0 ≤ 2147483647 := g7.1 71 0
      rw [hfl t' ht9, y71, w32_id (show -2147483648 ≤ u7 71 0 - 1 ∧ u7 71 0 - 1 ≤ 2147483647 by omega)]
      have lt := lfq_lwq (q2 t' a1)
      rw [a5] at lt
      have on := lwq_on hP h0 l0 c' a4 lt
      have e76 : u9 76 t' = 1 := by
        rcases z2 t' (by rw [x43]; exact a1) with ⟨b, _⟩ | ⟨_, b⟩
        · exact b
        · exact absurd (by rw [x63]; exact a6) (b y a4)
      rw [hHL m]
      constructor
      · rintro ⟨_, z', hz, hh⟩
        rw [wh_inj hz a3 (fun _ _ => rfl)] at hh
        exact ⟨on.mpr hh, e76⟩
      · rintro ⟨b, _⟩
        exact ⟨hm, y, a3, on.mp b⟩
    · cases e : H (u7 71 0 - 1).toNat m with
      | false => rfl
      | true => exact absurd (hit_no hP hHL d f m hm hd e) hs
    · have fs := fdf_se (P := P) (se := se) (kn := kn) hP (hit_no hP hHL) 12 (d := 0) (f := 0) (m := 0) ⟨rfl, rfl⟩
      rw [if_pos (Or.inl rfl)] at fs
      unfold FDB at ex
      rw [ex] at fs
      rcases q.2 with ⟨b, _⟩ | ⟨x', b1, b2, b3⟩
      · rw [fs] at b; cases b
      · have q15 := q.1.2 b2
        have im := imax_sp 0 (u5 43 52)
        omega
theorem sr_begin {a w : Wd} {P g se : Int} {h kn : Nat → Int} {x0 : Int} (hp : PRM a w P g se h kn x0) (hG : G [] a a) : PC (f_R_begin2 a) (fun r u => SZK (MNY P g se h kn x0 ∨ ∃ L, LWQ P g se h kn x0 L ∧ L ≤ 0) (a 43 15) r (u 43 15)) := by
  obtain ⟨hP, hg, h0, _, ⟨c0, c10, c11⟩, c47, c45, _⟩ := id hp
  obtain ⟨H, hH⟩ := hit_ex P g se h kn x0
  unfold f_R_begin2
  refine pc_lw (fun y ey => pc_call (rfs hp hG ey) (fun r2 u q => ?_))
  rcases q.2 with ⟨e, m⟩ | ⟨e, l, m⟩
  · exact pc_ite (fun _ => pc_some (Or.inl ⟨Or.inl m, q.1.1.1⟩)) (fun c => absurd e c)
  · refine pc_ite (fun c => by omega) (fun _ => ?_)
    have u0 : ∀ k, k ≠ 16 → k ≠ 40 → k ≠ 41 → k ≠ 44 → u 43 k = a 43 k := fun k a1 a2 a3 a4 => by rw [q.1.2.1.2 k a2 a3 a4, ey, st_k a1]
    refine pc_w (rbs_pc hP hg h0 hH l q.1.2.2 (by rw [u0 0 (by decide) (by decide) (by decide) (by decide)]; exact c0) (by rw [u0 10 (by decide) (by decide) (by decide) (by decide)]; exact c10) (by rw [u0 11 (by decide) (by decide) (by decide) (by decide)]; exact c11) (fun j hj => ?_)) (fun r v z => ?_)
    · rw [q.1.2.1.1 45 (by decide) (by decide) (by decide) (by decide) (by decide) (by decide) (by decide), ey, st_row (by decide)]
      exact c45 j hj
    · have k : u 43 15 = a 43 15 := q.1.1.1
      rw [k] at z
      exact szk_or m z
/-! CHEAP: looking back, and the first WEEK, with what is paid -/
def OKP (P g se : Int) (h kn : Nat → Int) (ok : Int → Prop) (x word : Int) : Prop := ∀ n, n < 61 → (b6 word n = true ↔ ∃ y, RCX P g se h kn x n y ∧ ok y)
theorem lbp_pc {ok : Int → Prop} {P g se : Int} {h kn : Nat → Int} {x0 : Int} {u : Wd} {k : Int} (hP : 0 ≤ P ∧ P ≤ 10) (hg : 1 ≤ g ∧ g ≤ 3) (hw : CW P g se h kn x0 u) (hT : TC u) (hk : 0 ≤ k ∧ k < u 28 7) (hx : WH (u 30 k.toNat) (sof (u 30 k.toNat)) P) (hcl : ∀ y, SUX P g se h kn (u 30 k.toNat) y → ∃ j : Nat, (j : Int) < u 28 7 ∧ u 30 j = y) (hpr : sbg P (u 30 k.toNat) → ∀ j : Nat, (j : Int) < u 28 7 → SUX P g se h kn (u 30 k.toNat) (u 30 j) → OKP P g se h kn ok (u 30 j) (u 32 j)) (hr : ROK u) (hlt : u 24 4 < 2147483647) : PC (f_S_leftBehind k u) (fun r v => (FXx u v ∧ ROK v ∧ v 24 4 ≤ u 24 4 + 1) ∧ ((¬ sbg P (u 30 k.toNat) ∧ r = 0) ∨ (sbg P (u 30 k.toNat) ∧ ∀ n, n < 61 → (b6 r n = true ↔ ∃ z, SUX P g se h kn (u 30 k.toNat) z ∧ ∃ y, RCX P g se h kn z n y ∧ ok y)))) := by
  unfold f_S_leftBehind
  refine pc_call (sgu_pc hk hx) (fun r1 u2 q => ?_)
  rw [q.1]
  have sb := sbg_0 q.2
  refine pc_ite (fun c => pc_some ⟨⟨fun _ _ _ _ _ => rfl, hr, by omega⟩, Or.inl ⟨fun hh => sb.mpr hh c, rfl⟩⟩) (fun c => pc_gd (fun _ => ?_))
  have hsb := sb.mp c
  obtain ⟨w3, w5, w7, w8, w4, wk⟩ := hw
  rw [w8]
  refine pc_call (gat_pc (kn := kn) hP hx w3 w5 hg w7 wk hr hlt) (fun r3 u4 z => ?_)
  obtain ⟨z1, ⟨z2, z3⟩, z4, z5, z6⟩ := z
  have y28 : u4 28 = u 28 := z1 28 (by decide) (by decide) (by decide) (by decide)
  have y29 : u4 29 = u 29 := z1 29 (by decide) (by decide) (by decide) (by decide)
  have y30 : u4 30 = u 30 := z1 30 (by decide) (by decide) (by decide) (by decide)
  have y32 : u4 32 = u 32 := z1 32 (by decide) (by decide) (by decide) (by decide)
  have y5 : u4 5 = u 5 := z1 5 (by decide) (by decide) (by decide) (by decide)
  have hT4 : TC u4 := tc_eq hT y29 y30 (by rw [y28])
  have h252 : u4 24 3 ≤ 256 := by
    have hz := z5.1
    have := mov_few hP (gs_fre (P := P) (s := sof (u 30 k.toNat)) (h := h)) (n := (u4 24 3).toNat) (F := u4 25) (fun j hj => (z5.2.1 j (by omega)).2) (fun i j hi hj e => z5.2.2.1 i j (by omega) (by omega) e)
    omega
  have l29 : ∀ (n : Nat) {v4 v6 : Int}, 0 ≤ v6 → v6 ≤ u4 24 3 → (∀ t, t < 61 → (b6 v4 t = true ↔ ∃ i : Nat, (i : Int) < v6 ∧ ∃ z, WH z (nis P (sof (u 30 k.toNat)) g (bt (u4 25 i))) P ∧ ∃ y, RCX P g se h kn z t y ∧ ok y)) → PC (f_S_leftBehind_29 n k v4 v6 u4) (fun r v => (FXx u v ∧ ROK v ∧ v 24 4 ≤ u 24 4 + 1) ∧ ((¬ sbg P (u 30 k.toNat) ∧ r = 0) ∨ (sbg P (u 30 k.toNat) ∧ ∀ n, n < 61 → (b6 r n = true ↔ ∃ z, SUX P g se h kn (u 30 k.toNat) z ∧ ∃ y, RCX P g se h kn z n y ∧ ok y)))) := by
    intro n
    induction n with
    | zero => intros; exact pc_none
    | succ n ih =>
      intro v4 v6 i6 i6' hA
      rw [f_S_leftBehind_29]
      refine pc_ite (fun c6 => pc_some ⟨⟨z1, z3, by omega⟩, Or.inr ⟨hsb, fun t ht => ?_⟩⟩) (fun c6 => pc_gd (fun _ => ?_))
      · rw [hA t ht]
        constructor
        · rintro ⟨i, hi, z', hz, y, hy⟩
          exact ⟨z', ⟨_, (z5.2.1 i (by omega)).2, hz⟩, y, hy⟩
        · rintro ⟨z', ⟨m, hm, hz⟩, y, hy⟩
          obtain ⟨i, hi, ei⟩ := z6 m hm
          exact ⟨i, by omega, z', by rw [ei]; exact hz, y, hy⟩
      · refine pc_call (mo_pc (k := v6) (u := u4) (by omega)) (fun r5 u6 q5 => ?_)
        rw [q5.1, q5.2, y5, w7, y30]
        have hm := (z5.2.1 v6.toNat (by omega)).2
        obtain ⟨y, ey, hy⟩ := after_e (v := u4 25 v6.toNat) hx hP hg (b10_self (mvs_who hP hm).1) (mvs_ok hP hm) u4
        rw [ey, jc_s]
        refine pc_call (lof_pc (z := y) hT4) (fun r9 u10 q9 => pc_let (fun x11 e11 => pc_let (fun x12 e12 => ?_)))
        rw [w32_id (by omega)] at e12
        rw [q9.1, e11, e12]
        have hsx : SUX P g se h kn (u 30 k.toNat) y := ⟨_, hm, hy⟩
        have hex := q9.2 (by rw [y28, y30]; exact hcl y hsx)
        obtain ⟨j, j1, j2, j3⟩ := hex
        rw [y28] at j1
        rw [y30] at j2
        rw [y32] at j3
        have ok := hpr hsb j j1 (by rw [j2]; exact hsx)
        rw [j2, ← j3] at ok
        refine ih (by omega) (by omega) (fun t ht => ?_)
        rw [b6_or, Bool.or_eq_true, hA t ht, ok t ht]
        constructor
        · rintro (⟨i, hi, hh⟩ | hh)
          · exact ⟨i, by omega, hh⟩
          · exact ⟨v6.toNat, by omega, y, hy, hh⟩
        · rintro ⟨i, hi, z', hz, hh⟩
          by_cases ci : (i : Int) < v6
          · exact Or.inl ⟨i, ci, z', hz, hh⟩
          · rw [show i = v6.toNat by omega] at hz
            rw [wh_inj hz hy (fun _ _ => rfl)] at hh
            exact Or.inr hh
  exact l29 FU (by decide) z5.1 (fun t _ => by
    rw [b6_0]
    exact ⟨(fun hh => by cases hh), (fun ⟨i, hi, _⟩ => by omega)⟩)
theorem okp_b {ok : Int → Prop} {P g se : Int} {h kn : Nat → Int} {x r : Int} (hs : ok x) (hr : ∀ n, n < 61 → (b6 r n = true ↔ ∃ z, SUX P g se h kn x z ∧ ∃ y, RCX P g se h kn z n y ∧ ok y)) : OKP P g se h kn ok x (lor 1 (lshl r 1)) := by
  intro n hn
  rw [b6_or, b6_1 (by omega), b6_shl (by omega)]
  cases n with
  | zero =>
    constructor
    · intro _; exact ⟨x, rfl, hs⟩
    · intro _; rfl
  | succ n =>
    rw [decide_eq_false (show ¬ n + 1 = 0 by omega), decide_eq_true (show 1 ≤ n + 1 by omega), Bool.false_or, Bool.true_and, show n + 1 - 1 = n by omega, hr n (by omega)]
    constructor
    · rintro ⟨z, hz, y, hy, hsy⟩; exact ⟨y, rcx_first.mpr ⟨z, hz, hy⟩, hsy⟩
    · rintro ⟨y, hy, hsy⟩
      obtain ⟨z, hz, hy2⟩ := rcx_first.mp hy
      exact ⟨z, hz, y, hy2, hsy⟩
theorem okp_0 {ok : Int → Prop} {P g se : Int} {h kn : Nat → Int} {x r : Int} (hs : ¬ ok x) (hr : ∀ n, n < 61 → (b6 r n = true ↔ ∃ z, SUX P g se h kn x z ∧ ∃ y, RCX P g se h kn z n y ∧ ok y)) : OKP P g se h kn ok x (lor 0 (lshl r 1)) := by
  intro n hn
  rw [b6_or, b6_0, b6_shl (by omega), Bool.false_or]
  cases n with
  | zero =>
    constructor
    · intro e
      rw [decide_eq_false (show ¬ 1 ≤ 0 by decide), Bool.false_and] at e
      cases e
    · rintro ⟨y, hy, hsy⟩
      have e : y = x := hy
      rw [e] at hsy
      exact absurd hsy hs
  | succ n =>
    rw [decide_eq_true (show 1 ≤ n + 1 by omega), Bool.true_and, show n + 1 - 1 = n by omega, hr n (by omega)]
    constructor
    · rintro ⟨z, hz, y, hy, hsy⟩; exact ⟨y, rcx_first.mpr ⟨z, hz, hy⟩, hsy⟩
    · rintro ⟨y, hy, hsy⟩
      obtain ⟨z, hz, hy2⟩ := rcx_first.mp hy
      exact ⟨z, hz, y, hy2, hsy⟩
theorem okp_no {ok : Int → Prop} {P g se : Int} {h kn : Nat → Int} {x : Int} (hP : 0 ≤ P ∧ P ≤ 10) (hx : WH x (sof x) P) (hok : ∀ y, ok y → sbg P y) (hs : ¬ sbg P x) : OKP P g se h kn ok x (lor 0 (lshl 0 1)) := by
  intro n hn
  rw [b6_or, b6_0, b6_shl (by omega), b6_0, Bool.and_false, Bool.or_false]
  exact ⟨(fun hh => by cases hh), fun ⟨y, hy, hsy⟩ => absurd (sbg_back hP hx hy (hok y hsy)) hs⟩
def PAI (P : Int) (pr : Nat → Int) (x0 p y : Int) : Prop := sbg P y ∧ csf P pr x0 y = p
theorem lkp_pc {P g se : Int} {h kn pr : Nat → Int} {x0 p : Int} {u0 : Wd} (hP : 0 ≤ P ∧ P ≤ 10) (hg : 1 ≤ g ∧ g ≤ 3) (h0 : WH x0 (sof x0) P) (hS : SRC P g se h kn x0 u0) (hw : CW P g se h kn x0 u0) (hp1 : p ≠ -1) (h6 : ∀ j : Nat, (j : Int) < P → u0 6 j = pr j ∧ 0 ≤ pr j ∧ pr j ≤ 9) (hr : ROK u0) (hlt : u0 24 4 ≤ 2147470000) : PC (f_S_lookBack 0 p u0) (fun _ u => (∀ c, c ≠ 24 → c ≠ 25 → c ≠ 26 → c ≠ 27 → c ≠ 32 → u c = u0 c) ∧ (ROK u ∧ u 24 4 ≤ u0 24 4 + 3000) ∧ ∀ k : Nat, (k : Int) < u0 28 7 → OKP P g se h kn (PAI P pr x0 p) (u0 30 k) (u 32 k)) := by
  have hcl0 := src_cli hP h0 hS
  obtain ⟨⟨hT, hre⟩, hX, hC, hO, hPr, hK⟩ := hS
  obtain ⟨⟨o0, o1⟩, o2, o3⟩ := hO
  have b7 := hT.2.2.1
  have whk : ∀ k : Nat, (k : Int) < u0 28 7 → WH (u0 30 k) (sof (u0 30 k)) P := fun k hk => by
    obtain ⟨t, ht⟩ := (hre k hk).1
    exact rx_wh hP h0 ht
  have l8 : ∀ (n : Nat) {v5 : Int} {u : Wd}, -1 ≤ v5 → v5 < u0 28 8 → (∀ c, c ≠ 24 → c ≠ 25 → c ≠ 26 → c ≠ 27 → c ≠ 32 → u c = u0 c) → ROK u → u 24 4 ≤ u0 24 4 + (u0 28 8 - 1 - v5) → (∀ j : Nat, v5 < (j : Int) → (j : Int) < u0 28 8 → OKP P g se h kn (PAI P pr x0 p) (u0 30 (u0 35 j).toNat) (u 32 (u0 35 j).toNat)) → PC (f_S_lookBack_8 n 0 p v5 u) (fun _ u => (∀ c, c ≠ 24 → c ≠ 25 → c ≠ 26 → c ≠ 27 → c ≠ 32 → u c = u0 c) ∧ (ROK u ∧ u 24 4 ≤ u0 24 4 + 3000) ∧ ∀ k : Nat, (k : Int) < u0 28 7 → OKP P g se h kn (PAI P pr x0 p) (u0 30 k) (u 32 k)) := by
    intro n
    induction n with
    | zero => intros; exact pc_none
    | succ n ih =>
      intro v5 u i5 i5' hu hru hlu hA
      rw [f_S_lookBack_8]
      refine pc_ite (fun c => pc_some ⟨hu, ⟨hru, by omega⟩, fun k hk => ?_⟩) (fun c => pc_gd (fun _ => pc_let (fun x2 e2 => ?_)))
      · obtain ⟨j, hj, ej⟩ := hPr k hk
        have := hA j (by omega) hj
        rw [ej, show ((k : Nat) : Int).toNat = k by omega] at this
        exact this
      · rw [hu 35 (by decide) (by decide) (by decide) (by decide) (by decide)] at e2
        have b2 := o2 v5.toNat (by omega)
        rw [← e2] at b2
        have hx := whk x2.toNat (by omega)
        have u28 : u 28 = u0 28 := hu 28 (by decide) (by decide) (by decide) (by decide) (by decide)
        have u30 : u 30 = u0 30 := hu 30 (by decide) (by decide) (by decide) (by decide) (by decide)
        have u5 : u 5 = u0 5 := hu 5 (by decide) (by decide) (by decide) (by decide) (by decide)
        have u7 : u 7 = u0 7 := hu 7 (by decide) (by decide) (by decide) (by decide) (by decide)
        have hTu : TC u := tc_eq hT (hu 29 (by decide) (by decide) (by decide) (by decide) (by decide)) u30 (by rw [u28])
        have hwu : CW P g se h kn x0 u := by unfold CW at hw ⊢; rw [u5, u7]; exact hw
        have hxu : WH (u 30 x2.toNat) (sof (u 30 x2.toNat)) P := by rw [u30]; exact hx
        -- what is written
        have w79 : ∀ {s0 : Int}, ((s0 = 0 ∧ ¬ PAI P pr x0 p (u0 30 x2.toNat)) ∨ (s0 = 1 ∧ PAI P pr x0 p (u0 30 x2.toNat))) → PC (f_S_lookBack_79 (f_S_lookBack_8 n) 0 p v5 x2 s0 u) (fun _ u => (∀ c, c ≠ 24 → c ≠ 25 → c ≠ 26 → c ≠ 27 → c ≠ 32 → u c = u0 c) ∧ (ROK u ∧ u 24 4 ≤ u0 24 4 + 3000) ∧ ∀ k : Nat, (k : Int) < u0 28 7 → OKP P g se h kn (PAI P pr x0 p) (u0 30 k) (u 32 k)) := fun {s0} hs0 => by
          unfold f_S_lookBack_79
          refine pc_call (lbp_pc (ok := PAI P pr x0 p) (x0 := x0) hP hg hwu hTu (by rw [u28]; exact b2) hxu (fun y hy => ?_) (fun hsb j hj hsj => ?_) hru (by omega)) (fun r5 u6 q => ?_)
          · rw [u30] at hy
            obtain ⟨j, j1, j2, _⟩ := hC x2.toNat (by omega) y hy
            exact ⟨j, by rw [u28]; exact j1, by rw [u30]; exact j2⟩
          · rw [u28] at hj
            rw [u30] at hsj hsb ⊢
            obtain ⟨p, hp, ep⟩ := hPr j hj
            have rk := sx_rank hP hg hx hsj hsb
            have hpv : v5 < (p : Int) := by
              refine Classical.byContradiction fun hh => ?_
              by_cases c1 : p = v5.toNat
              · rw [c1, ← e2] at ep
                rw [show j = x2.toNat by omega] at rk
                omega
              · have := hK p v5.toNat (by omega) (by omega)
                rw [ep, ← e2, show ((j : Nat) : Int).toNat = j by omega] at this
                unfold rkx at this
                omega
            have := hA p hpv hp
            rw [ep, show ((j : Nat) : Int).toNat = j by omega] at this
            exact this
          · obtain ⟨⟨q1, q2, q3⟩, q4⟩ := q
            refine pc_gd (fun _ => pc_lw (fun u7' e7 => pc_let (fun x8 e8 => ?_)))
            rw [w32_id (by omega)] at e8
            rw [e8]
            rw [u30] at q4
            have fr : ∀ c, c ≠ 24 → c ≠ 25 → c ≠ 26 → c ≠ 27 → c ≠ 32 → u7' c = u0 c := fun c a1 a2 a3 a4 a5 => by rw [e7, st_row a5, q1 c a1 a2 a3 a4, hu c a1 a2 a3 a4 a5]
            have r24 : u7' 24 = u6 24 := by rw [e7, st_row (by decide)]
            have r27 : u7' 27 = u6 27 := by rw [e7, st_row (by decide)]
            have r32 : u6 32 = u 32 := q1 32 (by decide) (by decide) (by decide) (by decide)
            refine ih (by omega) (by omega) fr (by unfold ROK; rw [r24, r27]; exact q2) (by rw [r24]; omega) (fun j hj1 hj2 => ?_)
            by_cases cj : (j : Int) = v5
            · rw [show j = v5.toNat by omega, ← e2, e7, st_eq]
              rcases q4 with ⟨a1, a2⟩ | ⟨a1, a2⟩
              · rcases hs0 with ⟨b1, _⟩ | ⟨_, b2'⟩
                · rw [b1, a2]; exact okp_no hP hx (fun _ hy => hy.1) a1
                · exact absurd b2'.1 a1
              · rcases hs0 with ⟨b1, b2'⟩ | ⟨b1, b2'⟩
                · rw [b1]; exact okp_0 b2' a2
                · rw [b1]; exact okp_b b2' a2
            · have ne : (u0 35 j).toNat ≠ x2.toNat := fun hh => by
                have b3 := o2 j hj2
                have := o3 j v5.toNat hj2 (by omega) (by rw [← e2]; omega)
                omega
              rw [e7, st_k ne, r32]
              exact hA j (by omega) hj2
        refine pc_call (sgu_pc (w := u) (s := x2) (by rw [u28]; exact b2) hxu) (fun r3 u4 q => ?_)
        rw [q.1]
        have sb := sbg_0 q.2
        rw [u30] at sb
        unfold f_S_lookBack_48 f_S_lookBack_49 f_S_lookBack_78 f_S_lookBack_74
        refine pc_ite (fun c3 => pc_ite (fun _ => w79 (Or.inl ⟨rfl, fun hh => sb.mpr hh.1 c3⟩)) (fun e => absurd rfl e)) (fun c3 => ?_)
        refine pc_call (sgu_pc (w := u) (s := x2) (by rw [u28]; exact b2) hxu) (fun r11 u12 q' => ?_)
        rw [q'.1]
        have iz : iand 0 (ixor r11 (-1)) = 0 := by have := iand_l (x := 0) (y := ixor r11 (-1)) (by decide); omega
        refine pc_ite (fun _ => pc_ite (fun e => absurd e (by decide)) (fun _ => pc_ite (fun e => absurd e hp1) (fun _ => ?_))) (fun e => absurd iz e)
        have hcu : CLI P g se h kn x0 u := by
          unfold CLI
          rw [u28, u30, hu 31 (by decide) (by decide) (by decide) (by decide) (by decide)]
          exact hcl0
        refine pc_call (cpf_pc hP h0 hcu (by rw [u5]; exact hw.1) (by rw [u5]; exact hw.2.2.2.2.1) (fun j hj => by rw [hu 6 (by decide) (by decide) (by decide) (by decide) (by decide)]; exact h6 j hj) (k := x2) (by rw [u28]; exact b2)) (fun r9 u10 q9 => ?_)
        rw [q9.1]
        have e9 := q9.2
        rw [u30] at e9
        exact pc_ite (fun c9 => w79 (Or.inr ⟨rfl, sb.mp c3, by omega⟩)) (fun c9 => w79 (Or.inl ⟨rfl, fun hh => c9 (by rw [e9]; exact hh.2)⟩))
  unfold f_S_lookBack
  refine pc_let (fun x1 e1 => ?_)
  rw [w32_id (by omega)] at e1
  rw [e1]
  exact l8 FU (by omega) (by omega) (fun _ _ _ _ _ _ => rfl) hr (by omega) (fun j h1 h2 => by omega)
/-- what the first WEEK leads to, so much paid -/
def HITP (P g se : Int) (h kn pr : Nat → Int) (x0 : Int) (n : Nat) (p : Int) (hit : Int → Bool) : Prop := ∀ m, hit m = true ↔ MVS P g se h kn (sof x0) m ∧ ∃ z, WH z (nis P (sof x0) g (bt m)) P ∧ ∃ y, RCX P g se h kn z n y ∧ PAI P pr x0 p y
theorem hitp_ex (P g se : Int) (h kn pr : Nat → Int) (x0 : Int) : ∃ H : Nat → Int → Int → Bool, ∀ n p, HITP P g se h kn pr x0 n p (H n p) := ⟨fun n p m => @decide (MVS P g se h kn (sof x0) m ∧ ∃ z, WH z (nis P (sof x0) g (bt m)) P ∧ ∃ y, RCX P g se h kn z n y ∧ PAI P pr x0 p y) (Classical.propDecidable _), fun n p m => @decide_eq_true_iff _ (Classical.propDecidable _)⟩
def FDC (P g se : Int) (h kn : Nat → Int) (x0 : Int) (H : Nat → Int → Int → Bool) (v1 p : Int) : Option Int := fdf P se kn (gs P (sof x0)) (fre P (sof x0) h) (sty P (sof x0) g) (H (v1 - 1).toNat p) 12 0 0
theorem ccp_pc {P g se : Int} {h kn pr : Nat → Int} {x0 v1 p : Int} {u : Wd} {H : Nat → Int → Int → Bool} (hP : 0 ≤ P ∧ P ≤ 10) (hg : 1 ≤ g ∧ g ≤ 3) (h0 : WH x0 (sof x0) P) (hH : ∀ n p, HITP P g se h kn pr x0 n p (H n p)) (hS : SRC P g se h kn x0 u) (hc : CLI P g se h kn x0 u) (hw : CW P g se h kn x0 u) (h6 : ∀ j : Nat, (j : Int) < P → u 6 j = pr j ∧ 0 ≤ pr j ∧ pr j ≤ 9) (hr : ROK u) (hlt : u 24 4 ≤ 2147470000) (hp1 : p ≠ -1) (hv : 1 ≤ v1 ∧ v1 ≤ 60) (hex : ∃ y, RCX P g se h kn x0 v1.toNat y ∧ PAI P pr x0 p y) : PC (jcall (f_S_lookBack 0 p u) fun r7 u8 => jcall (f_E_tellFirstWeek v1 u8) fun r9 u10 => some (p, u10)) (fun r v => r = p ∧ ∃ x, FDC P g se h kn x0 H v1 p = some x ∧ 2 * v 3 1 = ((pn (bt x) 10 : Nat) : Int)) := by
  refine pc_call (lkp_pc hP hg h0 hS hw hp1 h6 hr hlt) (fun r5 u6 q => ?_)
  obtain ⟨q1, ⟨q2, q3⟩, q4⟩ := q
  have y28 : u6 28 = u 28 := q1 28 (by decide) (by decide) (by decide) (by decide) (by decide)
  have y29 : u6 29 = u 29 := q1 29 (by decide) (by decide) (by decide) (by decide) (by decide)
  have y30 : u6 30 = u 30 := q1 30 (by decide) (by decide) (by decide) (by decide) (by decide)
  have y5 : u6 5 = u 5 := q1 5 (by decide) (by decide) (by decide) (by decide) (by decide)
  have y7 : u6 7 = u 7 := q1 7 (by decide) (by decide) (by decide) (by decide) (by decide)
  have hw6 : CW P g se h kn x0 u6 := by unfold CW at hw ⊢; rw [y5, y7]; exact hw
  have hT6 : TC u6 := tc_eq hS.1.1 y29 y30 (by rw [y28])
  refine pc_call (tfw_pc (hit := H (v1 - 1).toNat p) hP hg h0 hw6 hT6 (fun y hy => ?_) q2 (by omega) ⟨by omega, by omega⟩ (fun m hm y hy j hj ej => ?_) ?_) (fun r7 u8 q => pc_some ⟨rfl, q⟩)
  · obtain ⟨k, hk, ek⟩ := hc.2.2.2.1 y ⟨rx_wh hP h0 (t := 1) (x := y) ⟨x0, rfl, hy⟩, 1, x0, rfl, hy⟩
    exact ⟨k, by rw [y28]; exact hk, by rw [y30]; exact ek⟩
  · rw [y28] at hj
    rw [y30] at ej
    have ok := q4 j hj
    rw [ej] at ok
    rw [ok (v1 - 1).toNat (by omega), hH (v1 - 1).toNat p m]
    constructor
    · intro hh; exact ⟨hm, y, hy, hh⟩
    · rintro ⟨_, z', hz, hh⟩
      rw [wh_inj hz hy (fun _ _ => rfl)] at hh
      exact hh
  · obtain ⟨y, y1, y2⟩ := hex
    rw [show v1.toNat = (v1 - 1).toNat + 1 by omega] at y1
    obtain ⟨z', ⟨m, hm, hz⟩, z2⟩ := rcx_first.mp y1
    exact ⟨m, hm, (hH _ p m).mpr ⟨hm, z', hz, y, z2, y2⟩⟩
/-- the ROW's size behind cheap -/
def CHS (F : Int → Option Int) (v1 s r t : Int) : Prop := (r < 0 ∧ t = s) ∨ (0 ≤ r ∧ v1 = 0 ∧ t = 0) ∨ (0 ≤ r ∧ v1 ≠ 0 ∧ ∃ x, F r = some x ∧ 2 * t = ((pn (bt x) 10 : Nat) : Int))
theorem chsz_eq {F : Int → Option Int} {v1 s r t t' : Int} (h : CHS F v1 s r t) (h' : CHS F v1 s r t') : t = t' := by
  rcases h with ⟨a, b⟩ | ⟨a, b, c⟩ | ⟨a, b, x, c, d⟩
  · rcases h' with ⟨_, e⟩ | ⟨e, _⟩ | ⟨e, _⟩ <;> omega
  · rcases h' with ⟨e, _⟩ | ⟨_, _, e⟩ | ⟨_, e, _⟩
    · omega
    · omega
    · exact absurd b e
  · rcases h' with ⟨e, _⟩ | ⟨_, e, _⟩ | ⟨_, _, x', e, f⟩
    · omega
    · exact absurd e b
    · rw [c] at e
      have ex : x = x' := by injection e
      rw [← ex] at f
      omega
theorem se_cheap {a w : Wd} {P g se : Int} {h kn : Nat → Int} {x0 n v1 : Int} {H : Nat → Int → Int → Bool} (hp : PRM a w P g se h kn x0) (hs : SCR n w) (hn : n ≤ 2600) (hk : w 28 9 ≠ 0 → KPT P g se h kn x0 w) (hH : ∀ n p, HITP P g se h kn (a 44) x0 n p (H n p)) : PC (f_E_cheap v1 w) (fun r u => CHS (FDC P g se h kn x0 H v1) v1 (w 3 1) r (u 3 1)) := by
  obtain ⟨hP, hg, h0, hw, ⟨c0, _⟩, c47, _, _, c44, c6⟩ := id hp
  unfold f_E_cheap
  rw [isw_e, jc_s]
  by_cases hv : 0 ≤ v1 ∧ v1 ≤ 60
  · rw [if_pos hv]
    refine pc_ite (fun e => absurd e (by decide)) (fun _ => pc_call (crun2 hp hs hn hk) (fun r3 u q => ?_))
    rcases q.2 with ⟨e, hS, hc, m⟩ | ⟨e, m⟩
    · refine pc_ite (fun c => by omega) (fun _ => ?_)
      obtain ⟨u5, u6, u7⟩ := run_5 q.1.2
      have h6 : ∀ j : Nat, (j : Int) < P → u 6 j = a 44 j ∧ 0 ≤ a 44 j ∧ a 44 j ≤ 9 := fun j hj => by rw [u6]; exact ⟨c6 j hj, c44 j⟩
      have hwu : CW P g se h kn x0 u := by unfold CW at hw ⊢; rw [u5, u7]; exact hw
      refine pc_call (clp_pc (pr := a 44) hP h0 hc (by rw [u5]; exact hw.1) (by rw [u5]; exact hw.2.2.2.2.1) h6 c44 hv b10_0) (fun r5 u8 z => ?_)
      rw [z.1]
      refine pc_ite (fun e => pc_some (Or.inl ⟨by decide, ke_1 q.1.1⟩)) (fun e5 => ?_)
      rcases z.2 with ⟨b, _⟩ | ⟨⟨x, ⟨x1, x2, x3⟩, x4⟩, _⟩
      · exact absurd b e5
      · have rg := csf_rg (P := P) (pr := a 44) hP c44 x0 x
        refine pc_ite (fun c => pc_call (nclr_3 u) (fun _ _ q => pc_some (Or.inr (Or.inl ⟨by omega, c, q.1⟩)))) (fun c => ?_)
        refine pc_w (ccp_pc hP hg h0 hH hS hc hwu h6 q.1.2.2.1.1 (by have := q.1.2.2.1.2; have := hs.1.2; omega) e5 (by omega) ⟨x, x2, x3.1, x4⟩) (fun r v y => Or.inr (Or.inr ⟨by omega, c, ?_⟩))
        rw [y.1]; exact y.2
    · exact pc_ite (fun _ => pc_some (Or.inl ⟨by decide, ke_1 q.1.1⟩)) (fun c => absurd e c)
  · rw [if_neg hv]
    exact pc_ite (fun _ => pc_some (Or.inl ⟨by decide, rfl⟩)) (fun e => absurd rfl e)
/-! CHEAP: the reference tells the first WEEK -/
/-- tellFirst, whatever the flags stand for -/
theorem rtf_pc {P g se : Int} {h kn : Nat → Int} {x0 x : Int} {v : Wd} {hit : Int → Bool} (hP : 0 ≤ P ∧ P ≤ 10) (hg : 1 ≤ g ∧ g ≤ 3) (h0 : WH x0 (sof x0) P) (gv : G [] v v) (c0 : v 43 0 = P) (c10 : v 43 10 = g) (c11 : v 43 11 = se) (c45 : ∀ j : Nat, (j : Int) < P → v 45 j = kn j ∧ 0 ≤ kn j ∧ kn j ≤ 1023) (hr : RLI P g se h kn x0 v) (hcod : COD P g se h kn x0 v) (hnm : ∃ nm, B10 (v 43 44) nm ∧ ∀ k : Nat, (k : Int) < P → nm k = hB P h k) (hmv : ∀ m, hit m = true → MVS P g se h kn (sof x0) m) (hfl : ∀ m, MVS P g se h kn (sof x0) m → ∀ (t : Nat) (y : Int), (t : Int) < v 43 40 → WH y (nis P (sof x0) g (bt m)) P → SUX P g se h kn x0 y → v 63 t = cdx P y → (hit m = true ↔ v 74 t ≠ 0)) (ex : fdf P se kn (gs P (sof x0)) (fre P (sof x0) h) (sty P (sof x0) g) hit 12 0 0 = some x) : PC (f_R_tellFirst v) (fun _ v' => 2 * v' 43 15 = ((pn (bt x) 10 : Nat) : Int)) := by
  have hno : ∀ (d : Nat) (f m : Int), DRC P 20 kn (gs P (sof x0)) (fre P (sof x0) h) (sty P (sof x0) g) d f m → d ≠ 0 → hit m = true → ((pn (fun k => sty P (sof x0) g k || bt m k) 10 : Nat) : Int) ≤ se := by
    intro d f m hm hd hh
    obtain ⟨d', f', hD⟩ := hmv m hh
    obtain ⟨hD2, hs⟩ := (drc_se hP).mp hD
    rcases hs with e | e
    · have p1 := (drc_pn hP gs_fre hm).1
      have p2 := (drc_pn hP gs_fre hD2).1
      omega
    · exact e
  unfold f_R_tellFirst
  have hld := load_pc (P := P) (s := sof x0) (w := v) (t := 0) hP c0 h0.2.2 hr.2.2.2.2.1
  change PC (f_R_load 0 v) _ at hld
  refine pc_call (pc_and hld (pc_ok (s_R_load (g_self gv) (by decide)))) (fun r1 u2 y => ?_)
  obtain ⟨⟨y1, y2⟩, _, y3⟩ := y
  have g2 : G [] u2 u2 := g_self y3
  refine pc_lw (fun u3 e3 => ?_)
  have g3 : G [4352] u2 u3 := g_st (g_self g2) e3 rfl rfl (show (0 : Int) ≤ 0 ∧ (0 : Int) ≤ 10 by decide)
  have ro : ∀ c, c ≠ 43 → c ≠ 68 → u3 c = v c := fun c a b => by rw [e3, st_row a]; exact y2 c b
  have rk : ∀ k, k ≠ 52 → u3 43 k = v 43 k := fun k hk => by rw [e3, st_k hk, y2 43 (by decide)]
  have t63 : u3 63 = v 63 := ro 63 (by decide) (by decide)
  have t67 : u3 67 = v 67 := ro 67 (by decide) (by decide)
  have t74 : u3 74 = v 74 := ro 74 (by decide) (by decide)
  have at_ : ∀ m, MVS P g se h kn (sof x0) m → ∃ (t : Nat) (y : Int), (t : Int) < v 43 40 ∧ Fnd u3 (cdf (nis P (sof x0) g (bt m)) P.toNat) t ∧ WH y (nis P (sof x0) g (bt m)) P ∧ SUX P g se h kn x0 y ∧ v 63 t = cdx P y := fun m hm => by
    obtain ⟨y, _, hy⟩ := after_e (v := m) h0 hP hg (b10_self (mvs_who hP hm).1) (mvs_ok hP hm) v
    have hsx : SUX P g se h kn x0 y := ⟨m, hm, hy⟩
    obtain ⟨t, ht, e63⟩ := hr.2.2.2.1 y ⟨rx_wh hP h0 (t := 1) (x := y) ⟨x0, rfl, hsx⟩, 1, x0, rfl, hsx⟩
    have hf := hcod.1 t ht
    rw [e63, cdx_wh hP hy] at hf
    exact ⟨t, y, ht, (fnd_w t63 t67).mpr hf, hy, hsx, e63⟩
  have rtp15x : PC (f_R_tellPairs 16 0 0 0 u3) (fun r v => (r = 0 ∨ r = 1) ∧ (r = 1 → v 43 15 = imax 0 (v 43 52))) := rtp15 16
  refine pc_call (pc_and rtp15x (rtp_pc (P := P) (g := g) (se := se) (s := sof x0) (h := h) (kn := kn) (b := u3) (hit := hit) hP hg.2 (by rw [rk 0 (by decide)]; exact c0) (by rw [rk 10 (by decide)]; exact c10) (by rw [rk 11 (by decide)]; exact c11) (fun j hj => by rw [ro 45 (by decide) (by decide)]; exact c45 j hj) (by rw [rk 44 (by decide)]; exact hnm) (fun k hk => by rw [e3, st_c (by decide)]; exact y1 k hk) h0.2.2 (fun m hm => ?_) (fun m hm t hft => ?_) (fun d f m hm hd hs => ?_) 16 (d := 0) (f := 0) (v2 := 0) (v3 := 0) (m := 0) (u := u3) 12 ⟨g_self g3, fun _ _ _ _ => rfl, fun _ _ _ => rfl⟩ ⟨rfl, rfl⟩ (by decide) (by decide) (by decide) ⟨fun _ => rfl, fun _ => rfl⟩ (fun _ _ _ => rfl) (by omega) (by rw [e3, st_eq]; rfl))) (fun r4 u5 q => pc_some ?_)
  · obtain ⟨t, y, a1, a2, _⟩ := at_ m hm
    exact ⟨t, by rw [rk 40 (by decide)]; exact a1, a2⟩
  · obtain ⟨t', y, a1, a2, a3, a4, a6⟩ := at_ m hm
    have et : t = t' := fnd_one hft a2
    rw [et, t74]
    exact hfl m hm t' y a1 a3 a4 a6
  · cases e : hit m with
    | false => rfl
    | true => exact absurd (hno d f m hm hd e) hs
  · have fs := fdf_se (P := P) (se := se) (kn := kn) hP hno 12 (d := 0) (f := 0) (m := 0) ⟨rfl, rfl⟩
    rw [if_pos (Or.inl rfl), ex] at fs
    rcases q.2 with ⟨b, _⟩ | ⟨x', b1, b2, b3⟩
    · rw [fs] at b; cases b
    · rw [fs] at b1
      have e : x = x' := by injection b1
      have q15 := q.1.2 b2
      have im := imax_sp 0 (u5 43 52)
      rw [e]
      omega
theorem fdc_ex {P g se : Int} {h kn pr : Nat → Int} {x0 v1 p : Int} {H : Nat → Int → Int → Bool} (hP : 0 ≤ P ∧ P ≤ 10) (hH : ∀ n p, HITP P g se h kn pr x0 n p (H n p)) (hv : 1 ≤ v1) (hex : ∃ y, RCX P g se h kn x0 v1.toNat y ∧ PAI P pr x0 p y) : ∃ x, FDC P g se h kn x0 H v1 p = some x := by
  cases e : FDC P g se h kn x0 H v1 p with
  | some x => exact ⟨x, rfl⟩
  | none =>
    obtain ⟨y, y1, y2⟩ := hex
    rw [show v1.toNat = (v1 - 1).toNat + 1 by omega] at y1
    obtain ⟨z', ⟨m, hm, hz⟩, z2⟩ := rcx_first.mp y1
    have a := fdf_none_no hP (by omega) e hm
    rw [(hH _ p m).mpr ⟨hm, z', hz, y, z2, y2⟩] at a
    cases a
/-- on the way to the least -/
theorem lcq_on {P g se : Int} {h kn pr : Nat → Int} {x0 y p r : Int} {n : Nat} (hP : 0 ≤ P ∧ P ≤ 10) (hpr : ∀ k, 0 ≤ pr k ∧ pr k ≤ 9) (hs : SUX P g se h kn x0 y) (hL : LCQ P g se h kn pr x0 (n + 1) p) (hp : p ≠ 1000000) (hr : LCQ P g se h kn pr y n r) : r + csf P pr x0 y = p ↔ ∃ z, RCX P g se h kn y n z ∧ PAI P pr x0 p z := by
  rcases hL with ⟨e, _⟩ | ⟨⟨z0, _, _, a3⟩, hmin⟩
  · exact absurd e hp
  · have b0 := csf_rg (P := P) (pr := pr) hP hpr x0 z0
    have b1 := csf_rg (P := P) (pr := pr) hP hpr x0 y
    constructor
    · intro e
      rcases hr with ⟨e2, _⟩ | ⟨⟨z, z1, z2, z3⟩, _⟩
      · omega
      · have := csf_first (pr := pr) hP hs z1
        exact ⟨z, z1, z2, by omega⟩
    · rintro ⟨z, z1, z2, z3⟩
      have f1 := csf_first (pr := pr) hP hs z1
      rcases hr with ⟨_, e2⟩ | ⟨⟨z', w1, w2, w3⟩, hm⟩
      · exact absurd z2 (e2 z z1)
      · have a := hm z z1 z2
        have f2 := csf_first (pr := pr) hP hs w1
        have c := hmin z' (rcx_first.mpr ⟨y, hs, w1⟩) w2
        omega
theorem chsz_pc {P g se : Int} {h kn : Nat → Int} {x0 : Int} {X pr : Nat → Int} {w b : Wd} {v1 : Int} (hP : 0 ≤ P ∧ P ≤ 10) (hg : 1 ≤ g ∧ g ≤ 3) (h0 : WH x0 (sof x0) P) (c0 : w 43 0 = P) (h44 : w 44 = pr) (hpr : ∀ k, 0 ≤ pr k ∧ pr k ≤ 9) (hr : RLI P g se h kn x0 w) (hx : XOK P g se h kn x0 X w) (hv : 0 ≤ v1 ∧ v1 < 45) (q1 : ∀ c, c ≠ 72 → c ≠ 73 → b c = w c) (ho : ODR P X (w 43 40) b) {H : Nat → Int → Int → Bool} (hH : ∀ n p, HITP P g se h kn pr x0 n p (H n p)) (hG : G [] b b) (c10 : w 43 10 = g) (c11 : w 43 11 = se) (c45 : ∀ j : Nat, (j : Int) < P → w 45 j = kn j ∧ 0 ≤ kn j ∧ kn j ≤ 1023) (hcod : COD P g se h kn x0 w) (hnm : ∃ nm, B10 (w 43 44) nm ∧ ∀ k : Nat, (k : Int) < P → nm k = hB P h k) : PC (f_R_cheap_40 FU v1 0 b) (fun r v => CHS (FDC P g se h kn x0 H v1) v1 (w 43 15) r (v 43 15)) := by
  obtain ⟨o1, o2, o3, o4⟩ := ho
  have h3000 := hr.1
  have b43 : b 43 = w 43 := q1 43 (by decide) (by decide)
  have b44 : b 44 = w 44 := q1 44 (by decide) (by decide)
  have b63 : b 63 = w 63 := q1 63 (by decide) (by decide)
  have b64 : b 64 = w 64 := q1 64 (by decide) (by decide)
  have b65 : b 65 = w 65 := q1 65 (by decide) (by decide)
  have hvz : ∀ x z, VLS P g se h kn x0 x → SUX P g se h kn x z → VLS P g se h kn x0 z := fun x z hv hs => by
    obtain ⟨n, hn⟩ := hv.2
    have hs' := hs
    obtain ⟨m, _, hw⟩ := hs
    exact ⟨wh_sof hw hP.2, n + 1, x, hn, hs'⟩
  have pcT : ∀ o : Option (Int × Wd), PC o (fun _ _ => True) := fun _ _ _ _ => trivial
  have l40 : ∀ (n : Nat) {v2 : Int} {u : Wd}, 0 ≤ v2 → v2 ≤ w 43 40 → ((∀ c, c ≠ 77 → u c = b c) ∧ G [] u u) → (∀ j : Nat, (j : Int) < v2 → ∀ q : Nat, (q : Int) ≤ v1 → LCQ P g se h kn pr (X (b 72 j).toNat) q (u 77 (45 * (b 72 j).toNat + q))) → PC (f_R_cheap_40 n v1 v2 u) (fun r v => CHS (FDC P g se h kn x0 H v1) v1 (w 43 15) r (v 43 15)) := by
    intro n
    induction n with
    | zero => intros; exact pc_none
    | succ n ih =>
      intro v2 u i2 i2' hu hL
      rw [f_R_cheap_40, hu.1 43 (by decide), b43]
      refine pc_ite (fun c => ?_) (fun c => ?_)
      · obtain ⟨k, hk, e⟩ := o3 0 (by omega)
        have hl := hL k (by omega) v1.toNat (by omega)
        have e0 : (b 72 k).toNat = 0 := by omega
        rw [e0, (xok_0 hP h0 hr hx (by omega)).mpr rfl, show 45 * 0 + v1.toNat = v1.toNat by omega] at hl
        refine pc_gd (fun _ => pc_let (fun x8 e8 => ?_))
        rw [← e8] at hl
        have u43 : u 43 = w 43 := (hu.1 43 (by decide)).trans b43
        refine pc_ite (fun c8 => pc_some (Or.inl ⟨by decide, by rw [u43]⟩)) (fun c8 => pc_lw (fun u9 e9 => ?_))
        have l8 := lcq_rg hP hpr hl
        refine pc_ite (fun c1 => pc_some (Or.inr (Or.inl ⟨l8.1, c1, by rw [e9, st_eq]⟩))) (fun c1 => ?_)
        -- all of what stands there
        have ut : ∀ t : Nat, (t : Int) < w 43 40 → ∀ q : Nat, (q : Int) ≤ v1 → LCQ P g se h kn pr (X t) q (u 77 (45 * t + q)) := fun t ht q hq => by
          obtain ⟨k, hk, e⟩ := o3 t ht
          have := hL k (by omega) q hq
          rw [e, show ((t : Nat) : Int).toNat = t by omega] at this
          exact this
        have g9 : G [4315] u u9 := g_st (g_self hu.2) e9 rfl rfl (show (0 : Int) ≤ 0 ∧ (0 : Int) ≤ 16 by decide)
        have n40 : u9 43 40 = w 43 40 := by rw [e9, st_k (by decide), u43]
        have ro9 : ∀ c, c ≠ 43 → c ≠ 72 → c ≠ 73 → c ≠ 77 → u9 c = w c := fun c a1 a2 a3 a4 => by rw [e9, st_row a1, hu.1 c a4, q1 c a2 a3]
        have n63 : u9 63 = w 63 := ro9 63 (by decide) (by decide) (by decide) (by decide)
        have r9 : RLI P g se h kn x0 u9 := rli_eq hr n40 n63 (ro9 64 (by decide) (by decide) (by decide) (by decide)) (ro9 65 (by decide) (by decide) (by decide) (by decide))
        refine pc_call (pc_and (fnx_pc h0 r9) (pc_ok (s_R_findNext (g_self g9)))) (fun r10 u11 z => ?_)
        obtain ⟨⟨z1, z2⟩, _, z3⟩ := z
        have g11 : G [] u11 u11 := g_self z3
        have ro11 : ∀ c, c ≠ 43 → c ≠ 72 → c ≠ 73 → c ≠ 76 → c ≠ 77 → u11 c = w c := fun c a1 a2 a3 a4 a5 => (z1 c a4).trans (ro9 c a1 a2 a3 a5)
        have k11 : ∀ k, k ≠ 15 → u11 43 k = w 43 k := fun k hk => by rw [z1 43 (by decide), e9, st_k hk, u43]
        have u77 : u11 77 = u 77 := by rw [z1 77 (by decide), e9, st_row (by decide)]
        -- the flags
        have cs0 : ∀ {v : Wd} {t : Nat}, (t : Int) < w 43 40 → (∀ c, c ≠ 74 → v c = u11 c) → PC (f_R_costOf 0 (t : Int) v) (fun r v' => v' = v ∧ r = csf P pr x0 (X t)) := fun {v t} ht hvv => by
          have hy := hx.1 t ht
          have cp := cost_pc (P := P) (s := sof x0) (s' := sof (X t)) (w := v) (t := 0) (t' := t) hP (by rw [hvv 43 (by decide), k11 0 (by decide)]; exact c0) (by rw [hvv 44 (by decide), ro11 44 (by decide) (by decide) (by decide) (by decide) (by decide), h44]; exact hpr) h0.2.2 hy.1.1.2.2 (by rw [hvv 63 (by decide), ro11 63 (by decide) (by decide) (by decide) (by decide) (by decide)]; exact hr.2.2.2.2.1) (by rw [hvv 63 (by decide), ro11 63 (by decide) (by decide) (by decide) (by decide) (by decide)]; exact hy.2)
          rw [hvv 44 (by decide), ro11 44 (by decide) (by decide) (by decide) (by decide) (by decide), h44] at cp
          exact cp
        have nz1 : nz 1 = 1 := by decide
        have nz0 : nz 0 = 0 := by decide
        obtain ⟨x, ex⟩ := fdc_ex (v1 := v1) (p := x8) hP hH (by omega) (by
          rcases hl with ⟨e, _⟩ | ⟨⟨y, y1, y2, y3⟩, _⟩
          · exact absurd e c8
          · exact ⟨y, y1, y2, y3⟩)
        have l229 : ∀ (m : Nat) {v3 : Int} {v : Wd}, 0 ≤ v3 → v3 ≤ w 43 40 → (∀ c, c ≠ 74 → v c = u11 c) → G [] v v → (∀ t : Nat, (t : Int) < v3 → (v 74 t ≠ 0 ↔ u11 76 t = 1 ∧ u 77 (45 * t + (v1 - 1).toNat) + csf P pr x0 (X t) = x8)) → PC (f_R_cheap_229 m v1 x8 v3 v) (fun r v => CHS (FDC P g se h kn x0 H v1) v1 (w 43 15) r (v 43 15)) := by
          intro m
          induction m with
          | zero => intros; exact pc_none
          | succ m ihm =>
            intro v3 v i3 i3' hvv gv hfl
            have w43' : ∀ k, k ≠ 15 → v 43 k = w 43 k := fun k hk => by rw [hvv 43 (by decide), k11 k hk]
            rw [f_R_cheap_229, w43' 40 (by decide)]
            refine pc_ite (fun c3 => ?_) (fun c3 => ?_)
            · have hfl2 : ∀ m, MVS P g se h kn (sof x0) m → ∀ (t : Nat) (y : Int), (t : Int) < v 43 40 → WH y (nis P (sof x0) g (bt m)) P → SUX P g se h kn x0 y → v 63 t = cdx P y → (H (v1 - 1).toNat x8 m = true ↔ v 74 t ≠ 0) := fun m hm t y ht hy hsx e63 => by
                rw [w43' 40 (by decide)] at ht
                rw [hvv 63 (by decide), ro11 63 (by decide) (by decide) (by decide) (by decide) (by decide)] at e63
                have hxt := hx.1 t ht
                have eX : X t = y := cdx_inj hP hxt.1.1 (hvz x0 y ⟨h0, 0, rfl⟩ hsx).1 (by rw [← hxt.2, e63])
                have e76 : u11 76 t = 1 := by
                  rcases z2 t (by rw [n40]; exact ht) with ⟨b', _⟩ | ⟨_, b'⟩
                  · exact b'
                  · exact absurd (by rw [n63]; exact e63) (b' y hsx)
                rw [hfl t (by omega), hH (v1 - 1).toNat x8 m]
                have lt := ut t ht (v1 - 1).toNat (by omega)
                rw [eX] at lt ⊢
                have hl' := hl
                rw [show v1.toNat = (v1 - 1).toNat + 1 by omega] at hl'
                have on := lcq_on hP hpr hsx hl' c8 lt
                constructor
                · rintro ⟨_, z', hz, hh⟩
                  rw [wh_inj hz hy (fun _ _ => rfl)] at hh
                  exact ⟨e76, on.mpr hh⟩
                · rintro ⟨_, b'⟩
                  exact ⟨hm, y, hy, on.mp b'⟩
              have fin := rtf_pc (x := x) (hit := H (v1 - 1).toNat x8) (v := v) hP hg h0 gv (by rw [w43' 0 (by decide)]; exact c0) (by rw [w43' 10 (by decide)]; exact c10) (by rw [w43' 11 (by decide)]; exact c11) (fun j hj => by rw [hvv 45 (by decide), ro11 45 (by decide) (by decide) (by decide) (by decide) (by decide)]; exact c45 j hj) (rli_eq hr (w43' 40 (by decide)) (by rw [hvv 63 (by decide), ro11 63 (by decide) (by decide) (by decide) (by decide) (by decide)]) (by rw [hvv 64 (by decide), ro11 64 (by decide) (by decide) (by decide) (by decide) (by decide)]) (by rw [hvv 65 (by decide), ro11 65 (by decide) (by decide) (by decide) (by decide) (by decide)])) (by
                unfold COD
                rw [w43' 40 (by decide), show v 63 = w 63 by rw [hvv 63 (by decide), ro11 63 (by decide) (by decide) (by decide) (by decide) (by decide)]]
                exact ⟨fun t ht => fnd_congr (fun k => by rw [hvv 67 (by decide), ro11 67 (by decide) (by decide) (by decide) (by decide) (by decide)]) (fun k => by rw [hvv 63 (by decide), ro11 63 (by decide) (by decide) (by decide) (by decide) (by decide)]) (hcod.1 t ht), hcod.2⟩) (by rw [w43' 44 (by decide)]; exact hnm) (fun m hm => ((hH _ _ m).mp hm).1) hfl2 ex
              refine pc_call fin (fun r12 u13 f => pc_some (Or.inr (Or.inr ⟨l8.1, c1, x, ex, f⟩)))
            · have ev : v3 = ((v3.toNat : Nat) : Int) := by omega
              have w31 : w32 (v3 + 1) = v3 + 1 := w32_id (by omega)
              have wr : ∀ s : Int, (s = 0 ∨ s = 1) → (s ≠ 0 ↔ u11 76 v3.toNat = 1 ∧ u 77 (45 * v3.toNat + (v1 - 1).toNat) + csf P pr x0 (X v3.toNat) = x8) → PC (f_R_cheap_279 (f_R_cheap_229 m) v1 x8 v3 v3 s v) (fun r v => CHS (FDC P g se h kn x0 H v1) v1 (w 43 15) r (v 43 15)) := fun s hs hcs => by
                unfold f_R_cheap_279
                rw [w31]
                refine pc_gd (fun _ => pc_lw (fun u16 e16 => pc_let (fun x17 e17 => ?_)))
                rw [e17]
                have hnz : nz s = s := by rcases hs with e | e <;> rw [e] <;> decide
                rw [hnz] at e16
                have g16 : G [7499] v u16 := g_st (g_self gv) e16 rfl rfl (show (0 : Int) ≤ s ∧ s ≤ 1 by omega)
                refine ihm (by omega) (by omega) (fun c hc => by rw [e16, st_row hc]; exact hvv c hc) (g_self g16) (fun t ht => ?_)
                by_cases ct : t = v3.toNat
                · rw [ct, e16, st_eq]; exact hcs
                · rw [e16, st_k ct]; exact hfl t (by omega)
              refine pc_call (isn_pc (v1 := v3) (u := v)) (fun r14 u15 y => ?_)
              have e76 : r14 = u11 76 v3.toNat := by rw [y.2, hvv 76 (by decide)]
              rw [y.1]
              unfold f_R_cheap_278
              refine pc_ite (fun cr => wr 0 (Or.inl rfl) ⟨fun hh => absurd rfl hh, fun hh => by have := hh.1; omega⟩) (fun cr => ?_)
              have e1 : u11 76 v3.toNat = 1 := by
                rcases z2 v3.toNat (by rw [n40]; omega) with ⟨b', _⟩ | ⟨b', _⟩
                · exact b'
                · omega
              have h45' : w 43 40 ≤ 3000 := hr.1.2
              rw [w32_id (show -2147483648 ≤ 45 * v3 ∧ 45 * v3 ≤ 2147483647 by omega), w32_id (show -2147483648 ≤ 45 * v3 + v1 ∧ 45 * v3 + v1 ≤ 2147483647 by omega), w32_id (show -2147483648 ≤ 45 * v3 + v1 - 1 ∧ 45 * v3 + v1 - 1 ≤ 2147483647 by omega)]
              have cp := cs0 (v := v) (t := v3.toNat) (by omega) hvv
              rw [← ev] at cp
              refine pc_gd (fun _ => pc_call cp (fun r18 u19 y => ?_))
              rw [y.1, y.2, hvv 77 (by decide), u77, show (45 * v3 + v1 - 1).toNat = 45 * v3.toNat + (v1 - 1).toNat by omega]
              have lt := lcq_rg hP hpr (ut v3.toNat (by omega) (v1 - 1).toNat (by omega))
              have b1 := csf_rg (P := P) (pr := pr) hP hpr x0 (X v3.toNat)
              rw [w32_id (show -2147483648 ≤ u 77 (45 * v3.toNat + (v1 - 1).toNat) + csf P pr x0 (X v3.toNat) ∧ u 77 (45 * v3.toNat + (v1 - 1).toNat) + csf P pr x0 (X v3.toNat) ≤ 2147483647 by omega)]
              exact pc_ite (fun cc => wr 1 (Or.inr rfl) ⟨fun _ => ⟨e1, cc⟩, fun _ => by decide⟩) (fun cc => wr 0 (Or.inl rfl) ⟨fun hh => absurd rfl hh, fun hh => absurd hh.2 cc⟩)
        exact l229 FU (by decide) (by omega) (fun _ _ => rfl) g11 (fun t ht => by omega)
      · refine pc_gd (fun _ => pc_let (fun x3 e3 => ?_))
        rw [hu.1 72 (by decide)] at e3
        obtain ⟨s1, s2⟩ := o1 v2.toNat (by omega)
        rw [← e3] at s1 s2
        obtain ⟨hxv, hcv⟩ := hx.1 x3.toNat (by omega)
        obtain ⟨⟨hlo, hhi⟩, hE⟩ := hr.2.2.2.2.2 x3.toNat (by omega)
        obtain ⟨hE1, hE2⟩ := hE (X x3.toNat) hxv hcv
        have ahead : ∀ j : Nat, (j : Int) < v2 → (b 72 j).toNat ≠ x3.toNat := fun j hj e => by
          have r1 := (o1 j (by omega)).1
          have := o2 j v2.toNat (by omega) (by omega) (by omega)
          omega
        have w2 : w32 (v2 + 1) = v2 + 1 := w32_id (by omega)
        have w3 : w32 (x3 + 1) = x3 + 1 := w32_id (by omega)
        have l58 : ∀ (m : Nat) {v4 : Int} {v : Wd}, 0 ≤ v4 → v4 ≤ v1 + 1 → ((∀ c, c ≠ 77 → v c = b c) ∧ G [] v v) → (∀ j : Nat, (j : Int) < v2 → ∀ q : Nat, (q : Int) ≤ v1 → LCQ P g se h kn pr (X (b 72 j).toNat) q (v 77 (45 * (b 72 j).toNat + q))) → (∀ q : Nat, (q : Int) < v4 → LCQ P g se h kn pr (X x3.toNat) q (v 77 (45 * x3.toNat + q))) → PC (f_R_cheap_58 (f_R_cheap_40 n) m v1 v2 x3 v4 v) (fun r v => CHS (FDC P g se h kn x0 H v1) v1 (w 43 15) r (v 43 15)) := by
          intro m
          induction m with
          | zero => intros; exact pc_none
          | succ m ihm =>
            intro v4 v i4 i4' hv' hA hM
            rw [f_R_cheap_58]
            refine pc_ite (fun c4 => pc_let (fun x21 e21 => ?_)) (fun c4 => ?_)
            · rw [w2] at e21
              rw [e21]
              refine ih (by omega) (by omega) hv' (fun j hj => ?_)
              by_cases cj : (j : Int) < v2
              · exact hA j cj
              · rw [show j = v2.toNat by omega, ← e3]
                exact fun q hq => hM q (by omega)
            · -- what is written
              have w163 : ∀ {v5 : Int}, LCQ P g se h kn pr (X x3.toNat) v4.toNat v5 → PC (f_R_cheap_163 (f_R_cheap_40 n) (f_R_cheap_58 (f_R_cheap_40 n) m) v1 v2 x3 v4 v5 v) (fun r v => CHS (FDC P g se h kn x0 H v1) v1 (w 43 15) r (v 43 15)) := fun {v5} hl => by
                unfold f_R_cheap_163
                have hl5 := lcq_rg hP hpr hl
                rw [w32_id (show -2147483648 ≤ 45 * x3 ∧ 45 * x3 ≤ 2147483647 by omega), w32_id (show -2147483648 ≤ 45 * x3 + v4 ∧ 45 * x3 + v4 ≤ 2147483647 by omega), w32_id (show -2147483648 ≤ v4 + 1 ∧ v4 + 1 ≤ 2147483647 by omega)]
                have im : imin v5 1000000 = v5 := by
                  rcases imin_sp v5 1000000 with ⟨a, e⟩ | ⟨_, e⟩
                  · omega
                  · exact e
                rw [im]
                refine pc_gd (fun _ => pc_lw (fun u24 e24 => pc_let (fun x25 e25 => ?_)))
                have g24 : G [7799] v u24 := g_st (g_self hv'.2) e24 rfl rfl (show (0 : Int) ≤ v5 ∧ v5 ≤ 1000000 by omega)
                have ix : (45 * x3 + v4).toNat = 45 * x3.toNat + v4.toNat := by omega
                rw [ix] at e24
                have k24 : ∀ k, k ≠ 45 * x3.toNat + v4.toNat → u24 77 k = v 77 k := fun k hk => by rw [e24, st_k hk]
                rw [e25]
                refine ihm (by omega) (by omega) ⟨fun c hc => by rw [e24, st_row hc, hv'.1 c hc], g_self g24⟩ (fun j hj q hq => ?_) (fun q hq => ?_)
                · have := ahead j hj
                  rw [k24 _ (by omega)]
                  exact hA j hj q hq
                · by_cases cq : (q : Int) < v4
                  · rw [k24 _ (by omega)]; exact hM q cq
                  · rw [show q = v4.toNat by omega, e24, st_eq]; exact hl
              refine pc_call (gx_pc hP hx (by rw [hv'.1 43 (by decide), b43]; exact c0) (by rw [hv'.1 63 (by decide), b63]) ⟨s1, s2⟩) (fun r22 u23 z => ?_)
              rw [z.1]
              have sb := sbg_0 z.2
              refine pc_ite (fun cz => w163 (Or.inl ⟨rfl, fun y hy hs => ?_⟩)) (fun cz => ?_)
              · exact absurd cz (sb.mpr (sbg_back hP hxv.1 hy hs))
              · have hsb := sb.mp cz
                -- what stands at the end of an edge
                have tgt : ∀ e : Nat, w 64 x3.toNat ≤ (e : Int) → (e : Int) < w 64 (x3.toNat + 1) → (0 ≤ w 65 e ∧ w 65 e < w 43 40) ∧ SUX P g se h kn (X x3.toNat) (X (w 65 e).toNat) ∧ ∀ q : Nat, (q : Int) ≤ v1 → LCQ P g se h kn pr (X (w 65 e).toNat) q (v 77 (45 * (w 65 e).toNat + q)) := fun e h1 h2 => by
                  obtain ⟨g4, y, g5, g6⟩ := hE1 e h1 h2
                  have hy := hx.1 (w 65 e).toNat (by omega)
                  have eX : X (w 65 e).toNat = y := cdx_inj hP hy.1.1 (hvz _ _ hxv g5).1 (by rw [← hy.2, g6])
                  have hl := ls_gs hP hg hxv g5 hsb
                  obtain ⟨j, hj, ej⟩ := o3 (w 65 e).toNat (by omega)
                  have hjv : (j : Int) < v2 := by
                    refine Classical.byContradiction fun hh => ?_
                    have le : Lf P X x3.toNat ≤ Lf P X (w 65 e).toNat := by
                      by_cases cj : j = v2.toNat
                      · rw [cj, ← e3] at ej
                        have : x3.toNat = (w 65 e).toNat := by omega
                        rw [this]; exact Int.le_refl _
                      · have := o4 v2.toNat j (by omega) hj
                        rw [← e3, ej, show (((w 65 e).toNat : Nat) : Int).toNat = (w 65 e).toNat by omega] at this
                        exact this
                    unfold Lf at le
                    rw [eX] at le
                    omega
                  refine ⟨g4, by rw [eX]; exact g5, fun q hq => ?_⟩
                  have := hA j hjv q hq
                  rw [ej, show (((w 65 e).toNat : Nat) : Int).toNat = (w 65 e).toNat by omega] at this
                  exact this
                -- one edge after the other
                have l99 : ∀ (k : Nat) {v5 v6 : Int}, w 64 x3.toNat ≤ v6 → v6 ≤ w 64 (x3.toNat + 1) → (v4 = 0 → v5 = 0) → (0 < v4 → (0 ≤ v5 ∧ v5 ≤ 1000000) ∧ (v5 = 1000000 ∨ ∃ y, RCX P g se h kn (X x3.toNat) v4.toNat y ∧ sbg P y ∧ csf P pr (X x3.toNat) y = v5) ∧ ∀ e : Nat, w 64 x3.toNat ≤ (e : Int) → (e : Int) < v6 → v5 ≤ v 77 (45 * (w 65 e).toNat + (v4.toNat - 1)) + csf P pr (X x3.toNat) (X (w 65 e).toNat)) → PC (f_R_cheap_99 (f_R_cheap_40 n) (f_R_cheap_58 (f_R_cheap_40 n) m) k v1 v2 x3 v4 v5 v6 v) (fun r v => CHS (FDC P g se h kn x0 H v1) v1 (w 43 15) r (v 43 15)) := by
                  intro k
                  induction k with
                  | zero => intros; exact pc_none
                  | succ k ihk =>
                    intro v5 v6 i6 i6' hz hn
                    have zero : v4 = 0 → LCQ P g se h kn pr (X x3.toNat) v4.toNat v5 := fun e4 => by
                      rw [e4, hz e4]
                      refine Or.inr ⟨⟨X x3.toNat, rfl, hsb, csf_self P pr _⟩, fun y hy _ => ?_⟩
                      exact (csf_rg (P := P) (pr := pr) hP hpr (X x3.toNat) y).1
                    rw [f_R_cheap_99, w3, hv'.1 64 (by decide), b64, show (x3 + 1).toNat = x3.toNat + 1 by omega]
                    refine pc_gd (fun _ => pc_ite (fun c6 => ?_) (fun c6 => pc_ite (fun c40 => w163 (zero (by omega))) (fun c40 => ?_)))
                    · by_cases c40 : v4 = 0
                      · exact w163 (zero c40)
                      · obtain ⟨n1, n2, n3⟩ := hn (by omega)
                        have hmin : ∀ y, RCX P g se h kn (X x3.toNat) v4.toNat y → sbg P y → v5 ≤ csf P pr (X x3.toNat) y := fun y hy hs => by
                          rw [show v4.toNat = (v4.toNat - 1) + 1 by omega] at hy
                          obtain ⟨z', hz1, hz2⟩ := rcx_first.mp hy
                          obtain ⟨e, g1, g2, g3, g4⟩ := hE2 z' hz1
                          have ha := hx.1 (w 65 e).toNat (by omega)
                          have eX : X (w 65 e).toNat = z' := cdx_inj hP ha.1.1 (hvz _ _ hxv hz1).1 (by rw [← ha.2, g4])
                          have t3 := (tgt e g1 g2).2.2 (v4.toNat - 1) (by omega)
                          have n4 := n3 e g1 (by omega)
                          rw [eX] at t3 n4
                          rcases t3 with ⟨_, t4⟩ | ⟨_, t4⟩
                          · exact absurd hs (t4 y hz2)
                          · have := t4 y hz2 hs
                            have := csf_first (pr := pr) hP hz1 hz2
                            omega
                        refine w163 ?_
                        by_cases c5 : v5 = 1000000
                        · refine Or.inl ⟨c5, fun y hy hs => ?_⟩
                          have a1 := hmin y hy hs
                          have a2 := csf_rg (P := P) (pr := pr) hP hpr (X x3.toNat) y
                          omega
                        · rcases n2 with e | hy
                          · exact absurd e c5
                          · exact Or.inr ⟨hy, hmin⟩
                    · obtain ⟨n1, n2, n3⟩ := hn (by omega)
                      obtain ⟨g4, t2, t3⟩ := tgt v6.toNat (by omega) (by omega)
                      have t4 := t3 (v4.toNat - 1) (by omega)
                      have t5 := lcq_rg hP hpr t4
                      have e65 : w 65 v6.toNat = (((w 65 v6.toNat).toNat : Nat) : Int) := by omega
                      have e3v : x3 = ((x3.toNat : Nat) : Int) := by omega
                      have hy := hx.1 (w 65 v6.toNat).toNat (by omega)
                      have c2' := csf_rg (P := P) (pr := pr) hP hpr (X x3.toNat) (X (w 65 v6.toNat).toNat)
                      have cp := cost_pc (P := P) (s := sof (X x3.toNat)) (s' := sof (X (w 65 v6.toNat).toNat)) (w := v) (t := x3.toNat) (t' := (w 65 v6.toNat).toNat) hP (by rw [hv'.1 43 (by decide), b43]; exact c0) (by rw [hv'.1 44 (by decide), b44, h44]; exact hpr) hxv.1.2.2 hy.1.1.2.2 (by rw [hv'.1 63 (by decide), b63]; exact hcv) (by rw [hv'.1 63 (by decide), b63]; exact hy.2)
                      rw [← e3v, ← e65, hv'.1 44 (by decide), b44, h44] at cp
                      rw [hv'.1 65 (by decide), b65]
                      refine pc_gd (fun _ => pc_gd (fun _ => pc_gd (fun _ => pc_call cp (fun r27 u28 q => ?_))))
                      have er : r27 = csf P pr (X x3.toNat) (X (w 65 v6.toNat).toNat) := q.2
                      rw [q.1, er, w32_id (show -2147483648 ≤ 45 * w 65 v6.toNat ∧ 45 * w 65 v6.toNat ≤ 2147483647 by omega), w32_id (show -2147483648 ≤ 45 * w 65 v6.toNat + v4 ∧ 45 * w 65 v6.toNat + v4 ≤ 2147483647 by omega), w32_id (show -2147483648 ≤ 45 * w 65 v6.toNat + v4 - 1 ∧ 45 * w 65 v6.toNat + v4 - 1 ≤ 2147483647 by omega)]
                      rw [show (45 * w 65 v6.toNat + v4 - 1).toNat = 45 * (w 65 v6.toNat).toNat + (v4.toNat - 1) by omega]
                      have b41 : v6 ≤ 2147483646 := by omega
                      rw [w32_id (by omega), w32_id (by omega)]
                      refine pc_let (fun x29 e29 => pc_let (fun x30 e30 => ?_))
                      rw [e30]
                      have im := imin_sp v5 (v 77 (45 * (w 65 v6.toNat).toNat + (v4.toNat - 1)) + csf P pr (X x3.toNat) (X (w 65 v6.toNat).toNat))
                      refine ihk (by omega) (by omega) (fun e => by omega) (fun _ => ⟨?_, ?_, fun e h1 h2 => ?_⟩)
                      · rcases im with ⟨a1, a2⟩ | ⟨a1, a2⟩ <;> rw [e29, a2] <;> omega
                      · rcases im with ⟨a1, a2⟩ | ⟨a1, a2⟩
                        · rw [e29, a2]
                          rcases t4 with ⟨e, _⟩ | ⟨⟨y, y1, y2, y3⟩, _⟩
                          · omega
                          · refine Or.inr ⟨y, ?_, y2, ?_⟩
                            · rw [show v4.toNat = (v4.toNat - 1) + 1 by omega]
                              exact rcx_first.mpr ⟨_, t2, y1⟩
                            · rw [csf_first (pr := pr) hP t2 y1, y3]; omega
                        · rw [e29, a2]; exact n2
                      · have le : x29 ≤ v5 ∧ x29 ≤ v 77 (45 * (w 65 v6.toNat).toNat + (v4.toNat - 1)) + csf P pr (X x3.toNat) (X (w 65 v6.toNat).toNat) := by
                          rcases im with ⟨a1, a2⟩ | ⟨a1, a2⟩ <;> rw [e29, a2] <;> omega
                        by_cases ce : (e : Int) < v6
                        · have := n3 e h1 ce; omega
                        · rw [show e = v6.toNat by omega]; exact le.2
                unfold f_R_cheap_89
                rw [hv'.1 64 (by decide), b64]
                refine pc_ite (fun c40 => pc_gd (fun _ => pc_let (fun x26 e26 => ?_))) (fun c40 => pc_gd (fun _ => pc_let (fun x26 e26 => ?_)))
                · rw [e26]
                  exact l99 FU (Int.le_refl _) hhi (fun _ => rfl) (fun hh => by omega)
                · rw [e26]
                  exact l99 FU (Int.le_refl _) hhi (fun hh => absurd hh c40) (fun _ => ⟨by decide, Or.inl rfl, fun e h1 h2 => by omega⟩)
        exact l58 FU (by decide) (by omega) hu hL (fun q hq => by omega)
  exact l40 FU (by decide) (by omega) ⟨fun c hc => rfl, hG⟩ (fun j hj => by omega)
theorem sr_cheap {a w : Wd} {P g se : Int} {h kn : Nat → Int} {x0 v1 : Int} {H : Nat → Int → Int → Bool} (hp : PRM a w P g se h kn x0) (hG : G [] a a) (hH : ∀ n p, HITP P g se h kn (a 44) x0 n p (H n p)) : PC (f_R_cheap v1 a) (fun r u => CHS (FDC P g se h kn x0 H v1) v1 (a 43 15) r (u 43 15)) := by
  obtain ⟨hP, hg, h0, _, ⟨c0, c10, c11⟩, c47, c45, _, c44, _⟩ := id hp
  unfold f_R_cheap
  refine pc_lw (fun y ey => pc_call (iswR_e v1 y) (fun r2 u3 z => ?_))
  rw [z.1, z.2]
  by_cases hv : 0 ≤ v1 ∧ v1 ≤ 60
  · rw [if_pos hv]
    refine pc_ite (fun e => absurd e (by decide)) (fun _ => pc_call (rfs hp hG ey) (fun r4 u q => ?_))
    rcases q.2 with ⟨e, m⟩ | ⟨e, l, m⟩
    · exact pc_ite (fun _ => pc_some (Or.inl ⟨by decide, q.1.1.1⟩)) (fun c => absurd e c)
    · refine pc_ite (fun c => by omega) (fun _ => ?_)
      have k15 : u 43 15 = a 43 15 := q.1.1.1
      have u0 : ∀ k, k ≠ 16 → k ≠ 40 → k ≠ 41 → k ≠ 44 → u 43 k = a 43 k := fun k a1 a2 a3 a4 => by rw [q.1.2.1.2 k a2 a3 a4, ey, st_k a1]
      have uc : ∀ c, c ≠ 43 → c ≠ 63 → c ≠ 64 → c ≠ 65 → c ≠ 66 → c ≠ 67 → c ≠ 68 → u c = a c := fun c b1 b2 b3 b4 b5 b6 b7 => by rw [q.1.2.1.1 c b1 b2 b3 b4 b5 b6 b7, ey, st_row b1]
      have u43 : u 43 0 = P := by rw [u0 0 (by decide) (by decide) (by decide) (by decide)]; exact c0
      obtain ⟨X, hx⟩ := rli_x hP l.1
      refine pc_call (pc_and (fo_pc hP u43 l.1.1 hx) (pc_ok (s_R_findOrder (g_self q.1.2.2)))) (fun r6 b o => ?_)
      obtain ⟨⟨o1, o2⟩, _, o3⟩ := o
      refine pc_ite (fun c => ?_) (fun c => pc_some (Or.inl ⟨by decide, by rw [o1 43 (by decide) (by decide)]; exact k15⟩))
      rw [← k15]
      exact chsz_pc (pr := a 44) hP hg h0 u43 (uc 44 (by decide) (by decide) (by decide) (by decide) (by decide) (by decide) (by decide)) c44 l.1 hx ⟨hv.1, c⟩ o1 o2 hH (g_self o3) (by rw [u0 10 (by decide) (by decide) (by decide) (by decide)]; exact c10) (by rw [u0 11 (by decide) (by decide) (by decide) (by decide)]; exact c11) (fun j hj => by rw [uc 45 (by decide) (by decide) (by decide) (by decide) (by decide) (by decide) (by decide)]; exact c45 j hj) l.2.1 l.2.2
  · rw [if_neg hv]
    exact pc_ite (fun _ => pc_some (Or.inl ⟨by decide, by rw [ey, st_k (by decide)]⟩)) (fun e => absurd rfl e)
/-! EVERY METHOD KEEPS THE ROW'S SIZE THE SAME IN BOTH -/
def LRZ (n : Int) (w : Wd) : Prop := LV n w ∧ w 3 1 = w 43 15
theorem lw_mono {n m : Int} {w : Wd} (h : LRZ n w) (hn : n ≤ m) : LRZ m w := ⟨lv_mono h.1 hn, h.2⟩
theorem w0_LRZ : LRZ 0 w0 := ⟨w0_LV, by decide +kernel⟩
theorem er_3 {a w : Wd} (h : ER a w) : w 5 3 = a 43 0 := h.1.1.2.1
theorem er_p {a w : Wd} (h : ER a w) : 0 ≤ a 43 0 ∧ a 43 0 ≤ 10 := h.2.2.1
theorem er_310 {a w : Wd} (h : ER a w) : w 5 3 ≤ 10 := by rw [er_3 h]; exact (er_p h).2
theorem er_kn {a w : Wd} (h : ER a w) : ∀ j : Nat, (j : Int) < a 43 0 → 0 ≤ a 45 j ∧ a 45 j ≤ 1023 := h.2.2.2.2.2.1
theorem dx {xE : Option (Int × Wd)} {xR : Wd → Option (Int × Wd)} {m : Int} {w : Wd} {X : Int → Int → Prop} (hv : OK xE (fun r1 u1 => OK (xR u1) (fun r2 u2 => LV m u2 ∧ X r1 r2))) (hE : PC xE (fun _ u => RS u ∧ ∀ c, 43 ≤ c → u c = w c)) (hR : PC xE (fun _ u => PC (xR u) (fun _ u2 => ∀ c, c < 43 → u2 c = u c))) (hl : LU w) (hw : w 3 1 = w 43 15) (q : ∀ a, RS a → ER a w → w 3 1 = a 43 15 → PC xE (fun r u => PC (xR a) (fun r' u' => X r r' → u 3 1 = u' 43 15))) : OK xE (fun r1 u1 => OK (xR u1) (fun r2 u2 => LRZ m u2 ∧ X r1 r2)) := by
  obtain ⟨r1, u1, e1, r2, u2, e2, q1, q2⟩ := hv
  obtain ⟨g, hi⟩ := hE r1 u1 e1
  have f := hR r1 u1 e1 r2 u2 e2
  refine ⟨r1, u1, e1, r2, u2, e2, ⟨q1, ?_⟩, q2⟩
  rw [congrFun (f 3 (by decide)) 1]
  exact q u1 g (lu_er hl hi) (by rw [hi 43 (by decide)]; exact hw) r1 u1 e1 r2 u2 e2 q2
theorem dxa {xE : Option (Int × Wd)} {xR : Wd → Option (Int × Wd)} {m : Int} {w : Wd} {X : Int → Int → Prop} (hv : OK xE (fun r1 u1 => OK (xR u1) (fun r2 u2 => LV m u2 ∧ X r1 r2))) (hE : PC xE (fun _ u => RS u ∧ ∀ c, c ≠ 82 → u c = w c)) (hR : PC xE (fun _ u => PC (xR u) (fun _ u2 => ∀ c, c < 43 → u2 c = u c))) (_hl : LU w) (hw : w 3 1 = w 43 15) (q : ∀ a, RS a → w 3 1 = a 43 15 → PC xE (fun r u => PC (xR a) (fun r' u' => X r r' → u 3 1 = u' 43 15))) : OK xE (fun r1 u1 => OK (xR u1) (fun r2 u2 => LRZ m u2 ∧ X r1 r2)) := by
  obtain ⟨r1, u1, e1, r2, u2, e2, q1, q2⟩ := hv
  obtain ⟨g, hi⟩ := hE r1 u1 e1
  have f := hR r1 u1 e1 r2 u2 e2
  refine ⟨r1, u1, e1, r2, u2, e2, ⟨q1, ?_⟩, q2⟩
  rw [congrFun (f 3 (by decide)) 1]
  exact q u1 g (by rw [hi 43 (by decide)]; exact hw) r1 u1 e1 r2 u2 e2 q2
theorem dxc {xE : Option (Int × Wd)} {xR : Wd → Option (Int × Wd)} {m : Int} {w : Wd} (hv : OK xE (fun r1 u1 => OK (xR u1) (fun r2 u2 => LV m u2 ∧ True))) (hE : PC xE (fun _ u => RS u ∧ ∀ c, 43 ≤ c → u c = w c)) (hR : PC xE (fun _ u => PC (xR u) (fun _ u2 => ∀ c, c < 43 → u2 c = u c))) (hl : LU w) (hw : w 3 1 = w 43 15) (q : ∀ a, RS a → ER a w → w 3 1 = a 43 15 → PC xE (fun r u => PC (xR a) (fun r' u' => True → u 3 1 = u' 43 15))) (qc : ∀ a, ER a w → w 3 1 = a 43 15 → PC xE (fun r _ => PC (xR a) (fun r' _ => r = r'))) : OK xE (fun r1 u1 => OK (xR u1) (fun r2 u2 => LRZ m u2 ∧ r1 = r2)) := by
  obtain ⟨r1, u1, e1, r2, u2, e2, q1, q2⟩ := hv
  obtain ⟨g, hi⟩ := hE r1 u1 e1
  have f := hR r1 u1 e1 r2 u2 e2
  have e : w 3 1 = u1 43 15 := by rw [hi 43 (by decide)]; exact hw
  refine ⟨r1, u1, e1, r2, u2, e2, ⟨q1, ?_⟩, qc u1 (lu_er hl hi) e r1 u1 e1 r2 u2 e2⟩
  rw [congrFun (f 3 (by decide)) 1]
  exact q u1 g (lu_er hl hi) e r1 u1 e1 r2 u2 e2 trivial
theorem sz_bars {a w : Wd} (h : ER a w) : PC (f_E_bars w) (fun r u => PC (f_R_bars a) (fun r' u' => r = r' → u 3 1 = u' 43 15)) := by
  refine pc_w se_bars (fun r u q => pc_w (pc_and sr_bars (rbars_pc (er_p h) rfl (er_kn h))) (fun r' u' q2 er => ?_))
  have b := q2.2.1.1
  have c := q2.1
  rcases q with e | e <;> omega
theorem sz_line {a w : Wd} {v1 r r' t t' : Int} (h3 : w 5 3 = a 43 0) (e : w 3 1 = a 43 15) (er : r = r') (h : SZK (hd (w 5 3) v1 = 0) (w 3 1) r t) (h' : SZK (hd (a 43 0) v1 = 0) (a 43 15) (imax 0 r') t') (ht : (0 : Int) ≤ t ∧ t ≤ 20) : t = t' := by
  rw [h3] at h
  have im := imax_sp 0 r'
  rcases h with ⟨b1, b2⟩ | ⟨b1, b2⟩
  · rcases h' with ⟨_, c2⟩ | ⟨c1, _⟩
    · omega
    · exact absurd b1 c1
  · rcases h' with ⟨c1, _⟩ | ⟨_, c2⟩
    · exact absurd c1 b1
    · omega
theorem sz_cheap {a w : Wd} {P g se : Int} {h kn : Nat → Int} {x0 n v1 : Int} (hp : PRM a w P g se h kn x0) (hG : G [] a a) (hs : SCR n w) (hn : n ≤ 2600) (hk : w 28 9 ≠ 0 → KPT P g se h kn x0 w) (e : w 3 1 = a 43 15) : PC (f_E_cheap v1 w) (fun r u => PC (f_R_cheap v1 a) (fun r' u' => r = r' → u 3 1 = u' 43 15)) := by
  obtain ⟨H, hH⟩ := hitp_ex P g se h kn (a 44) x0
  refine pc_w (se_cheap hp hs hn hk hH) (fun r u q => pc_w (sr_cheap hp hG hH) (fun r' u' q2 er => ?_))
  rw [e, er] at q
  exact chsz_eq q q2
theorem er_count {a w : Wd} {v1 : Int} (h : ER a w) (hs : w 3 1 = a 43 15) : PC (f_E_count v1 w) (fun r _ => PC (f_R_count v1 a) (fun r' _ => r = r')) := by
  have x0 := er_p h
  have x3 := er_3 h
  have xh : B10 (w 5 5) (hB (a 43 0) (a 46)) := h.1.2.2.1
  have xw : WH (w 5 4) (a 47) (a 43 0) := h.1.2.2.2.1
  have x567 : w 5 6 = a 43 7 ∧ w 15 3 = a 43 8 ∧ w 15 4 = a 43 32 := h.1.2.2.2.2.1
  have x11 : w 1 1 = a 43 13 := h.1.1.1.1
  have yk : ∀ {y : Wd} {k : Nat}, y = st a 43 16 0 → 16 ≠ k → y 43 k = a 43 k := fun {y k} ey hk => by rw [ey, st_k (fun hh => hk hh.symm)]
  have yr : ∀ {y : Wd} {c : Nat}, y = st a 43 16 0 → 43 ≠ c → y c = a c := fun {y c} ey hc => by rw [ey, st_row (fun hh => hc hh.symm)]
  unfold f_E_count
  refine pc_ite (fun c => pc_some ?_) (fun c => pc_ite (fun c0 => pc_some ?_) (fun c0 => pc_ite (fun c1 => pc_some ?_) (fun c1 => pc_ite (fun c2 => pc_call (eg_e xw) (fun r1 u2 q => pc_some ?_)) (fun c2 => pc_ite (fun c3 => pc_call (es_e xw x0 x3) (fun r1 u2 q => pc_some ?_)) (fun c3 => pc_ite (fun c4 => ?_) (fun c4 => pc_ite (fun c5 => pc_some ?_) (fun c5 => pc_ite (fun c6 => pc_some ?_) (fun c6 => pc_ite (fun c7 => pc_some ?_) (fun c7 => pc_ite (fun c8 => pc_some ?_) (fun c8 => pc_ite (fun c9 => pc_some ?_) (fun c9 => pc_none)))))))))))
  · unfold f_R_count
    refine pc_lw (fun y ey => ?_)
    rw [if_pos c]
    exact pc_some rfl
  · unfold f_R_count
    refine pc_lw (fun y ey => ?_)
    rw [if_neg c, if_pos c0]
    exact pc_some (x3.trans (yk ey (by decide)).symm)
  · unfold f_R_count
    refine pc_lw (fun y ey => ?_)
    rw [if_neg c, if_neg c0, if_pos c1]
    exact pc_some (x567.2.1.trans (yk ey (by decide)).symm)
  · unfold f_R_count
    refine pc_lw (fun y ey => ?_)
    rw [if_neg c, if_neg c0, if_neg c1, if_pos c2]
    refine pc_call (rg_e (w := y) (by rw [yk ey (by decide)]; exact x0)) (fun r2 u3 z => pc_some ?_)
    have z2 := z.2
    rw [yk ey (by decide), yr ey (by decide)] at z2
    exact b10_eq q.2 z2 (fun _ _ => rfl)
  · unfold f_R_count
    refine pc_lw (fun y ey => ?_)
    rw [if_neg c, if_neg c0, if_neg c1, if_neg c2, if_pos c3]
    refine pc_call (rs0_e (w := y) (by rw [yk ey (by decide)]; exact x0)) (fun r2 u3 z => pc_some ?_)
    have z2 := z.2
    rw [yk ey (by decide), yr ey (by decide)] at z2
    exact b10_eq q.2 z2 (fun _ _ => rfl)
  · obtain ⟨r, er, br⟩ := oo_e xw w
    rw [er, jc_s]
    refine pc_some ?_
    unfold f_R_count
    refine pc_lw (fun y ey => ?_)
    rw [if_neg c, if_neg c0, if_neg c1, if_neg c2, if_neg c3, if_pos c4]
    refine pc_call (rou_e (w := y) (by rw [yk ey (by decide)]; exact x0)) (fun r2 u3 z => pc_some ?_)
    have z2 := z.2
    rw [yk ey (by decide), yr ey (by decide)] at z2
    exact b10_eq br z2 (fun _ _ => rfl)
  · unfold f_R_count
    refine pc_lw (fun y ey => ?_)
    rw [if_neg c, if_neg c0, if_neg c1, if_neg c2, if_neg c3, if_neg c4, if_pos c5]
    exact pc_some (x567.1.trans (yk ey (by decide)).symm)
  · unfold f_R_count
    refine pc_lw (fun y ey => ?_)
    rw [if_neg c, if_neg c0, if_neg c1, if_neg c2, if_neg c3, if_neg c4, if_neg c5, if_pos c6]
    exact pc_some (x567.2.2.trans (yk ey (by decide)).symm)
  · unfold f_R_count
    refine pc_lw (fun y ey => ?_)
    rw [if_neg c, if_neg c0, if_neg c1, if_neg c2, if_neg c3, if_neg c4, if_neg c5, if_neg c6, if_pos c7]
    exact pc_some (hs.trans (yk ey (by decide)).symm)
  · unfold f_R_count
    refine pc_lw (fun y ey => ?_)
    rw [if_neg c, if_neg c0, if_neg c1, if_neg c2, if_neg c3, if_neg c4, if_neg c5, if_neg c6, if_neg c7, if_pos c8]
    exact pc_some (x11.trans (yk ey (by decide)).symm)
  · unfold f_R_count
    refine pc_lw (fun y ey => ?_)
    rw [if_neg c, if_neg c0, if_neg c1, if_neg c2, if_neg c3, if_neg c4, if_neg c5, if_neg c6, if_neg c7, if_neg c8, if_pos c9]
    refine pc_call (hidden_e (w := y) (by rw [yk ey (by decide)]; exact x0)) (fun r2 u3 z => pc_some ?_)
    have z2 := z.2
    rw [yk ey (by decide), yr ey (by decide)] at z2
    exact b10_eq xh z2 (fun _ _ => rfl)
theorem x_sign {n : Int} {w : Wd} {v1 : Int} (h : LRZ n w) (hn : n ≤ 2600) (i_v1 : ((-2147483648 : Int) ≤ v1 ∧ v1 ≤ 2147483647)) : OK (f_E_sign v1 w) (fun r1 u1 => OK (f_R_sign v1 u1) (fun r2 u2 => LRZ (n + 5) u2 ∧ r1 = r2)) := dx (xR := fun u => f_R_sign v1 u) (X := fun r1 r2 => r1 = r2) (v_sign h.1 hn i_v1) (pc_w (pc_ok (e_E_sign h.1.1.1.1 i_v1)) (fun _ _ q => ⟨q.2.1, g_hi q.1 (by decide)⟩)) (pc_w (pc_ok (e_E_sign h.1.1.1.1 i_v1)) (fun _ _ q => pc_w (pc_ok (e_R_sign q.2.1 i_v1)) (fun _ _ q2 => g_lo q2.1 rfl))) h.1.1 h.2 (fun a ga ha e => pc_w (pc_ok (e_E_sign h.1.1.1.1 i_v1)) (fun _ _ q => pc_w (pc_ok (e_R_sign ga i_v1)) (fun _ _ q2 _ => (q.1.2.1 3 1 rfl).trans (e.trans (q2.1.2.1 43 15 rfl).symm))))
theorem x_end {n : Int} {w : Wd} {v1 : Int} (h : LRZ n w) (hn : n ≤ 2600) (i_v1 : ((-2147483648 : Int) ≤ v1 ∧ v1 ≤ 2147483647)) : OK (f_E_end v1 w) (fun r1 u1 => OK (f_R_end v1 u1) (fun r2 u2 => LRZ (n + 5) u2 ∧ r1 = r2)) := dx (xR := fun u => f_R_end v1 u) (X := fun r1 r2 => r1 = r2) (v_end h.1 hn i_v1) (pc_w (pc_ok (e_E_end h.1.1.1.1 i_v1)) (fun _ _ q => ⟨q.2.1, g_hi q.1 (by decide)⟩)) (pc_w (pc_ok (e_E_end h.1.1.1.1 i_v1)) (fun _ _ q => pc_w (pc_ok (e_R_end q.2.1 i_v1)) (fun _ _ q2 => g_lo q2.1 rfl))) h.1.1 h.2 (fun a ga ha e => pc_w (pc_ok (e_E_end h.1.1.1.1 i_v1)) (fun _ _ q => pc_w (pc_ok (e_R_end ga i_v1)) (fun _ _ q2 _ => (q.1.2.1 3 1 rfl).trans (e.trans (q2.1.2.1 43 15 rfl).symm))))
theorem x_land {n : Int} {w : Wd} (h : LRZ n w) (hn : n ≤ 2600) : OK (f_E_land w) (fun r1 u1 => OK (f_R_land u1) (fun r2 u2 => LRZ (n + 5) u2 ∧ r1 = r2)) := dx (xR := fun u => f_R_land u) (X := fun r1 r2 => r1 = r2) (v_land h.1 hn) (pc_w (pc_ok (e_E_land h.1.1.1.1)) (fun _ _ q => ⟨q.2.1, g_hi q.1 (by decide)⟩)) (pc_w (pc_ok (e_E_land h.1.1.1.1)) (fun _ _ q => pc_w (pc_ok (e_R_land q.2.1)) (fun _ _ q2 => g_lo q2.1 rfl))) h.1.1 h.2 (fun a ga ha e => pc_w (pc_ok (e_E_land h.1.1.1.1)) (fun _ _ q => pc_w (pc_ok (e_R_land ga)) (fun _ _ q2 _ => (q.1.2.1 3 1 rfl).trans (e.trans (q2.1.2.1 43 15 rfl).symm))))
theorem x_rule {n : Int} {w : Wd} (h : LRZ n w) (hn : n ≤ 2600) : OK (f_E_rule w) (fun r1 u1 => OK (f_R_rule u1) (fun r2 u2 => LRZ (n + 5) u2 ∧ r1 = r2)) := dx (xR := fun u => f_R_rule u) (X := fun r1 r2 => r1 = r2) (v_rule h.1 hn) (pc_w (pc_ok (e_E_rule h.1.1.1.1)) (fun _ _ q => ⟨q.2.1, g_hi q.1 (by decide)⟩)) (pc_w (pc_ok (e_E_rule h.1.1.1.1)) (fun _ _ q => pc_w (pc_ok (e_R_rule q.2.1)) (fun _ _ q2 => g_lo q2.1 rfl))) h.1.1 h.2 (fun a ga ha e => pc_w (pc_ok (e_E_rule h.1.1.1.1)) (fun _ _ q => pc_w (pc_ok (e_R_rule ga)) (fun _ _ q2 _ => (q.1.2.1 3 1 rfl).trans (e.trans (q2.1.2.1 43 15 rfl).symm))))
theorem x_of {n : Int} {w : Wd} {v1 v2 : Int} (h : LRZ n w) (hn : n ≤ 2600) (i_v1 : ((-2147483648 : Int) ≤ v1 ∧ v1 ≤ 2147483647)) (i_v2 : ((-2147483648 : Int) ≤ v2 ∧ v2 ≤ 2147483647)) : OK (f_A_of v1 v2 w) (fun r1 u1 => OK (f_R_of v1 v2 u1) (fun r2 u2 => LRZ (n + 5) u2 ∧ True)) := dxa (xR := fun u => f_R_of v1 v2 u) (X := fun r1 r2 => True) (v_of h.1 hn i_v1 i_v2) (pc_ok (e_A_of h.1.1.1.1 i_v1 i_v2)) (pc_w (pc_ok (e_A_of h.1.1.1.1 i_v1 i_v2)) (fun _ _ q => pc_w (pc_ok (e_R_of q.1 i_v1 i_v2)) (fun _ _ q2 => g_lo q2.1 rfl))) h.1.1 h.2 (fun a ga e => pc_w (pc_ok (e_A_of h.1.1.1.1 i_v1 i_v2)) (fun _ _ q => pc_w (pc_ok (e_R_of ga i_v1 i_v2)) (fun _ _ q2 _ => (congrFun (q.2 3 (by decide)) 1).trans (e.trans (q2.1.2.1 43 15 rfl).symm))))
theorem x_law {n : Int} {w : Wd} {v1 v2 : Int} (h : LRZ n w) (hn : n ≤ 2600) (i_v1 : ((-2147483648 : Int) ≤ v1 ∧ v1 ≤ 2147483647)) (i_v2 : ((-2147483648 : Int) ≤ v2 ∧ v2 ≤ 2147483647)) : OK (f_E_law v1 v2 w) (fun r1 u1 => OK (f_R_law v1 v2 u1) (fun r2 u2 => LRZ (n + 5) u2 ∧ r1 = r2)) := dx (xR := fun u => f_R_law v1 v2 u) (X := fun r1 r2 => r1 = r2) (v_law h.1 hn i_v1 i_v2) (pc_w (pc_ok (e_E_law h.1.1.1.1 i_v1 i_v2)) (fun _ _ q => ⟨q.2, g_hi q.1 (by decide)⟩)) (pc_w (pc_ok (e_E_law h.1.1.1.1 i_v1 i_v2)) (fun _ _ q => pc_w (pc_ok (e_R_law q.2 i_v1 i_v2)) (fun _ _ q2 => g_lo q2.1 rfl))) h.1.1 h.2 (fun a ga ha e => pc_w (pc_ok (e_E_law h.1.1.1.1 i_v1 i_v2)) (fun _ _ q => pc_w (pc_ok (e_R_law ga i_v1 i_v2)) (fun _ _ q2 _ => (q.1.2.1 3 1 rfl).trans (e.trans (q2.1.2.1 43 15 rfl).symm))))
theorem x_meet {n : Int} {w : Wd} {v1 v2 v3 : Int} (h : LRZ n w) (hn : n ≤ 2600) (i_v1 : ((-2147483648 : Int) ≤ v1 ∧ v1 ≤ 2147483647)) (i_v2 : ((-2147483648 : Int) ≤ v2 ∧ v2 ≤ 2147483647)) (i_v3 : ((0 : Int) ≤ v3 ∧ v3 ≤ 1)) : OK (f_E_meet v1 v2 v3 w) (fun r1 u1 => OK (f_R_meet v1 v2 v3 u1) (fun r2 u2 => LRZ (n + 5) u2 ∧ r1 = r2)) := dx (xR := fun u => f_R_meet v1 v2 v3 u) (X := fun r1 r2 => r1 = r2) (v_meet h.1 hn i_v1 i_v2 i_v3) (pc_w (pc_ok (e_E_meet h.1.1.1.1 i_v1 i_v2 i_v3)) (fun _ _ q => ⟨q.2, g_hi q.1 (by decide)⟩)) (pc_w (pc_ok (e_E_meet h.1.1.1.1 i_v1 i_v2 i_v3)) (fun _ _ q => pc_w (pc_ok (e_R_meet q.2 i_v1 i_v2 i_v3)) (fun _ _ q2 => g_lo q2.1 rfl))) h.1.1 h.2 (fun a ga ha e => pc_w (pc_ok (e_E_meet h.1.1.1.1 i_v1 i_v2 i_v3)) (fun _ _ q => pc_w (pc_ok (e_R_meet ga i_v1 i_v2 i_v3)) (fun _ _ q2 _ => (q.1.2.1 3 1 rfl).trans (e.trans (q2.1.2.1 43 15 rfl).symm))))
theorem x_hide {n : Int} {w : Wd} {v1 v2 : Int} (h : LRZ n w) (hn : n ≤ 2600) (i_v1 : ((-2147483648 : Int) ≤ v1 ∧ v1 ≤ 2147483647)) (i_v2 : ((0 : Int) ≤ v2 ∧ v2 ≤ 1)) : OK (f_E_hide v1 v2 w) (fun r1 u1 => OK (f_R_hide v1 v2 u1) (fun r2 u2 => LRZ (n + 5) u2 ∧ r1 = r2)) := dx (xR := fun u => f_R_hide v1 v2 u) (X := fun r1 r2 => r1 = r2) (v_hide h.1 hn i_v1 i_v2) (pc_w (pc_ok (e_E_hide h.1.1.1.1 i_v1 i_v2)) (fun _ _ q => ⟨q.2, g_hi q.1 (by decide)⟩)) (pc_w (pc_ok (e_E_hide h.1.1.1.1 i_v1 i_v2)) (fun _ _ q => pc_w (pc_ok (e_R_hide q.2 i_v1 i_v2)) (fun _ _ q2 => g_lo q2.1 rfl))) h.1.1 h.2 (fun a ga ha e => pc_w (pc_ok (e_E_hide h.1.1.1.1 i_v1 i_v2)) (fun _ _ q => pc_w (pc_ok (e_R_hide ga i_v1 i_v2)) (fun _ _ q2 _ => (q.1.2.1 3 1 rfl).trans (e.trans (q2.1.2.1 43 15 rfl).symm))))
theorem x_baby {n : Int} {w : Wd} {v1 : Int} (h : LRZ n w) (hn : n ≤ 2600) (i_v1 : ((-2147483648 : Int) ≤ v1 ∧ v1 ≤ 2147483647)) : OK (f_E_baby v1 w) (fun r1 u1 => OK (f_R_baby v1 u1) (fun r2 u2 => LRZ (n + 5) u2 ∧ r1 = r2)) := dx (xR := fun u => f_R_baby v1 u) (X := fun r1 r2 => r1 = r2) (v_baby h.1 hn i_v1) (pc_w (pc_ok (e_E_baby h.1.1.1.1 i_v1)) (fun _ _ q => ⟨q.2, g_hi q.1 (by decide)⟩)) (pc_w (pc_ok (e_E_baby h.1.1.1.1 i_v1)) (fun _ _ q => pc_w (pc_ok (e_R_baby q.2 i_v1)) (fun _ _ q2 => g_lo q2.1 rfl))) h.1.1 h.2 (fun a ga ha e => pc_w (pc_ok (e_E_baby h.1.1.1.1 i_v1)) (fun _ _ q => pc_w (pc_ok (e_R_baby ga i_v1)) (fun _ _ q2 _ => (q.1.2.1 3 1 rfl).trans (e.trans (q2.1.2.1 43 15 rfl).symm))))
theorem x_sheet {n : Int} {w : Wd} {v1 v2 v3 v4 : Int} (h : LRZ n w) (hn : n ≤ 2600) (i_v1 : ((-2147483648 : Int) ≤ v1 ∧ v1 ≤ 2147483647)) (i_v2 : ((-2147483648 : Int) ≤ v2 ∧ v2 ≤ 2147483647)) (i_v3 : ((-2147483648 : Int) ≤ v3 ∧ v3 ≤ 2147483647)) (i_v4 : ((-2147483648 : Int) ≤ v4 ∧ v4 ≤ 2147483647)) : OK (f_E_sheet v1 v2 v3 v4 w) (fun r1 u1 => OK (f_R_sheet v1 v2 v3 v4 u1) (fun r2 u2 => LRZ (n + 5) u2 ∧ r1 = r2)) := dx (xR := fun u => f_R_sheet v1 v2 v3 v4 u) (X := fun r1 r2 => r1 = r2) (v_sheet h.1 hn i_v1 i_v2 i_v3 i_v4) (pc_w (pc_ok (e_E_sheet h.1.1.1.1 i_v1 i_v2 i_v3 i_v4)) (fun _ _ q => ⟨q.2, g_hi q.1 (by decide)⟩)) (pc_w (pc_ok (e_E_sheet h.1.1.1.1 i_v1 i_v2 i_v3 i_v4)) (fun _ _ q => pc_w (pc_ok (e_R_sheet q.2 i_v1 i_v2 i_v3 i_v4)) (fun _ _ q2 => g_lo q2.1 rfl))) h.1.1 h.2 (fun a ga ha e => pc_w (pc_ok (e_E_sheet h.1.1.1.1 i_v1 i_v2 i_v3 i_v4)) (fun _ _ q => pc_w (pc_ok (e_R_sheet ga i_v1 i_v2 i_v3 i_v4)) (fun _ _ q2 _ => (q.1.2.1 3 1 rfl).trans (e.trans (q2.1.2.1 43 15 rfl).symm))))
theorem x_week {n : Int} {w : Wd} (h : LRZ n w) (hn : n ≤ 2600) : OK (f_E_week w) (fun r1 u1 => OK (f_R_week u1) (fun r2 u2 => LRZ (n + 5) u2 ∧ r1 = r2)) := dx (xR := fun u => f_R_week u) (X := fun r1 r2 => r1 = r2) (v_week h.1 hn) (pc_w (pc_ok (e_E_week h.1.1.1.1)) (fun _ _ q => ⟨q.2.1, g_hi q.1 (by decide)⟩)) (pc_w (pc_ok (e_E_week h.1.1.1.1)) (fun _ _ q => pc_w (pc_ok (e_R_week q.2.1)) (fun _ _ q2 => g_lo q2.1 rfl))) h.1.1 h.2 (fun a ga ha e => pc_w (pc_ok (e_E_week h.1.1.1.1)) (fun _ _ q => pc_w (pc_ok (e_R_week ga)) (fun _ _ q2 _ => (q.1.2.1 3 1 rfl).trans (e.trans (q2.1.2.1 43 15 rfl).symm))))
theorem x_goes {n : Int} {w : Wd} {v1 : Int} (h : LRZ n w) (hn : n ≤ 2600) (i_v1 : ((-2147483648 : Int) ≤ v1 ∧ v1 ≤ 2147483647)) : OK (f_E_goes v1 w) (fun r1 u1 => OK (f_R_goes v1 u1) (fun r2 u2 => LRZ (n + 5) u2 ∧ r1 = r2)) := dx (xR := fun u => f_R_goes v1 u) (X := fun r1 r2 => r1 = r2) (v_goes h.1 hn i_v1) (pc_w (pc_ok (e_E_goes h.1.1.1.1 i_v1)) (fun _ _ q => ⟨q.2, g_hi q.1 (by decide)⟩)) (pc_w (pc_ok (e_E_goes h.1.1.1.1 i_v1)) (fun _ _ q => pc_w (pc_ok (e_R_goes q.2 i_v1)) (fun _ _ q2 => g_lo q2.1 rfl))) h.1.1 h.2 (fun a ga ha e => pc_w (se_goes) (fun _ _ q => pc_w (sr_goes) (fun _ _ q2 er => by rw [e] at q; exact szk_eq q q2 Iff.rfl)))
theorem x_undo {n : Int} {w : Wd} (h : LRZ n w) (hn : n ≤ 2600) : OK (f_E_undo w) (fun r1 u1 => OK (f_R_undo u1) (fun r2 u2 => LRZ (n + 5) u2 ∧ r1 = r2)) := dx (xR := fun u => f_R_undo u) (X := fun r1 r2 => r1 = r2) (v_undo h.1 hn) (pc_w (pc_ok (e_E_undo h.1.1.1.1)) (fun _ _ q => ⟨q.2, g_hi q.1 (by decide)⟩)) (pc_w (pc_ok (e_E_undo h.1.1.1.1)) (fun _ _ q => pc_w (pc_ok (e_R_undo q.2)) (fun _ _ q2 => g_lo q2.1 rfl))) h.1.1 h.2 (fun a ga ha e => pc_w (pc_ok (e_E_undo h.1.1.1.1)) (fun _ _ q => pc_w (pc_ok (e_R_undo ga)) (fun _ _ q2 _ => (q.1.2.1 3 1 rfl).trans (e.trans (q2.1.2.1 43 15 rfl).symm))))
theorem x_can {n : Int} {w : Wd} (h : LRZ n w) (hn : n ≤ 2600) : OK (f_E_can w) (fun r1 u1 => OK (f_R_can u1) (fun r2 u2 => LRZ (n + 5) u2 ∧ True)) := dx (xR := fun u => f_R_can u) (X := fun r1 r2 => True) (v_can h.1 hn) (pc_w (pc_ok (e_E_can h.1.1.1.1)) (fun _ _ q => ⟨q.2, g_hi q.1 (by decide)⟩)) (pc_w (pc_ok (e_E_can h.1.1.1.1)) (fun _ _ q => pc_w (pc_ok (e_R_can q.2)) (fun _ _ q2 => g_lo q2.1 rfl))) h.1.1 h.2 (fun a ga ha e => pc_w se_can (fun _ _ q => pc_w sr_can (fun _ _ q2 _ => q.trans q2.symm)))
theorem x_picks {n : Int} {w : Wd} {v1 : Int} (h : LRZ n w) (hn : n ≤ 2600) (i_v1 : ((-2147483648 : Int) ≤ v1 ∧ v1 ≤ 2147483647)) : OK (f_E_picks v1 w) (fun r1 u1 => OK (f_R_picks v1 u1) (fun r2 u2 => LRZ (n + 5) u2 ∧ r1 = r2)) := dx (xR := fun u => f_R_picks v1 u) (X := fun r1 r2 => r1 = r2) (v_picks h.1 hn i_v1) (pc_w (pc_ok (e_E_picks h.1.1.1.1 i_v1)) (fun _ _ q => ⟨q.2, g_hi q.1 (by decide)⟩)) (pc_w (pc_ok (e_E_picks h.1.1.1.1 i_v1)) (fun _ _ q => pc_w (pc_ok (e_R_picks q.2 i_v1)) (fun _ _ q2 => g_lo q2.1 rfl))) h.1.1 h.2 (fun a ga ha e => pc_w (pc_ok (e_E_picks h.1.1.1.1 i_v1)) (fun _ _ q => pc_w (pc_ok (e_R_picks ga i_v1)) (fun _ _ q2 _ => (q.1.2.1 3 1 rfl).trans (e.trans (q2.1.2.1 43 15 rfl).symm))))
theorem x_pairs {n : Int} {w : Wd} (h : LRZ n w) (hn : n ≤ 2600) : OK (f_E_pairs w) (fun r1 u1 => OK (f_R_pairs u1) (fun r2 u2 => LRZ (n + 5) u2 ∧ r1 = r2)) := dx (xR := fun u => f_R_pairs u) (X := fun r1 r2 => r1 = r2) (v_pairs h.1 hn) (pc_w (pc_ok (e_E_pairs h.1.1.1.1)) (fun _ _ q => ⟨q.2, g_hi q.1 (by decide)⟩)) (pc_w (pc_ok (e_E_pairs h.1.1.1.1)) (fun _ _ q => pc_w (pc_ok (e_R_pairs q.2)) (fun _ _ q2 => g_lo q2.1 rfl))) h.1.1 h.2 (fun a ga ha e => pc_w se_pairs (fun _ _ q => pc_w (sr_pairs (er_p ha) rfl (er_kn ha)) (fun _ _ q2 er => q.trans (er.trans q2.symm))))
theorem x_bars {n : Int} {w : Wd} (h : LRZ n w) (hn : n ≤ 2600) : OK (f_E_bars w) (fun r1 u1 => OK (f_R_bars u1) (fun r2 u2 => LRZ (n + 5) u2 ∧ r1 = r2)) := dx (xR := fun u => f_R_bars u) (X := fun r1 r2 => r1 = r2) (v_bars h.1 hn) (pc_w (pc_ok (e_E_bars h.1.1.1.1)) (fun _ _ q => ⟨q.2, g_hi q.1 (by decide)⟩)) (pc_w (pc_ok (e_E_bars h.1.1.1.1)) (fun _ _ q => pc_w (pc_ok (e_R_bars q.2)) (fun _ _ q2 => g_lo q2.1 rfl))) h.1.1 h.2 (fun a ga ha e => sz_bars ha)
theorem x_states {n : Int} {w : Wd} (h : LRZ n w) (hn : n ≤ 2600) : OK (f_E_states w) (fun r1 u1 => OK (f_R_states u1) (fun r2 u2 => LRZ (n + 5) u2 ∧ r1 = r2)) := dx (xR := fun u => f_R_states u) (X := fun r1 r2 => r1 = r2) (v_states h.1 hn) (pc_w (pc_ok (e_E_states h.1.1.1.1)) (fun _ _ q => ⟨q.2, g_hi q.1 (by decide)⟩)) (pc_w (pc_ok (e_E_states h.1.1.1.1)) (fun _ _ q => pc_w (pc_ok (e_R_states q.2)) (fun _ _ q2 => g_lo q2.1 rfl))) h.1.1 h.2 (fun a ga ha e => pc_w (se_states (er_prm ha) h.1.2 hn h.1.2.2) (fun _ _ q => pc_w (sr_states (er_prm ha) ga.1) (fun _ _ q2 er => by rw [e] at q; exact szk_eq q q2 Iff.rfl)))
theorem x_most {n : Int} {w : Wd} {v1 : Int} (h : LRZ n w) (hn : n ≤ 2600) (i_v1 : ((-2147483648 : Int) ≤ v1 ∧ v1 ≤ 2147483647)) : OK (f_E_most v1 w) (fun r1 u1 => OK (f_R_most v1 u1) (fun r2 u2 => LRZ (n + 5) u2 ∧ r1 = r2)) := dx (xR := fun u => f_R_most v1 u) (X := fun r1 r2 => r1 = r2) (v_most h.1 hn i_v1) (pc_w (pc_ok (e_E_most h.1.1.1.1 i_v1)) (fun _ _ q => ⟨q.2, g_hi q.1 (by decide)⟩)) (pc_w (pc_ok (e_E_most h.1.1.1.1 i_v1)) (fun _ _ q => pc_w (pc_ok (e_R_most q.2 i_v1)) (fun _ _ q2 => g_lo q2.1 rfl))) h.1.1 h.2 (fun a ga ha e => pc_w (se_most (er_prm ha) h.1.2 hn h.1.2.2) (fun _ _ q => pc_w (sr_most (er_prm ha) ga.1) (fun _ _ q2 er => by rw [e] at q; exact szk_eq q q2 Iff.rfl)))
theorem x_reach {n : Int} {w : Wd} {v1 : Int} (h : LRZ n w) (hn : n ≤ 2600) (i_v1 : ((-2147483648 : Int) ≤ v1 ∧ v1 ≤ 2147483647)) : OK (f_E_reach v1 w) (fun r1 u1 => OK (f_R_reach v1 u1) (fun r2 u2 => LRZ (n + 5) u2 ∧ r1 = r2)) := dx (xR := fun u => f_R_reach v1 u) (X := fun r1 r2 => r1 = r2) (v_reach h.1 hn i_v1) (pc_w (pc_ok (e_E_reach h.1.1.1.1 i_v1)) (fun _ _ q => ⟨q.2, g_hi q.1 (by decide)⟩)) (pc_w (pc_ok (e_E_reach h.1.1.1.1 i_v1)) (fun _ _ q => pc_w (pc_ok (e_R_reach q.2 i_v1)) (fun _ _ q2 => g_lo q2.1 rfl))) h.1.1 h.2 (fun a ga ha e => pc_w (se_reach (er_prm ha) h.1.2 hn h.1.2.2) (fun _ _ q => pc_w (sr_reach (er_prm ha) ga.1) (fun _ _ q2 er => by rw [e] at q; exact szk_eq q q2 Iff.rfl)))
theorem x_fewest {n : Int} {w : Wd} {v1 : Int} (h : LRZ n w) (hn : n ≤ 2600) (i_v1 : ((-2147483648 : Int) ≤ v1 ∧ v1 ≤ 2147483647)) : OK (f_E_fewest v1 w) (fun r1 u1 => OK (f_R_fewest v1 u1) (fun r2 u2 => LRZ (n + 5) u2 ∧ r1 = r2)) := dx (xR := fun u => f_R_fewest v1 u) (X := fun r1 r2 => r1 = r2) (v_fewest h.1 hn i_v1) (pc_w (pc_ok (e_E_fewest h.1.1.1.1 i_v1)) (fun _ _ q => ⟨q.2, g_hi q.1 (by decide)⟩)) (pc_w (pc_ok (e_E_fewest h.1.1.1.1 i_v1)) (fun _ _ q => pc_w (pc_ok (e_R_fewest q.2 i_v1)) (fun _ _ q2 => g_lo q2.1 rfl))) h.1.1 h.2 (fun a ga ha e => pc_w (pc_ok (e_E_fewest h.1.1.1.1 i_v1)) (fun _ _ q => pc_w (pc_ok (e_R_fewest ga i_v1)) (fun _ _ q2 _ => (q.1.2.1 3 1 rfl).trans (e.trans (q2.1.2.1 43 15 rfl).symm))))
theorem x_crowd {n : Int} {w : Wd} (h : LRZ n w) (hn : n ≤ 2600) : OK (f_E_crowd w) (fun r1 u1 => OK (f_R_crowd u1) (fun r2 u2 => LRZ (n + 5) u2 ∧ r1 = r2)) := dx (xR := fun u => f_R_crowd u) (X := fun r1 r2 => r1 = r2) (v_crowd h.1 hn) (pc_w (pc_ok (e_E_crowd h.1.1.1.1)) (fun _ _ q => ⟨q.2, g_hi q.1 (by decide)⟩)) (pc_w (pc_ok (e_E_crowd h.1.1.1.1)) (fun _ _ q => pc_w (pc_ok (e_R_crowd q.2)) (fun _ _ q2 => g_lo q2.1 rfl))) h.1.1 h.2 (fun a ga ha e => pc_w (se_crowd (er_prm ha) h.1.2 hn h.1.2.2) (fun _ _ q => pc_w (sr_crowd (er_prm ha) ga.1) (fun _ _ q2 er => by rw [e] at q; exact szk_eq q q2 Iff.rfl)))
theorem x_both {n : Int} {w : Wd} {v1 v2 v3 : Int} (h : LRZ n w) (hn : n ≤ 2600) (i_v1 : ((-2147483648 : Int) ≤ v1 ∧ v1 ≤ 2147483647)) (i_v2 : ((-2147483648 : Int) ≤ v2 ∧ v2 ≤ 2147483647)) (i_v3 : ((-2147483648 : Int) ≤ v3 ∧ v3 ≤ 2147483647)) : OK (f_E_both v1 v2 v3 w) (fun r1 u1 => OK (f_R_both v1 v2 v3 u1) (fun r2 u2 => LRZ (n + 5) u2 ∧ r1 = r2)) := dx (xR := fun u => f_R_both v1 v2 v3 u) (X := fun r1 r2 => r1 = r2) (v_both h.1 hn i_v1 i_v2 i_v3) (pc_w (pc_ok (e_E_both h.1.1.1.1 i_v1 i_v2 i_v3)) (fun _ _ q => ⟨q.2, g_hi q.1 (by decide)⟩)) (pc_w (pc_ok (e_E_both h.1.1.1.1 i_v1 i_v2 i_v3)) (fun _ _ q => pc_w (pc_ok (e_R_both q.2 i_v1 i_v2 i_v3)) (fun _ _ q2 => g_lo q2.1 rfl))) h.1.1 h.2 (fun a ga ha e => pc_w (pc_ok (e_E_both h.1.1.1.1 i_v1 i_v2 i_v3)) (fun _ _ q => pc_w (pc_ok (e_R_both ga i_v1 i_v2 i_v3)) (fun _ _ q2 _ => (q.1.2.1 3 1 rfl).trans (e.trans (q2.1.2.1 43 15 rfl).symm))))
theorem x_last {n : Int} {w : Wd} (h : LRZ n w) (hn : n ≤ 2600) : OK (f_E_last w) (fun r1 u1 => OK (f_R_last u1) (fun r2 u2 => LRZ (n + 5) u2 ∧ r1 = r2)) := dx (xR := fun u => f_R_last u) (X := fun r1 r2 => r1 = r2) (v_last h.1 hn) (pc_w (pc_ok (e_E_last h.1.1.1.1)) (fun _ _ q => ⟨q.2, g_hi q.1 (by decide)⟩)) (pc_w (pc_ok (e_E_last h.1.1.1.1)) (fun _ _ q => pc_w (pc_ok (e_R_last q.2)) (fun _ _ q2 => g_lo q2.1 rfl))) h.1.1 h.2 (fun a ga ha e => pc_w (se_last (er_prm ha) h.1.2 hn h.1.2.2) (fun _ _ q => pc_w (srl_last (er_prm ha) ga.1) (fun _ _ q2 er => by rw [e] at q; exact szk_eq q q2 Iff.rfl)))
theorem x_begin {n : Int} {w : Wd} (h : LRZ n w) (hn : n ≤ 2600) : OK (f_E_begin w) (fun r1 u1 => OK (f_R_begin2 u1) (fun r2 u2 => LRZ (n + 5) u2 ∧ r1 = r2)) := dx (xR := fun u => f_R_begin2 u) (X := fun r1 r2 => r1 = r2) (v_begin h.1 hn) (pc_w (pc_ok (e_E_begin h.1.1.1.1)) (fun _ _ q => ⟨q.2, g_hi q.1 (by decide)⟩)) (pc_w (pc_ok (e_E_begin h.1.1.1.1)) (fun _ _ q => pc_w (pc_ok (e_R_begin2 q.2)) (fun _ _ q2 => g_lo q2.1 rfl))) h.1.1 h.2 (fun a ga ha e => pc_w (se_begin (er_prm ha) h.1.2 hn h.1.2.2) (fun _ _ q => pc_w (sr_begin (er_prm ha) ga.1) (fun _ _ q2 er => by rw [e, er] at q; exact szk_eq q q2 Iff.rfl)))
theorem x_cheap {n : Int} {w : Wd} {v1 : Int} (h : LRZ n w) (hn : n ≤ 2600) (i_v1 : ((-2147483648 : Int) ≤ v1 ∧ v1 ≤ 2147483647)) : OK (f_E_cheap v1 w) (fun r1 u1 => OK (f_R_cheap v1 u1) (fun r2 u2 => LRZ (n + 5) u2 ∧ r1 = r2)) := dx (xR := fun u => f_R_cheap v1 u) (X := fun r1 r2 => r1 = r2) (v_cheap h.1 hn i_v1) (pc_w (pc_ok (e_E_cheap h.1.1.1.1 i_v1)) (fun _ _ q => ⟨q.2, g_hi q.1 (by decide)⟩)) (pc_w (pc_ok (e_E_cheap h.1.1.1.1 i_v1)) (fun _ _ q => pc_w (pc_ok (e_R_cheap q.2 i_v1)) (fun _ _ q2 => g_lo q2.1 rfl))) h.1.1 h.2 (fun a ga ha e => sz_cheap (er_prm ha) ga.1 h.1.2 hn h.1.2.2 e)
theorem x_stays {n : Int} {w : Wd} {v1 : Int} (h : LRZ n w) (hn : n ≤ 2600) (i_v1 : ((-2147483648 : Int) ≤ v1 ∧ v1 ≤ 2147483647)) : OK (f_E_stays v1 w) (fun r1 u1 => OK (f_R_stays v1 u1) (fun r2 u2 => LRZ (n + 5) u2 ∧ r1 = r2)) := dx (xR := fun u => f_R_stays v1 u) (X := fun r1 r2 => r1 = r2) (v_stays h.1 hn i_v1) (pc_w (pc_ok (e_E_stays h.1.1.1.1 i_v1)) (fun _ _ q => ⟨q.2, g_hi q.1 (by decide)⟩)) (pc_w (pc_ok (e_E_stays h.1.1.1.1 i_v1)) (fun _ _ q => pc_w (pc_ok (e_R_stays q.2 i_v1)) (fun _ _ q2 => g_lo q2.1 rfl))) h.1.1 h.2 (fun a ga ha e => pc_w (se_stays (er_prm ha) h.1.2 hn h.1.2.2) (fun _ _ q => pc_w (sr_stays (er_prm ha) ga.1) (fun _ _ q2 er => by rw [e] at q; exact szk_eq q q2 Iff.rfl)))
theorem x_soonest {n : Int} {w : Wd} {v1 : Int} (h : LRZ n w) (hn : n ≤ 2600) (i_v1 : ((-2147483648 : Int) ≤ v1 ∧ v1 ≤ 2147483647)) : OK (f_E_soonest v1 w) (fun r1 u1 => OK (f_R_soonest v1 u1) (fun r2 u2 => LRZ (n + 5) u2 ∧ r1 = r2)) := dx (xR := fun u => f_R_soonest v1 u) (X := fun r1 r2 => r1 = r2) (v_soonest h.1 hn i_v1) (pc_w (pc_ok (e_E_soonest h.1.1.1.1 i_v1)) (fun _ _ q => ⟨q.2, g_hi q.1 (by decide)⟩)) (pc_w (pc_ok (e_E_soonest h.1.1.1.1 i_v1)) (fun _ _ q => pc_w (pc_ok (e_R_soonest q.2 i_v1)) (fun _ _ q2 => g_lo q2.1 rfl))) h.1.1 h.2 (fun a ga ha e => pc_w (pc_ok (e_E_soonest h.1.1.1.1 i_v1)) (fun _ _ q => pc_w (pc_ok (e_R_soonest ga i_v1)) (fun _ _ q2 _ => (q.1.2.1 3 1 rfl).trans (e.trans (q2.1.2.1 43 15 rfl).symm))))
theorem x_worth {n : Int} {w : Wd} {v1 : Int} (h : LRZ n w) (hn : n ≤ 2600) (i_v1 : ((-2147483648 : Int) ≤ v1 ∧ v1 ≤ 2147483647)) : OK (f_E_worth v1 w) (fun r1 u1 => OK (f_R_worth v1 u1) (fun r2 u2 => LRZ (n + 5) u2 ∧ r1 = r2)) := dx (xR := fun u => f_R_worth v1 u) (X := fun r1 r2 => r1 = r2) (v_worth h.1 hn i_v1) (pc_w (pc_ok (e_E_worth h.1.1.1.1 i_v1)) (fun _ _ q => ⟨q.2, g_hi q.1 (by decide)⟩)) (pc_w (pc_ok (e_E_worth h.1.1.1.1 i_v1)) (fun _ _ q => pc_w (pc_ok (e_R_worth q.2 i_v1)) (fun _ _ q2 => g_lo q2.1 rfl))) h.1.1 h.2 (fun a ga ha e => pc_w (pc_ok (e_E_worth h.1.1.1.1 i_v1)) (fun _ _ q => pc_w (pc_ok (e_R_worth ga i_v1)) (fun _ _ q2 _ => (q.1.2.1 3 1 rfl).trans (e.trans (q2.1.2.1 43 15 rfl).symm))))
theorem x_needed {n : Int} {w : Wd} (h : LRZ n w) (hn : n ≤ 2600) : OK (f_E_needed w) (fun r1 u1 => OK (f_R_needed u1) (fun r2 u2 => LRZ (n + 5) u2 ∧ r1 = r2)) := dx (xR := fun u => f_R_needed u) (X := fun r1 r2 => r1 = r2) (v_needed h.1 hn) (pc_w (pc_ok (e_E_needed h.1.1.1.1)) (fun _ _ q => ⟨q.2, g_hi q.1 (by decide)⟩)) (pc_w (pc_ok (e_E_needed h.1.1.1.1)) (fun _ _ q => pc_w (pc_ok (e_R_needed q.2)) (fun _ _ q2 => g_lo q2.1 rfl))) h.1.1 h.2 (fun a ga ha e => pc_w (pc_ok (e_E_needed h.1.1.1.1)) (fun _ _ q => pc_w (pc_ok (e_R_needed ga)) (fun _ _ q2 _ => (q.1.2.1 3 1 rfl).trans (e.trans (q2.1.2.1 43 15 rfl).symm))))
theorem x_never {n : Int} {w : Wd} (h : LRZ n w) (hn : n ≤ 2600) : OK (f_E_never w) (fun r1 u1 => OK (f_R_never u1) (fun r2 u2 => LRZ (n + 5) u2 ∧ r1 = r2)) := dx (xR := fun u => f_R_never u) (X := fun r1 r2 => r1 = r2) (v_never h.1 hn) (pc_w (pc_ok (e_E_never h.1.1.1.1)) (fun _ _ q => ⟨q.2, g_hi q.1 (by decide)⟩)) (pc_w (pc_ok (e_E_never h.1.1.1.1)) (fun _ _ q => pc_w (pc_ok (e_R_never q.2)) (fun _ _ q2 => g_lo q2.1 rfl))) h.1.1 h.2 (fun a ga ha e => pc_w (pc_ok (e_E_never h.1.1.1.1)) (fun _ _ q => pc_w (pc_ok (e_R_never ga)) (fun _ _ q2 _ => (q.1.2.1 3 1 rfl).trans (e.trans (q2.1.2.1 43 15 rfl).symm))))
theorem x_bound {n : Int} {w : Wd} (h : LRZ n w) (hn : n ≤ 2600) : OK (f_E_bound w) (fun r1 u1 => OK (f_R_bound u1) (fun r2 u2 => LRZ (n + 5) u2 ∧ r1 = r2)) := dx (xR := fun u => f_R_bound u) (X := fun r1 r2 => r1 = r2) (v_bound h.1 hn) (pc_w (pc_ok (e_E_bound h.1.1.1.1)) (fun _ _ q => ⟨q.2, g_hi q.1 (by decide)⟩)) (pc_w (pc_ok (e_E_bound h.1.1.1.1)) (fun _ _ q => pc_w (pc_ok (e_R_bound q.2)) (fun _ _ q2 => g_lo q2.1 rfl))) h.1.1 h.2 (fun a ga ha e => pc_w (pc_ok (e_E_bound h.1.1.1.1)) (fun _ _ q => pc_w (pc_ok (e_R_bound ga)) (fun _ _ q2 _ => (q.1.2.1 3 1 rfl).trans (e.trans (q2.1.2.1 43 15 rfl).symm))))
theorem x_far {n : Int} {w : Wd} {v1 : Int} (h : LRZ n w) (hn : n ≤ 2600) (i_v1 : ((-2147483648 : Int) ≤ v1 ∧ v1 ≤ 2147483647)) : OK (f_E_far v1 w) (fun r1 u1 => OK (f_R_far v1 u1) (fun r2 u2 => LRZ (n + 5) u2 ∧ r1 = r2)) := dx (xR := fun u => f_R_far v1 u) (X := fun r1 r2 => r1 = r2) (v_far h.1 hn i_v1) (pc_w (pc_ok (e_E_far h.1.1.1.1 i_v1)) (fun _ _ q => ⟨q.2, g_hi q.1 (by decide)⟩)) (pc_w (pc_ok (e_E_far h.1.1.1.1 i_v1)) (fun _ _ q => pc_w (pc_ok (e_R_far q.2 i_v1)) (fun _ _ q2 => g_lo q2.1 rfl))) h.1.1 h.2 (fun a ga ha e => pc_w (se_far (er_310 ha)) (fun _ _ q => pc_w (sr_far (er_p ha) rfl (er_kn ha)) (fun _ _ q2 er => by rw [e, er] at q; exact szr_eq q q2)))
theorem x_line {n : Int} {w : Wd} {v1 : Int} (h : LRZ n w) (hn : n ≤ 2600) (i_v1 : ((-2147483648 : Int) ≤ v1 ∧ v1 ≤ 2147483647)) : OK (f_E_line v1 w) (fun r1 u1 => OK (f_R_line v1 u1) (fun r2 u2 => LRZ (n + 5) u2 ∧ r1 = r2)) := dx (xR := fun u => f_R_line v1 u) (X := fun r1 r2 => r1 = r2) (v_line h.1 hn i_v1) (pc_w (pc_ok (e_E_line h.1.1.1.1 i_v1)) (fun _ _ q => ⟨q.2, g_hi q.1 (by decide)⟩)) (pc_w (pc_ok (e_E_line h.1.1.1.1 i_v1)) (fun _ _ q => pc_w (pc_ok (e_R_line q.2 i_v1)) (fun _ _ q2 => g_lo q2.1 rfl))) h.1.1 h.2 (fun a ga ha e => pc_w (pc_and se_line (pc_ok (e_E_line h.1.1.1.1 i_v1))) (fun _ _ q => pc_w (sr_line (er_p ha)) (fun _ _ q2 er => sz_line (er_3 ha) e er q.1 q2 (q.2.1.1 3 1))))
theorem x_led {n : Int} {w : Wd} {v1 : Int} (h : LRZ n w) (hn : n ≤ 2600) (i_v1 : ((-2147483648 : Int) ≤ v1 ∧ v1 ≤ 2147483647)) : OK (f_E_led v1 w) (fun r1 u1 => OK (f_R_led v1 u1) (fun r2 u2 => LRZ (n + 5) u2 ∧ r1 = r2)) := dx (xR := fun u => f_R_led v1 u) (X := fun r1 r2 => r1 = r2) (v_led h.1 hn i_v1) (pc_w (pc_ok (e_E_led h.1.1.1.1 i_v1)) (fun _ _ q => ⟨q.2, g_hi q.1 (by decide)⟩)) (pc_w (pc_ok (e_E_led h.1.1.1.1 i_v1)) (fun _ _ q => pc_w (pc_ok (e_R_led q.2 i_v1)) (fun _ _ q2 => g_lo q2.1 rfl))) h.1.1 h.2 (fun a ga ha e => pc_w se_led (fun _ _ q => pc_w (sr_led (er_p ha)) (fun _ _ q2 _ => by rw [e, er_3 ha] at q; exact szk_eq q q2 Iff.rfl)))
theorem x_was {n : Int} {w : Wd} {v1 : Int} (h : LRZ n w) (hn : n ≤ 2600) (i_v1 : ((-2147483648 : Int) ≤ v1 ∧ v1 ≤ 2147483647)) : OK (f_E_was v1 w) (fun r1 u1 => OK (f_R_was v1 u1) (fun r2 u2 => LRZ (n + 5) u2 ∧ r1 = r2)) := dx (xR := fun u => f_R_was v1 u) (X := fun r1 r2 => r1 = r2) (v_was h.1 hn i_v1) (pc_w (pc_ok (e_E_was h.1.1.1.1 i_v1)) (fun _ _ q => ⟨q.2, g_hi q.1 (by decide)⟩)) (pc_w (pc_ok (e_E_was h.1.1.1.1 i_v1)) (fun _ _ q => pc_w (pc_ok (e_R_was q.2 i_v1)) (fun _ _ q2 => g_lo q2.1 rfl))) h.1.1 h.2 (fun a ga ha e => pc_w (pc_ok (e_E_was h.1.1.1.1 i_v1)) (fun _ _ q => pc_w (pc_ok (e_R_was ga i_v1)) (fun _ _ q2 _ => (q.1.2.1 3 1 rfl).trans (e.trans (q2.1.2.1 43 15 rfl).symm))))
theorem x_common {n : Int} {w : Wd} {v1 v2 : Int} (h : LRZ n w) (hn : n ≤ 2600) (i_v1 : ((-2147483648 : Int) ≤ v1 ∧ v1 ≤ 2147483647)) (i_v2 : ((-2147483648 : Int) ≤ v2 ∧ v2 ≤ 2147483647)) : OK (f_E_common v1 v2 w) (fun r1 u1 => OK (f_R_common v1 v2 u1) (fun r2 u2 => LRZ (n + 5) u2 ∧ r1 = r2)) := dx (xR := fun u => f_R_common v1 v2 u) (X := fun r1 r2 => r1 = r2) (v_common h.1 hn i_v1 i_v2) (pc_w (pc_ok (e_E_common h.1.1.1.1 i_v1 i_v2)) (fun _ _ q => ⟨q.2, g_hi q.1 (by decide)⟩)) (pc_w (pc_ok (e_E_common h.1.1.1.1 i_v1 i_v2)) (fun _ _ q => pc_w (pc_ok (e_R_common q.2 i_v1 i_v2)) (fun _ _ q2 => g_lo q2.1 rfl))) h.1.1 h.2 (fun a ga ha e => pc_w (pc_ok (e_E_common h.1.1.1.1 i_v1 i_v2)) (fun _ _ q => pc_w (pc_ok (e_R_common ga i_v1 i_v2)) (fun _ _ q2 _ => (q.1.2.1 3 1 rfl).trans (e.trans (q2.1.2.1 43 15 rfl).symm))))
theorem x_father {n : Int} {w : Wd} (h : LRZ n w) (hn : n ≤ 2600) : OK (f_E_father w) (fun r1 u1 => OK (f_R_father u1) (fun r2 u2 => LRZ (n + 5) u2 ∧ r1 = r2)) := dx (xR := fun u => f_R_father u) (X := fun r1 r2 => r1 = r2) (v_father h.1 hn) (pc_w (pc_ok (e_E_father h.1.1.1.1)) (fun _ _ q => ⟨q.2, g_hi q.1 (by decide)⟩)) (pc_w (pc_ok (e_E_father h.1.1.1.1)) (fun _ _ q => pc_w (pc_ok (e_R_father q.2)) (fun _ _ q2 => g_lo q2.1 rfl))) h.1.1 h.2 (fun a ga ha e => pc_w (se_father (er_310 ha)) (fun _ _ q => pc_w (sr_father (er_p ha)) (fun _ _ q2 er => by rw [e, er] at q; exact szr_eq q q2)))
theorem x_keep {n : Int} {w : Wd} {v1 : Int} (h : LRZ n w) (hn : n ≤ 2600) (i_v1 : ((-2147483648 : Int) ≤ v1 ∧ v1 ≤ 2147483647)) : OK (f_E_keep v1 w) (fun r1 u1 => OK (f_R_keep v1 u1) (fun r2 u2 => LRZ (n + 5) u2 ∧ r1 = r2)) := dx (xR := fun u => f_R_keep v1 u) (X := fun r1 r2 => r1 = r2) (v_keep h.1 hn i_v1) (pc_w (pc_ok (e_E_keep h.1.1.1.1 i_v1)) (fun _ _ q => ⟨q.2, g_hi q.1 (by decide)⟩)) (pc_w (pc_ok (e_E_keep h.1.1.1.1 i_v1)) (fun _ _ q => pc_w (pc_ok (e_R_keep q.2 i_v1)) (fun _ _ q2 => g_lo q2.1 rfl))) h.1.1 h.2 (fun a ga ha e => pc_w (pc_ok (e_E_keep h.1.1.1.1 i_v1)) (fun _ _ q => pc_w (pc_ok (e_R_keep ga i_v1)) (fun _ _ q2 _ => (q.1.2.1 3 1 rfl).trans (e.trans (q2.1.2.1 43 15 rfl).symm))))
theorem x_again {n : Int} {w : Wd} {v1 : Int} (h : LRZ n w) (hn : n ≤ 2600) (i_v1 : ((-2147483648 : Int) ≤ v1 ∧ v1 ≤ 2147483647)) : OK (f_E_again v1 w) (fun r1 u1 => OK (f_R_again v1 u1) (fun r2 u2 => LRZ (n + 5) u2 ∧ r1 = r2)) := dx (xR := fun u => f_R_again v1 u) (X := fun r1 r2 => r1 = r2) (v_again h.1 hn i_v1) (pc_w (pc_ok (e_E_again h.1.1.1.1 i_v1)) (fun _ _ q => ⟨q.2, g_hi q.1 (by decide)⟩)) (pc_w (pc_ok (e_E_again h.1.1.1.1 i_v1)) (fun _ _ q => pc_w (pc_ok (e_R_again q.2 i_v1)) (fun _ _ q2 => g_lo q2.1 rfl))) h.1.1 h.2 (fun a ga ha e => pc_w (pc_ok (e_E_again h.1.1.1.1 i_v1)) (fun _ _ q => pc_w (pc_ok (e_R_again ga i_v1)) (fun _ _ q2 _ => (q.1.2.1 3 1 rfl).trans (e.trans (q2.1.2.1 43 15 rfl).symm))))
theorem x_count {n : Int} {w : Wd} {v1 : Int} (h : LRZ n w) (hn : n ≤ 2600) (i_v1 : ((-2147483648 : Int) ≤ v1 ∧ v1 ≤ 2147483647)) : OK (f_E_count v1 w) (fun r1 u1 => OK (f_R_count v1 u1) (fun r2 u2 => LRZ (n + 5) u2 ∧ r1 = r2)) := dxc (xR := fun u => f_R_count v1 u) (v_count h.1 hn i_v1) (pc_w (pc_ok (e_E_count h.1.1.1.1 i_v1)) (fun _ _ q => ⟨q.2, g_hi q.1 (by decide)⟩)) (pc_w (pc_ok (e_E_count h.1.1.1.1 i_v1)) (fun _ _ q => pc_w (pc_ok (e_R_count q.2 i_v1)) (fun _ _ q2 => g_lo q2.1 rfl))) h.1.1 h.2 (fun a ga ha e => pc_w (pc_ok (e_E_count h.1.1.1.1 i_v1)) (fun _ _ q => pc_w (pc_ok (e_R_count ga i_v1)) (fun _ _ q2 _ => (q.1.2.1 3 1 rfl).trans (e.trans (q2.1.2.1 43 15 rfl).symm)))) (fun a ha e => er_count ha e)
theorem x_row {n : Int} {w : Wd} {v1 : Int} (h : LRZ n w) (hn : n ≤ 2600) (i_v1 : ((-2147483648 : Int) ≤ v1 ∧ v1 ≤ 2147483647)) : OK (f_A_row v1 w) (fun r1 u1 => OK (f_R_row v1 u1) (fun r2 u2 => LRZ (n + 5) u2 ∧ True)) := dxa (xR := fun u => f_R_row v1 u) (X := fun r1 r2 => True) (v_row h.1 hn i_v1) (pc_ok (e_A_row h.1.1.1.1 i_v1)) (pc_w (pc_ok (e_A_row h.1.1.1.1 i_v1)) (fun _ _ q => pc_w (pc_ok (e_R_row q.1 i_v1)) (fun _ _ q2 => g_lo q2.1 rfl))) h.1.1 h.2 (fun a ga e => pc_w (pc_ok (e_A_row h.1.1.1.1 i_v1)) (fun _ _ q => pc_w (pc_ok (e_R_row ga i_v1)) (fun _ _ q2 _ => (congrFun (q.2 3 (by decide)) 1).trans (e.trans (q2.1.2.1 43 15 rfl).symm))))
