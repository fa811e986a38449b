/-! constructors: contracts, calls, ends -/
def rmN (dep k n : Nat) : Room := { frames := dep, cells := k, slots := n, locals := 60 * dep }
def AN (b : Nat) : Nat → Prop := fun q => b ≤ q
def PN (D : va_G) (cA : Nat → ClassId) (b N : Nat) (w : Wd) : State → Prop := fun U => U.heap.size = b + N ∧ va_P D cl (wl (nad b) cA w N) U.heap ∧ va_K D cl (jtys cA) U ∧ NW U ∧ va_AO "EachBringsAnother$Kept" U
def QN (D : va_G) (cA : Nat → ClassId) (b N : Nat) (w : Wd) : Array Value → State → Outcome → State → Prop := fun _ st oc t =>
  (oc = .returned none ∧ wok w ∧ (∀ c' k', N ≤ c' → w c' k' = 0) ∧ t.heap.size = b + N ∧ va_P D cl (wl (nad b) cA w N) t.heap) ∧ va_F (AN b) st t
/-- the constructor y of the cell c: from N0 cells to N1, the world F w -/
def CtN (y : MethodName) (cc : ByteArray) (mL dep c N0 N1 k n : Nat) (F : Wd → Wd) : Prop :=
  ∀ (l : Launch) (D : va_G) (cA : Nat → ClassId) (b : Nat) (w : Wd), wok w → (∀ c' k', N0 ≤ c' → w c' k' = 0) →
    Met l y (wsy y cc mL none) (rmN dep k n) (va_Pc [.ref (b + c)] (PN D cA b N0 w)) (QN D cA b N1 (F w)) k n (AN b)
def RtN (X : jX) (Qf : Wd → State → Prop) (b c N1 k n : Nat) (cc : ByteArray) : Prop := ∀ (pc : Nat) (w : Wd), decode cc pc = .ok (.return_, 1) → VN X Qf b [(0, .ref (b + c))] N1 k n w pc [] w
theorem ctn_of {y : MethodName} {cc : ByteArray} {mL dep c N0 N1 k n : Nat} {F : Wd → Wd} (hy : plainName y.cls = true) (hyn : y.name = "<init>") (hmL : 1 ≤ mL)
    (hb : ∀ (X : jX) (Qf : Wd → State → Prop) (b : Nat) (w : Wd), Cx X cc y.cls → Cn X b → xA X = AN b → xn X = mL → xR X = rmN dep k n → RtN X Qf b c N1 k n cc → VN X Qf b [(0, .ref (b + c))] N0 0 0 w 0 [] (F w)) : CtN y cc mL dep c N0 N1 k n F := by
  intro l D cA b w hw hz
  refine Met.ofW (cc := cc) (maxL := mL) (ret := none) hy rfl ?_
  intro p e s m args below meth c1 s₁ B hml hv
  obtain ⟨rfl, hsz, hP, hK, hNW, hAO⟩ := hv
  have hts := atoms_spec (ws := wsy y cc mL none) B.pre
  have hr := B.returns
  have hlocks := B.notSynchronized
  let X : jX := (p, l, e, rmN dep k n, s, m, ([Value.ref (b + c)] : List Value).toArray, below, meth, c1, D, cA, AN b, mL)
  have C : Cx X cc y.cls := ⟨B.exec, B.bytes, findClass_of_methodNamed B.named, fun w hw => hts w (List.mem_cons_of_mem _ hw), hK, hml, hNW⟩
  have G : Cn X b := ⟨fun q hq => by have h2 : s.heap.size ≤ q := hq; show b ≤ q; omega, fun i => Nat.le_add_right b i, by rw [← hyn]; exact (name_of_methodNamed B.named B.method).1, hAO⟩
  have hS : va_S (AN b) s.heap s.heap [] := va_S.rf
  have hl := lv_entry ([.ref (b + c)]) (n := mL) hmL
  rw [lg_entry_eq]
  refine hb X (fun w9 => MQ below (QN D cA b N1 w9) ([Value.ref (b + c)] : List Value).toArray s k n (AN b)) b w C G rfl rfl rfl ?_ hw hz s.heap [] _ hsz hP hS hl
  intro pc w' hd hw' hz' H locs ls hsz' hP' hV' hl'
  exact W.vret B.exec B.bytes hr (fun t ht hW => ⟨⟨rfl, hw', hz', by rw [ht]; exact hsz', by rw [ht]; exact hP'⟩, hV'.F ht⟩) (fun q h => hV'.2.2 q h) hd hlocks
/-- a constructor by its words -/
def CYN (y : MethodName) (cc : ByteArray) (mL : Nat) : Prop :=
  (y.cls ≠ "java/lang/invoke/MethodHandle" ∧ y.cls ≠ "java/lang/invoke/VarHandle" ∧ (parseMethodDescriptor y.desc).map (fun d => d.parameters.length) = some 0) ∧ y.name = "<init>" ∧
  Cond.initialized y.cls ∈ gw_tbl ∧ Cond.code y cc mL none ∈ gw_tbl ∧ Cond.instanceMethod y ∈ gw_tbl
theorem PN_blind {avs : List Value} {D : va_G} {cA : Nat → ClassId} {b N : Nat} {w : Wd} : FrameBlind (va_Pc avs (PN D cA b N w)) := fun a U g mk h =>
  ⟨h.1, h.2.1, h.2.2.1, va_K.moved (u := U) (U := U.calling g mk a) (Vm.Alike.refl U.vm) h.2.2.2.1, NW.same (s := U) (U := U.calling g mk a) rfl h.2.2.2.2.1, va_AO.moved (u := U) (U := U.calling g mk a) (Vm.Alike.refl U.vm) h.2.2.2.2.2⟩
theorem vn_call {X : jX} {cc cy : ByteArray} {own : String} {Qf : Wd → State → Prop} {b c9 N N1 k n k9 n9 pc idx mL dep : Nat} {w w9 : Wd} {L0 : List (Nat × Value)} {S : List Value} {y : MethodName} {F : Wd → Wd} (C : Cx X cc own) (G : va_AO "EachBringsAnother$Kept" (xs X)) (hA : xA X = AN b) (hy : CYN y cy mL) (hl : ML own idx y) (hct : CtN y cy mL dep c9 N N1 k9 n9 F) (hR : dep + 1 ≤ (xR X).frames ∧ 19 + mL + 60 * dep ≤ (xR X).locals ∧ k + k9 ≤ (xR X).cells ∧ n + n9 ≤ (xR X).slots) (hS8 : (S.map fun v => v.category).sum ≤ 8) (d : decode cc pc = .ok (.invokespecial idx, 3))
    (kk : VN X Qf b L0 N1 (k + k9) (n + n9) (F w) (pc + 3) S w9) : VN X Qf b L0 N k n w pc (.ref (b + c9) :: S) w9 := by
  intro hw hz H locs ls hsz hP hV hl9
  have hM := hct (xl X) (xD X) (xC X) b w hw hz
  obtain ⟨hd, hyn, hini, hcode, hin⟩ := hy
  have ht := C.2.2.2.1
  have hrun : va_Run (xp X) (xl X) (xe X) (xR X) (xs X) (xm X) (xa X) (xb X) (xM X) (xc X) H locs k n k9 n9 (F0 (xm X) pc ls (.ref (b + c9) :: S)) S (QN (xD X) (xC X) b N1 (F w) (Value.ref (b + c9) :: []).toArray) (AN b) := by
    have hpre : PreS (xs X) H (va_Pc [.ref (b + c9)] (PN (xD X) (xC X) b N w)) (.ref (b + c9) :: []) := ⟨PN_blind, fun U hU hW => ⟨rfl, by rw [hU]; exact hsz, by rw [hU]; exact hP, va_K.moved hW.alike C.2.2.2.2.1, NW.warm hW C.2.2.2.2.2.2, va_AO.moved hW.alike G⟩⟩
    rcases hl with hlk | ⟨host, hlk⟩
    · exact va_runI ⟨C.1, C.2.1, C.2.2.2.2.2.1, C.2.2.1, ht⟩ hM ⟨callB_of 0 ht (gw_in hcode) rfl rfl rfl (ht _ hini) (ht _ hlk) hd ⟨hR.1, by have := hR.2.1; show 8 + (mL + 11) + 60 * dep ≤ _; omega⟩, hyn, ht _ hin⟩ hpre rfl rfl hl9.1 rfl (lv_room hS8) d ⟨hR.2.2.1, hR.2.2.2⟩
    · exact va_runIN ⟨C.1, C.2.1, C.2.2.2.2.2.1, C.2.2.1, ht⟩ hM ⟨va_cnB (host := host) 0 ht (gw_in hcode) rfl rfl rfl (C.2.2.2.2.2.2 _ hlk) (ht _ hini) hd ⟨hR.1, by have := hR.2.1; show 8 + (mL + 11) + 60 * dep ≤ _; omega⟩, hyn, ht _ hin⟩ hpre rfl rfl hl9.1 rfl (lv_room hS8) d ⟨hR.2.2.1, hR.2.2.2⟩
  intro T hT XX
  obtain ⟨v, st₀, t, T', L, h0, X', hL, e1, e2, ⟨⟨hv, hw1, hz1, hs1, hP1⟩, hzz, hk⟩, st⟩ := hrun T hT XX
  cases hv
  rw [h0] at hzz hk
  obtain ⟨t2, a1, b1⟩ := kk hw1 hz1 T'.heap (locs ++ L) ls (by rw [e1]; exact hs1) (by rw [e1]; exact hP1)
    ⟨Nat.le_trans hV.1 (by rw [e1]; exact hzz), fun q h1 h2 => by rw [e1, hk q (Nat.lt_of_lt_of_le h1 hV.1) (fun z => h2 (by rw [hA]; exact z))]; exact hV.2.1 q h1 h2, fun q hq => by
      rcases List.mem_append.mp hq with h | h
      · exact hV.2.2 q h
      · rw [hA]; exact hL q h⟩ hl9 T' rfl X'
  exact ⟨t2, st t2 a1, b1⟩
