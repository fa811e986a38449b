def FN0 : List (String × String × String × Bool) := [("EachBringsAnother$Text", "signs", "[C", true), ("EachBringsAnother$Text", "length", "I", false)]
def TN0 : u_T := fun k => FN0.getD k ("", "", "", false)
def TY0 : Nat → FieldType := fun k => ([.array .char, .int] : List FieldType).getD k .int
def FN1 : List (String × String × String × Bool) := [("EachBringsAnother$Numbers", "numbers", "[I", true), ("EachBringsAnother$Numbers", "size", "I", false)]
def TN1 : u_T := fun k => FN1.getD k ("", "", "", false)
def TY1 : Nat → FieldType := fun k => ([.array .int, .int] : List FieldType).getD k .int
def FN2 : List (String × String × String × Bool) := [("EachBringsAnother$Folk", "price", "[I", true), ("EachBringsAnother$Folk", "knows", "[I", true), ("EachBringsAnother$Folk", "brought", "[I", true), ("EachBringsAnother$Folk", "size", "I", false), ("EachBringsAnother$Folk", "who", "I", false), ("EachBringsAnother$Folk", "hidden", "I", false), ("EachBringsAnother$Folk", "paid", "I", false), ("EachBringsAnother$Folk", "grace", "I", false), ("EachBringsAnother$Folk", "seats", "I", false)]
def TN2 : u_T := fun k => FN2.getD k ("", "", "", false)
def TY2 : Nat → FieldType := fun k => ([.array .int, .array .int, .array .int, .int, .int, .int, .int, .int, .int] : List FieldType).getD k .int
def FN3 : List (String × String × String × Bool) := [("EachBringsAnother$Lines", "price", "[I", true), ("EachBringsAnother$Lines", "knows", "[I", true), ("EachBringsAnother$Lines", "guests", "I", false), ("EachBringsAnother$Lines", "hidden", "I", false), ("EachBringsAnother$Lines", "size", "I", false), ("EachBringsAnother$Lines", "at", "I", false)]
def TN3 : u_T := fun k => FN3.getD k ("", "", "", false)
def TY3 : Nat → FieldType := fun k => ([.array .int, .array .int, .int, .int, .int, .int] : List FieldType).getD k .int
def FN4 : List (String × String × String × Bool) := [("EachBringsAnother$Plan", "bringers", "[I", true), ("EachBringsAnother$Plan", "brought", "[I", true), ("EachBringsAnother$Plan", "size", "I", false), ("EachBringsAnother$Plan", "movers", "I", false)]
def TN4 : u_T := fun k => FN4.getD k ("", "", "", false)
def TY4 : Nat → FieldType := fun k => ([.array .int, .array .int, .int, .int] : List FieldType).getD k .int
def FN5 : List (String × String × String × Bool) := [("EachBringsAnother$Diary", "guests", "[I", true), ("EachBringsAnother$Diary", "whoAhead", "[I", true), ("EachBringsAnother$Diary", "paidAhead", "[I", true), ("EachBringsAnother$Diary", "weeks", "I", false), ("EachBringsAnother$Diary", "undoable", "I", false)]
def TN5 : u_T := fun k => FN5.getD k ("", "", "", false)
def TY5 : Nat → FieldType := fun k => ([.array .int, .array .int, .array .int, .int, .int] : List FieldType).getD k .int
def FN6 : List (String × String × String × Bool) := [("EachBringsAnother$Kept", "brought", "[I", true), ("EachBringsAnother$Kept", "guests", "[I", true), ("EachBringsAnother$Kept", "is", "Z", false), ("EachBringsAnother$Kept", "size", "I", false), ("EachBringsAnother$Kept", "who", "I", false), ("EachBringsAnother$Kept", "hidden", "I", false), ("EachBringsAnother$Kept", "paid", "I", false), ("EachBringsAnother$Kept", "grace", "I", false), ("EachBringsAnother$Kept", "seats", "I", false), ("EachBringsAnother$Kept", "weeks", "I", false)]
def TN6 : u_T := fun k => FN6.getD k ("", "", "", false)
def TY6 : Nat → FieldType := fun k => ([.array .int, .array .int, .boolean, .int, .int, .int, .int, .int, .int, .int] : List FieldType).getD k .int
def FN7 : List (String × String × String × Bool) := [("EachBringsAnother$Wish", "code", "[I", true), ("EachBringsAnother$Wish", "draft", "[I", true), ("EachBringsAnother$Wish", "waiting", "[I", true), ("EachBringsAnother$Wish", "stack", "[I", true), ("EachBringsAnother$Wish", "length", "I", false), ("EachBringsAnother$Wish", "drafted", "I", false), ("EachBringsAnother$Wish", "waits", "I", false), ("EachBringsAnother$Wish", "deep", "I", false), ("EachBringsAnother$Wish", "digits", "I", false), ("EachBringsAnother$Wish", "compared", "I", false), ("EachBringsAnother$Wish", "wantsThing", "Z", false)]
def TN7 : u_T := fun k => FN7.getD k ("", "", "", false)
def TY7 : Nat → FieldType := fun k => ([.array .int, .array .int, .array .int, .array .int, .int, .int, .int, .int, .int, .int, .boolean] : List FieldType).getD k .int
def FN8 : List (String × String × String × Bool) := [("EachBringsAnother$Moves", "movers", "[I", true), ("EachBringsAnother$Moves", "parent", "[I", true), ("EachBringsAnother$Moves", "seen", "[I", true), ("EachBringsAnother$Moves", "size", "I", false), ("EachBringsAnother$Moves", "round", "I", false), ("EachBringsAnother$Moves", "folk", "LEachBringsAnother$Folk;", false), ("EachBringsAnother$Moves", "bringers", "I", false), ("EachBringsAnother$Moves", "free", "I", false), ("EachBringsAnother$Moves", "stay", "I", false), ("EachBringsAnother$Moves", "seats", "I", false)]
def TN8 : u_T := fun k => FN8.getD k ("", "", "", false)
def TY8 : Nat → FieldType := fun k => ([.array .int, .array .int, .array .int, .int, .int, .object "EachBringsAnother$Folk", .int, .int, .int, .int] : List FieldType).getD k .int
def FN9 : List (String × String × String × Bool) := [("EachBringsAnother$Search", "slots", "[I", true), ("EachBringsAnother$Search", "states", "[I", true), ("EachBringsAnother$Search", "when", "[J", true), ("EachBringsAnother$Search", "left", "[J", true), ("EachBringsAnother$Search", "behind", "[I", true), ("EachBringsAnother$Search", "firstOfRank", "[I", true), ("EachBringsAnother$Search", "order", "[I", true), ("EachBringsAnother$Search", "size", "I", false), ("EachBringsAnother$Search", "done", "I", false), ("EachBringsAnother$Search", "fresh", "Z", false), ("EachBringsAnother$Search", "tooMany", "Z", false)]
def TN9 : u_T := fun k => FN9.getD k ("", "", "", false)
def TY9 : Nat → FieldType := fun k => ([.array .int, .array .int, .array .long, .array .long, .array .int, .array .int, .array .int, .int, .int, .boolean, .boolean] : List FieldType).getD k .int
def FN10 : List (String × String × String × Bool) := [("EachBringsAnother", "text", "LEachBringsAnother$Text;", true), ("EachBringsAnother", "told", "LEachBringsAnother$Numbers;", true), ("EachBringsAnother", "folk", "LEachBringsAnother$Folk;", true), ("EachBringsAnother", "lines", "LEachBringsAnother$Lines;", true), ("EachBringsAnother", "plan", "LEachBringsAnother$Plan;", true), ("EachBringsAnother", "diary", "LEachBringsAnother$Diary;", true), ("EachBringsAnother", "wish", "LEachBringsAnother$Wish;", true), ("EachBringsAnother", "moves", "LEachBringsAnother$Moves;", true), ("EachBringsAnother", "search", "LEachBringsAnother$Search;", true), ("EachBringsAnother", "kept", "[LEachBringsAnother$Kept;", true)]
def TN10 : u_T := fun k => FN10.getD k ("", "", "", false)
def TY10 : Nat → FieldType := fun k => ([.object "EachBringsAnother$Text", .object "EachBringsAnother$Numbers", .object "EachBringsAnother$Folk", .object "EachBringsAnother$Lines", .object "EachBringsAnother$Plan", .object "EachBringsAnother$Diary", .object "EachBringsAnother$Wish", .object "EachBringsAnother$Moves", .object "EachBringsAnother$Search", .array (.object "EachBringsAnother$Kept")] : List FieldType).getD k .int
def FN11 : List (String × String × String × Bool) := [("EachBringsAnotherModel", "people", "I", false), ("EachBringsAnotherModel", "price", "[I", true), ("EachBringsAnotherModel", "knows", "[I", true), ("EachBringsAnotherModel", "isHidden", "[Z", true), ("EachBringsAnotherModel", "is", "[I", true), ("EachBringsAnotherModel", "broughtBy", "[I", true), ("EachBringsAnotherModel", "firstWeek", "[I", true), ("EachBringsAnotherModel", "paid", "I", false), ("EachBringsAnotherModel", "weeks", "I", false), ("EachBringsAnotherModel", "were", "[I", true), ("EachBringsAnotherModel", "grace", "I", false), ("EachBringsAnotherModel", "seats", "I", false), ("EachBringsAnotherModel", "text", "[B", true), ("EachBringsAnotherModel", "typed", "I", false), ("EachBringsAnotherModel", "row", "[I", true), ("EachBringsAnotherModel", "rowMany", "I", false), ("EachBringsAnotherModel", "thrown", "I", false), ("EachBringsAnotherModel", "read", "[B", false), ("EachBringsAnotherModel", "size", "I", false), ("EachBringsAnotherModel", "top", "I", false), ("EachBringsAnotherModel", "at", "I", false), ("EachBringsAnotherModel", "wrong", "I", false), ("EachBringsAnotherModel", "newPrice", "[I", true), ("EachBringsAnotherModel", "newKnows", "[I", true), ("EachBringsAnotherModel", "newIs", "[I", true), ("EachBringsAnotherModel", "newHidden", "[Z", true), ("EachBringsAnotherModel", "rule", "[B", true), ("EachBringsAnotherModel", "ruleSize", "I", false), ("EachBringsAnotherModel", "askedOne", "I", false), ("EachBringsAnotherModel", "askedBy", "I", false), ("EachBringsAnotherModel", "brings", "[I", true), ("EachBringsAnotherModel", "undos", "[I", true), ("EachBringsAnotherModel", "undoMany", "I", false), ("EachBringsAnotherModel", "pairBy", "[I", true), ("EachBringsAnotherModel", "pairWho", "[I", true), ("EachBringsAnotherModel", "mostPairs", "[I", true), ("EachBringsAnotherModel", "stateIn", "[I", true), ("EachBringsAnotherModel", "edgeFrom", "[I", true), ("EachBringsAnotherModel", "edges", "[I", true), ("EachBringsAnotherModel", "seenBy", "[I", true), ("EachBringsAnotherModel", "states", "I", false), ("EachBringsAnotherModel", "edgeMany", "I", false), ("EachBringsAnotherModel", "table", "[I", true), ("EachBringsAnotherModel", "now", "[I", true), ("EachBringsAnotherModel", "noMore", "I", false), ("EachBringsAnotherModel", "paidTo", "[I", true), ("EachBringsAnotherModel", "paidThen", "[I", true), ("EachBringsAnotherModel", "life", "[I", true), ("EachBringsAnotherModel", "order", "[I", true), ("EachBringsAnotherModel", "left", "[I", true), ("EachBringsAnotherModel", "isWanted", "[Z", true), ("EachBringsAnotherModel", "pairRow", "[I", true), ("EachBringsAnotherModel", "pairMany", "I", false), ("EachBringsAnotherModel", "nextOf", "[Z", true), ("EachBringsAnotherModel", "least", "[I", true), ("EachBringsAnotherModel", "steps", "[I", true), ("EachBringsAnotherModel", "came", "I", false), ("EachBringsAnotherModel", "kept", "[I", true), ("EachBringsAnotherModel", "isKept", "[Z", true), ("EachBringsAnotherModel", "keptCame", "[I", true)]
def TN11 : u_T := fun k => FN11.getD k ("", "", "", false)
def TY11 : Nat → FieldType := fun k => ([.int, .array .int, .array .int, .array .boolean, .array .int, .array .int, .array .int, .int, .int, .array .int, .int, .int, .array .byte, .int, .array .int, .int, .int, .array .byte, .int, .int, .int, .int, .array .int, .array .int, .array .int, .array .boolean, .array .byte, .int, .int, .int, .array .int, .array .int, .int, .array .int, .array .int, .array .int, .array .int, .array .int, .array .int, .array .int, .int, .int, .array .int, .array .int, .int, .array .int, .array .int, .array .int, .array .int, .array .int, .array .boolean, .array .int, .int, .array .boolean, .array .int, .array .int, .int, .array .int, .array .boolean, .array .int] : List FieldType).getD k .int
def cl : List vw_C := [("EachBringsAnother$Text", TN0, 2), ("EachBringsAnother$Numbers", TN1, 2), ("EachBringsAnother$Folk", TN2, 9), ("EachBringsAnother$Lines", TN3, 6), ("EachBringsAnother$Plan", TN4, 4), ("EachBringsAnother$Diary", TN5, 5), ("EachBringsAnother$Kept", TN6, 10), ("EachBringsAnother$Wish", TN7, 11), ("EachBringsAnother$Moves", TN8, 10), ("EachBringsAnother$Search", TN9, 11), ("EachBringsAnother", TN10, 10), ("EachBringsAnotherModel", TN11, 60)]
def tyL : List (Nat → FieldType) := [TY0, TY1, TY2, TY3, TY4, TY5, TY6, TY7, TY8, TY9, TY10, TY11]
def gw_tbl : List Cond := lw_tbl.filter goodWord
theorem mem_g {w : Cond} (i : Nat) (h : lw_tbl[i]? = some w) (hg : goodWord w = true) : w ∈ gw_tbl := List.mem_filter.mpr ⟨List.mem_of_getElem? h, hg⟩
def ckey : Cond → Option (MethodName × Nat × Option FieldType)
  | .code y _ m r => some (y, m, r)
  | _ => none
def cbytes : Cond → List UInt8
  | .code _ c _ _ => c.data.toList
  | _ => []
/-- a word of code: its bytes compared one by one, in one walk -/
theorem mem_c {y : MethodName} {cc : ByteArray} {mL : Nat} {rt : Option FieldType} (i : Nat) (hk : (lw_tbl[i]?).bind ckey = some (y, mL, rt)) (hb : (lw_tbl[i]?).map cbytes = some cc.data.toList) (hg : goodWord (.code y cc mL rt) = true) : Cond.code y cc mL rt ∈ gw_tbl := by
  refine mem_g i ?_ hg
  cases h : lw_tbl[i]? with
  | none => rw [h] at hk; cases hk
  | some w =>
    rw [h] at hk hb
    cases w with
    | code y2 c2 m2 r2 =>
      have e1 : (y2, m2, r2) = (y, mL, rt) := Option.some.inj hk
      have e2 : c2.data.toList = cc.data.toList := Option.some.inj hb
      have e3 : c2 = cc := by
        cases c2 with
        | mk d2 =>
          cases cc with
          | mk d1 =>
            have : d2 = d1 := Array.toList_inj.mp e2
            rw [this]
      injection e1 with f1 f2
      injection f2 with f3 f4
      rw [f1, f3, f4, e3]
    | _ => cases hk
theorem gw_good : ∀ w ∈ gw_tbl, w ∈ lw_tbl ∧ ((w.onTables && w.keeps) = true ∨ ∃ ty, w = .arrayClass ty) := fun w h => ⟨(List.mem_filter.mp h).1, good_of_word (List.mem_filter.mp h).2⟩
def isNest : Cond → Bool
  | .fieldLinkNest _ _ _ _ _ _ => true
  | .methodLinkNest _ _ _ _ => true
  | .castable _ _ => true
  | .declares _ => true
  | _ => false
def nw_tbl : List Cond := lw_tbl.filter isNest
theorem mem_n {w : Cond} (i : Nat) (h : lw_tbl[i]? = some w) (hg : isNest w = true) : w ∈ nw_tbl := List.mem_filter.mpr ⟨List.mem_of_getElem? h, hg⟩
/-- the cells of the world, in the order of their making: an object (its class' number; of each field kind, and what a final reference holds: the cell + 1), an array (kind of elements, length, what fixed references hold) -/
def shL : List ((Nat × List (Nat × Nat)) ⊕ (Nat × Nat × List Nat)) := [.inl (10, [(3, 2), (3, 4), (3, 6), (3, 10), (3, 13), (3, 16), (3, 20), (3, 25), (3, 29), (3, 37)]), .inl (0, [(3, 3), (0, 0)]), .inr (5, 80, []), .inl (1, [(3, 5), (0, 0)]), .inr (0, 20, []), .inl (2, [(3, 7), (3, 8), (3, 9), (0, 0), (0, 0), (0, 0), (0, 0), (0, 0), (0, 0)]), .inr (0, 10, []), .inr (0, 10, []), .inr (0, 10, []), .inl (3, [(3, 11), (3, 12), (0, 0), (0, 0), (0, 0), (0, 0)]), .inr (0, 10, []), .inr (0, 10, []), .inl (4, [(3, 14), (3, 15), (0, 0), (0, 0)]), .inr (0, 10, []), .inr (0, 10, []), .inl (5, [(3, 17), (3, 18), (3, 19), (0, 0), (0, 0)]), .inr (0, 61, []), .inr (0, 61, []), .inr (0, 61, []), .inl (7, [(3, 21), (3, 22), (3, 23), (3, 24), (0, 0), (0, 0), (0, 0), (0, 0), (0, 0), (0, 0), (4, 0)]), .inr (0, 40, []), .inr (0, 40, []), .inr (0, 40, []), .inr (0, 40, []), .inl (8, [(3, 26), (3, 27), (3, 28), (0, 0), (0, 0), (2, 0), (0, 0), (0, 0), (0, 0), (0, 0)]), .inr (0, 256, []), .inr (0, 256, []), .inr (0, 1024, []), .inl (9, [(3, 30), (3, 31), (3, 32), (3, 33), (3, 34), (3, 35), (3, 36), (0, 0), (0, 0), (4, 0), (4, 0)]), .inr (0, 8192, []), .inr (0, 3000, []), .inr (1, 3000, []), .inr (1, 3000, []), .inr (0, 3000, []), .inr (0, 451, []), .inr (0, 3000, []), .inr (2, 2, [38, 41]), .inl (6, [(3, 39), (3, 40), (4, 0), (0, 0), (0, 0), (0, 0), (0, 0), (0, 0), (0, 0), (0, 0)]), .inr (0, 10, []), .inr (0, 61, []), .inl (6, [(3, 42), (3, 43), (4, 0), (0, 0), (0, 0), (0, 0), (0, 0), (0, 0), (0, 0), (0, 0)]), .inr (0, 10, []), .inr (0, 61, []), .inl (11, [(0, 0), (3, 45), (3, 46), (3, 47), (3, 48), (3, 49), (3, 50), (0, 0), (0, 0), (3, 51), (0, 0), (0, 0), (3, 52), (0, 0), (3, 53), (0, 0), (0, 0), (2, 0), (0, 0), (0, 0), (0, 0), (0, 0), (3, 54), (3, 55), (3, 56), (3, 57), (3, 58), (0, 0), (0, 0), (0, 0), (3, 59), (3, 60), (0, 0), (3, 61), (3, 62), (3, 63), (3, 64), (3, 65), (3, 66), (3, 67), (0, 0), (0, 0), (3, 68), (3, 69), (0, 0), (3, 70), (3, 71), (3, 72), (3, 73), (3, 74), (3, 75), (3, 76), (0, 0), (3, 77), (3, 78), (3, 79), (0, 0), (3, 80), (3, 81), (3, 82)]), .inr (0, 10, []), .inr (0, 10, []), .inr (4, 10, []), .inr (0, 10, []), .inr (0, 10, []), .inr (0, 10, []), .inr (0, 61, []), .inr (3, 80, []), .inr (0, 16, []), .inr (0, 10, []), .inr (0, 10, []), .inr (0, 10, []), .inr (4, 10, []), .inr (3, 40, []), .inr (0, 10, []), .inr (0, 1860, []), .inr (0, 40, []), .inr (0, 40, []), .inr (0, 11264, []), .inr (0, 3000, []), .inr (0, 3001, []), .inr (0, 756000, []), .inr (0, 3000, []), .inr (0, 8192, []), .inr (0, 10, []), .inr (0, 3000, []), .inr (0, 3000, []), .inr (0, 3000, []), .inr (0, 3000, []), .inr (0, 3000, []), .inr (4, 3000, []), .inr (0, 10, []), .inr (4, 3000, []), .inr (0, 135000, []), .inr (0, 10, []), .inr (0, 210, []), .inr (4, 2, []), .inr (0, 2, []), .inr (1, 1, [])]
def NF : Nat := 83
theorem cw_of {L : List Cond} (ix : List Nat) (h : zpq lw_tbl 0 (ix.zip L) = true ∧ ix.length = L.length ∧ L.all goodWord = true) : ∀ w ∈ L, w ∈ gw_tbl := by
  intro w hw
  refine List.mem_filter.mpr ⟨?_, List.all_eq_true.mp h.2.2 w hw⟩
  obtain ⟨k, hk⟩ := List.getElem?_of_mem hw
  have hl := (List.getElem?_eq_some_iff.mp hk).1
  have hi : k < ix.length := by
    rw [h.2.1]
    exact hl
  exact zpq_ok lw_tbl 0 _ h.1 (ix[k], w) (List.mem_of_getElem? (i := k) (List.getElem?_zip_eq_some.mpr ⟨List.getElem?_eq_getElem hi, hk⟩))
theorem cw0 : ∀ w ∈ u_ws "EachBringsAnother$Text" TN0 2, w ∈ gw_tbl := cw_of [125, 127] (by decide +kernel)
theorem ct0 : ∀ k, k < 2 → parseFieldDescriptor (TN0 k).2.2.1 = some (TY0 k) := by decide +kernel
theorem cn0 : ∀ a, a < 2 → ∀ b, b < 2 → a ≠ b → (TN0 a).2.1 ≠ (TN0 b).2.1 := by decide +kernel
theorem cw1 : ∀ w ∈ u_ws "EachBringsAnother$Numbers" TN1 2, w ∈ gw_tbl := cw_of [140, 142] (by decide +kernel)
theorem ct1 : ∀ k, k < 2 → parseFieldDescriptor (TN1 k).2.2.1 = some (TY1 k) := by decide +kernel
theorem cn1 : ∀ a, a < 2 → ∀ b, b < 2 → a ≠ b → (TN1 a).2.1 ≠ (TN1 b).2.1 := by decide +kernel
theorem cw2 : ∀ w ∈ u_ws "EachBringsAnother$Folk" TN2 9, w ∈ gw_tbl := cw_of [196, 198, 200, 202, 204, 206, 208, 210, 212] (by decide +kernel)
theorem ct2 : ∀ k, k < 9 → parseFieldDescriptor (TN2 k).2.2.1 = some (TY2 k) := by decide +kernel
theorem cn2 : ∀ a, a < 9 → ∀ b, b < 9 → a ≠ b → (TN2 a).2.1 ≠ (TN2 b).2.1 := by decide +kernel
theorem cw3 : ∀ w ∈ u_ws "EachBringsAnother$Lines" TN3 6, w ∈ gw_tbl := cw_of [227, 229, 231, 233, 235, 237] (by decide +kernel)
theorem ct3 : ∀ k, k < 6 → parseFieldDescriptor (TN3 k).2.2.1 = some (TY3 k) := by decide +kernel
theorem cn3 : ∀ a, a < 6 → ∀ b, b < 6 → a ≠ b → (TN3 a).2.1 ≠ (TN3 b).2.1 := by decide +kernel
theorem cw4 : ∀ w ∈ u_ws "EachBringsAnother$Plan" TN4 4, w ∈ gw_tbl := cw_of [252, 254, 256, 258] (by decide +kernel)
theorem ct4 : ∀ k, k < 4 → parseFieldDescriptor (TN4 k).2.2.1 = some (TY4 k) := by decide +kernel
theorem cn4 : ∀ a, a < 4 → ∀ b, b < 4 → a ≠ b → (TN4 a).2.1 ≠ (TN4 b).2.1 := by decide +kernel
theorem cw5 : ∀ w ∈ u_ws "EachBringsAnother$Diary" TN5 5, w ∈ gw_tbl := cw_of [277, 279, 281, 283, 285] (by decide +kernel)
theorem ct5 : ∀ k, k < 5 → parseFieldDescriptor (TN5 k).2.2.1 = some (TY5 k) := by decide +kernel
theorem cn5 : ∀ a, a < 5 → ∀ b, b < 5 → a ≠ b → (TN5 a).2.1 ≠ (TN5 b).2.1 := by decide +kernel
theorem cw6 : ∀ w ∈ u_ws "EachBringsAnother$Kept" TN6 10, w ∈ gw_tbl := cw_of [426, 428, 430, 432, 434, 436, 438, 440, 442, 444] (by decide +kernel)
theorem ct6 : ∀ k, k < 10 → parseFieldDescriptor (TN6 k).2.2.1 = some (TY6 k) := by decide +kernel
theorem cn6 : ∀ a, a < 10 → ∀ b, b < 10 → a ≠ b → (TN6 a).2.1 ≠ (TN6 b).2.1 := by decide +kernel
theorem cw7 : ∀ w ∈ u_ws "EachBringsAnother$Wish" TN7 11, w ∈ gw_tbl := cw_of [305, 307, 309, 311, 313, 315, 317, 319, 321, 323, 325] (by decide +kernel)
theorem ct7 : ∀ k, k < 11 → parseFieldDescriptor (TN7 k).2.2.1 = some (TY7 k) := by decide +kernel
theorem cn7 : ∀ a, a < 11 → ∀ b, b < 11 → a ≠ b → (TN7 a).2.1 ≠ (TN7 b).2.1 := by decide +kernel
theorem cw8 : ∀ w ∈ u_ws "EachBringsAnother$Moves" TN8 10, w ∈ gw_tbl := cw_of [346, 348, 350, 352, 354, 356, 358, 360, 362, 364] (by decide +kernel)
theorem ct8 : ∀ k, k < 10 → parseFieldDescriptor (TN8 k).2.2.1 = some (TY8 k) := by decide +kernel
theorem cn8 : ∀ a, a < 10 → ∀ b, b < 10 → a ≠ b → (TN8 a).2.1 ≠ (TN8 b).2.1 := by decide +kernel
theorem cw9 : ∀ w ∈ u_ws "EachBringsAnother$Search" TN9 11, w ∈ gw_tbl := cw_of [385, 387, 389, 391, 393, 395, 397, 399, 401, 403, 405] (by decide +kernel)
theorem ct9 : ∀ k, k < 11 → parseFieldDescriptor (TN9 k).2.2.1 = some (TY9 k) := by decide +kernel
theorem cn9 : ∀ a, a < 11 → ∀ b, b < 11 → a ≠ b → (TN9 a).2.1 ≠ (TN9 b).2.1 := by decide +kernel
theorem cw10 : ∀ w ∈ u_ws "EachBringsAnother" TN10 10, w ∈ gw_tbl := cw_of [457, 459, 461, 463, 465, 467, 469, 471, 473, 475] (by decide +kernel)
theorem ct10 : ∀ k, k < 10 → parseFieldDescriptor (TN10 k).2.2.1 = some (TY10 k) := by decide +kernel
theorem cn10 : ∀ a, a < 10 → ∀ b, b < 10 → a ≠ b → (TN10 a).2.1 ≠ (TN10 b).2.1 := by decide +kernel
theorem cw11 : ∀ w ∈ u_ws "EachBringsAnotherModel" TN11 60, w ∈ gw_tbl := cw_of [1280, 1282, 1284, 1286, 1288, 1290, 1292, 1294, 1296, 1298, 1300, 1302, 1304, 1306, 1308, 1310, 1312, 1314, 1316, 1318, 1320, 1322, 1324, 1326, 1328, 1330, 1332, 1334, 1336, 1338, 1340, 1342, 1344, 1346, 1348, 1350, 1352, 1354, 1356, 1358, 1360, 1362, 1364, 1366, 1368, 1370, 1372, 1374, 1376, 1378, 1380, 1382, 1384, 1386, 1388, 1390, 1392, 1394, 1396, 1398] (by decide +kernel)
theorem ct11 : ∀ k, k < 60 → parseFieldDescriptor (TN11 k).2.2.1 = some (TY11 k) := by decide +kernel
theorem cn11 : ∀ a, a < 60 → ∀ b, b < 60 → a ≠ b → (TN11 a).2.1 ≠ (TN11 b).2.1 := by decide +kernel
/-- of each class: its words stand in the tables, its fields' types, their names are apart -/
theorem cl_ok : ∀ (i : Nat) (q : vw_C), cl[i]? = some q → (∀ w ∈ u_ws q.1 q.2.1 q.2.2, w ∈ gw_tbl) ∧ (∃ ty : Nat → FieldType, tyL[i]? = some ty ∧ ∀ k, k < q.2.2 → parseFieldDescriptor (q.2.1 k).2.2.1 = some (ty k)) ∧ (∀ a, a < q.2.2 → ∀ b, b < q.2.2 → a ≠ b → (q.2.1 a).2.1 ≠ (q.2.1 b).2.1) := by
  intro i q h
  match i, h with
  | 0, h => cases h; exact ⟨cw0, ⟨_, rfl, ct0⟩, cn0⟩
  | 1, h => cases h; exact ⟨cw1, ⟨_, rfl, ct1⟩, cn1⟩
  | 2, h => cases h; exact ⟨cw2, ⟨_, rfl, ct2⟩, cn2⟩
  | 3, h => cases h; exact ⟨cw3, ⟨_, rfl, ct3⟩, cn3⟩
  | 4, h => cases h; exact ⟨cw4, ⟨_, rfl, ct4⟩, cn4⟩
  | 5, h => cases h; exact ⟨cw5, ⟨_, rfl, ct5⟩, cn5⟩
  | 6, h => cases h; exact ⟨cw6, ⟨_, rfl, ct6⟩, cn6⟩
  | 7, h => cases h; exact ⟨cw7, ⟨_, rfl, ct7⟩, cn7⟩
  | 8, h => cases h; exact ⟨cw8, ⟨_, rfl, ct8⟩, cn8⟩
  | 9, h => cases h; exact ⟨cw9, ⟨_, rfl, ct9⟩, cn9⟩
  | 10, h => cases h; exact ⟨cw10, ⟨_, rfl, ct10⟩, cn10⟩
  | 11, h => cases h; exact ⟨cw11, ⟨_, rfl, ct11⟩, cn11⟩
  | k + 12, h => exact absurd h (by simp [cl])
