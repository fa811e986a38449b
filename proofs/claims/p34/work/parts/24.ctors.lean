theorem zq_d_g_0 : zAQ goodWord [(84, (Jvm.Cond.initialized "EachBringsAnother")), (85, (Jvm.Cond.initialized "EachBringsAnother$Text")), (86, (Jvm.Cond.initialized "EachBringsAnother$Numbers")), (87, (Jvm.Cond.initialized "EachBringsAnother$Folk")), (88, (Jvm.Cond.initialized "EachBringsAnother$Lines")), (89, (Jvm.Cond.initialized "EachBringsAnother$Plan")), (90, (Jvm.Cond.initialized "EachBringsAnother$Diary")), (91, (Jvm.Cond.initialized "EachBringsAnother$Wish")), (92, (Jvm.Cond.initialized "EachBringsAnother$Moves")), (93, (Jvm.Cond.initialized "EachBringsAnother$Search")), (94, (Jvm.Cond.initialized "EachBringsAnother$Kept")), (95, (Jvm.Cond.initialized "EachBringsAnotherModel")), (108, (Jvm.Cond.instanceMethod ({ cls := "EachBringsAnother", name := "<init>", desc := "()V" } : Jvm.MethodName))), (110, (Jvm.Cond.methodLink "EachBringsAnother" (3 : Nat) ({ cls := "java/lang/Object", name := "<init>", desc := "()V" } : Jvm.MethodName))), (113, (Jvm.Cond.classLink "EachBringsAnother" (9 : Nat) "EachBringsAnother$Text")), (114, (Jvm.Cond.instantiable "EachBringsAnother$Text" (2 : Nat))), (116, (Jvm.Cond.instanceMethod ({ cls := "EachBringsAnother$Text", name := "<init>", desc := "()V" } : Jvm.MethodName))), (118, (Jvm.Cond.methodLink "EachBringsAnother$Text" (3 : Nat) ({ cls := "java/lang/Object", name := "<init>", desc := "()V" } : Jvm.MethodName))), (119, (Jvm.Cond.fieldLink "EachBringsAnother$Text" (9 : Nat) "EachBringsAnother$Text" "signs" "[C")), (130, (Jvm.Cond.arrayClass Jvm.ClassFile.FieldType.char)), (131, (Jvm.Cond.classLink "EachBringsAnother" (16 : Nat) "EachBringsAnother$Numbers")), (132, (Jvm.Cond.instantiable "EachBringsAnother$Numbers" (2 : Nat))), (134, (Jvm.Cond.instanceMethod ({ cls := "EachBringsAnother$Numbers", name := "<init>", desc := "()V" } : Jvm.MethodName))), (136, (Jvm.Cond.methodLink "EachBringsAnother$Numbers" (3 : Nat) ({ cls := "java/lang/Object", name := "<init>", desc := "()V" } : Jvm.MethodName)))] := zchk_all goodWord lw_tbl 0 _ rfl (by decide +kernel)
theorem zq_d_g_1 : zAQ goodWord [(137, (Jvm.Cond.fieldLink "EachBringsAnother$Numbers" (9 : Nat) "EachBringsAnother$Numbers" "numbers" "[I")), (145, (Jvm.Cond.arrayClass Jvm.ClassFile.FieldType.int)), (146, (Jvm.Cond.classLink "EachBringsAnother" (23 : Nat) "EachBringsAnother$Folk")), (147, (Jvm.Cond.instantiable "EachBringsAnother$Folk" (9 : Nat))), (149, (Jvm.Cond.instanceMethod ({ cls := "EachBringsAnother$Folk", name := "<init>", desc := "()V" } : Jvm.MethodName))), (151, (Jvm.Cond.methodLink "EachBringsAnother$Folk" (3 : Nat) ({ cls := "java/lang/Object", name := "<init>", desc := "()V" } : Jvm.MethodName))), (152, (Jvm.Cond.fieldLink "EachBringsAnother$Folk" (9 : Nat) "EachBringsAnother$Folk" "price" "[I")), (154, (Jvm.Cond.fieldLink "EachBringsAnother$Folk" (15 : Nat) "EachBringsAnother$Folk" "knows" "[I")), (158, (Jvm.Cond.fieldLink "EachBringsAnother$Folk" (18 : Nat) "EachBringsAnother$Folk" "brought" "[I")), (185, (Jvm.Cond.fieldLink "EachBringsAnother$Folk" (21 : Nat) "EachBringsAnother$Folk" "grace" "I")), (190, (Jvm.Cond.fieldLink "EachBringsAnother$Folk" (25 : Nat) "EachBringsAnother$Folk" "seats" "I")), (215, (Jvm.Cond.classLink "EachBringsAnother" (30 : Nat) "EachBringsAnother$Lines")), (216, (Jvm.Cond.instantiable "EachBringsAnother$Lines" (6 : Nat))), (218, (Jvm.Cond.instanceMethod ({ cls := "EachBringsAnother$Lines", name := "<init>", desc := "()V" } : Jvm.MethodName))), (220, (Jvm.Cond.methodLink "EachBringsAnother$Lines" (3 : Nat) ({ cls := "java/lang/Object", name := "<init>", desc := "()V" } : Jvm.MethodName))), (221, (Jvm.Cond.fieldLink "EachBringsAnother$Lines" (9 : Nat) "EachBringsAnother$Lines" "price" "[I")), (222, (Jvm.Cond.fieldLink "EachBringsAnother$Lines" (15 : Nat) "EachBringsAnother$Lines" "knows" "[I")), (240, (Jvm.Cond.classLink "EachBringsAnother" (37 : Nat) "EachBringsAnother$Plan")), (241, (Jvm.Cond.instantiable "EachBringsAnother$Plan" (4 : Nat))), (243, (Jvm.Cond.instanceMethod ({ cls := "EachBringsAnother$Plan", name := "<init>", desc := "()V" } : Jvm.MethodName))), (245, (Jvm.Cond.methodLink "EachBringsAnother$Plan" (3 : Nat) ({ cls := "java/lang/Object", name := "<init>", desc := "()V" } : Jvm.MethodName))), (246, (Jvm.Cond.fieldLink "EachBringsAnother$Plan" (9 : Nat) "EachBringsAnother$Plan" "bringers" "[I")), (247, (Jvm.Cond.fieldLink "EachBringsAnother$Plan" (15 : Nat) "EachBringsAnother$Plan" "brought" "[I")), (261, (Jvm.Cond.classLink "EachBringsAnother" (44 : Nat) "EachBringsAnother$Diary"))] := zchk_all goodWord lw_tbl 0 _ rfl (by decide +kernel)
theorem zq_d_g_2 : zAQ goodWord [(262, (Jvm.Cond.instantiable "EachBringsAnother$Diary" (5 : Nat))), (264, (Jvm.Cond.instanceMethod ({ cls := "EachBringsAnother$Diary", name := "<init>", desc := "()V" } : Jvm.MethodName))), (266, (Jvm.Cond.methodLink "EachBringsAnother$Diary" (3 : Nat) ({ cls := "java/lang/Object", name := "<init>", desc := "()V" } : Jvm.MethodName))), (267, (Jvm.Cond.fieldLink "EachBringsAnother$Diary" (9 : Nat) "EachBringsAnother$Diary" "guests" "[I")), (269, (Jvm.Cond.fieldLink "EachBringsAnother$Diary" (15 : Nat) "EachBringsAnother$Diary" "whoAhead" "[I")), (270, (Jvm.Cond.fieldLink "EachBringsAnother$Diary" (18 : Nat) "EachBringsAnother$Diary" "paidAhead" "[I")), (288, (Jvm.Cond.classLink "EachBringsAnother" (51 : Nat) "EachBringsAnother$Wish")), (289, (Jvm.Cond.instantiable "EachBringsAnother$Wish" (11 : Nat))), (291, (Jvm.Cond.instanceMethod ({ cls := "EachBringsAnother$Wish", name := "<init>", desc := "()V" } : Jvm.MethodName))), (293, (Jvm.Cond.methodLink "EachBringsAnother$Wish" (3 : Nat) ({ cls := "java/lang/Object", name := "<init>", desc := "()V" } : Jvm.MethodName))), (294, (Jvm.Cond.fieldLink "EachBringsAnother$Wish" (9 : Nat) "EachBringsAnother$Wish" "code" "[I")), (295, (Jvm.Cond.fieldLink "EachBringsAnother$Wish" (15 : Nat) "EachBringsAnother$Wish" "draft" "[I")), (296, (Jvm.Cond.fieldLink "EachBringsAnother$Wish" (18 : Nat) "EachBringsAnother$Wish" "waiting" "[I")), (297, (Jvm.Cond.fieldLink "EachBringsAnother$Wish" (21 : Nat) "EachBringsAnother$Wish" "stack" "[I")), (328, (Jvm.Cond.classLink "EachBringsAnother" (58 : Nat) "EachBringsAnother$Moves")), (329, (Jvm.Cond.instantiable "EachBringsAnother$Moves" (10 : Nat))), (331, (Jvm.Cond.instanceMethod ({ cls := "EachBringsAnother$Moves", name := "<init>", desc := "()V" } : Jvm.MethodName))), (333, (Jvm.Cond.methodLink "EachBringsAnother$Moves" (3 : Nat) ({ cls := "java/lang/Object", name := "<init>", desc := "()V" } : Jvm.MethodName))), (334, (Jvm.Cond.fieldLink "EachBringsAnother$Moves" (11 : Nat) "EachBringsAnother$Moves" "movers" "[I")), (335, (Jvm.Cond.fieldLink "EachBringsAnother$Moves" (15 : Nat) "EachBringsAnother$Moves" "parent" "[I")), (336, (Jvm.Cond.fieldLink "EachBringsAnother$Moves" (18 : Nat) "EachBringsAnother$Moves" "seen" "[I")), (367, (Jvm.Cond.classLink "EachBringsAnother" (65 : Nat) "EachBringsAnother$Search")), (368, (Jvm.Cond.instantiable "EachBringsAnother$Search" (11 : Nat))), (370, (Jvm.Cond.instanceMethod ({ cls := "EachBringsAnother$Search", name := "<init>", desc := "()V" } : Jvm.MethodName)))] := zchk_all goodWord lw_tbl 0 _ rfl (by decide +kernel)
theorem zq_d_g_3 : zAQ goodWord [(372, (Jvm.Cond.methodLink "EachBringsAnother$Search" (3 : Nat) ({ cls := "java/lang/Object", name := "<init>", desc := "()V" } : Jvm.MethodName))), (373, (Jvm.Cond.fieldLink "EachBringsAnother$Search" (11 : Nat) "EachBringsAnother$Search" "slots" "[I")), (374, (Jvm.Cond.fieldLink "EachBringsAnother$Search" (15 : Nat) "EachBringsAnother$Search" "states" "[I")), (375, (Jvm.Cond.fieldLink "EachBringsAnother$Search" (18 : Nat) "EachBringsAnother$Search" "when" "[J")), (376, (Jvm.Cond.fieldLink "EachBringsAnother$Search" (22 : Nat) "EachBringsAnother$Search" "left" "[J")), (377, (Jvm.Cond.fieldLink "EachBringsAnother$Search" (25 : Nat) "EachBringsAnother$Search" "behind" "[I")), (378, (Jvm.Cond.fieldLink "EachBringsAnother$Search" (28 : Nat) "EachBringsAnother$Search" "firstOfRank" "[I")), (379, (Jvm.Cond.fieldLink "EachBringsAnother$Search" (31 : Nat) "EachBringsAnother$Search" "order" "[I")), (408, (Jvm.Cond.arrayClass Jvm.ClassFile.FieldType.long)), (409, (Jvm.Cond.classLink "EachBringsAnother" (72 : Nat) "EachBringsAnother$Kept")), (411, (Jvm.Cond.instantiable "EachBringsAnother$Kept" (10 : Nat))), (413, (Jvm.Cond.instanceMethod ({ cls := "EachBringsAnother$Kept", name := "<init>", desc := "()V" } : Jvm.MethodName))), (415, (Jvm.Cond.methodLink "EachBringsAnother$Kept" (3 : Nat) ({ cls := "java/lang/Object", name := "<init>", desc := "()V" } : Jvm.MethodName))), (416, (Jvm.Cond.fieldLink "EachBringsAnother$Kept" (9 : Nat) "EachBringsAnother$Kept" "brought" "[I")), (417, (Jvm.Cond.fieldLink "EachBringsAnother$Kept" (15 : Nat) "EachBringsAnother$Kept" "guests" "[I")), (447, (Jvm.Cond.fieldLink "EachBringsAnother" (12 : Nat) "EachBringsAnother" "text" "LEachBringsAnother$Text;")), (448, (Jvm.Cond.fieldLink "EachBringsAnother" (19 : Nat) "EachBringsAnother" "told" "LEachBringsAnother$Numbers;")), (449, (Jvm.Cond.fieldLink "EachBringsAnother" (26 : Nat) "EachBringsAnother" "folk" "LEachBringsAnother$Folk;")), (450, (Jvm.Cond.fieldLink "EachBringsAnother" (33 : Nat) "EachBringsAnother" "lines" "LEachBringsAnother$Lines;")), (451, (Jvm.Cond.fieldLink "EachBringsAnother" (40 : Nat) "EachBringsAnother" "plan" "LEachBringsAnother$Plan;")), (452, (Jvm.Cond.fieldLink "EachBringsAnother" (47 : Nat) "EachBringsAnother" "diary" "LEachBringsAnother$Diary;")), (453, (Jvm.Cond.fieldLink "EachBringsAnother" (54 : Nat) "EachBringsAnother" "wish" "LEachBringsAnother$Wish;")), (454, (Jvm.Cond.fieldLink "EachBringsAnother" (61 : Nat) "EachBringsAnother" "moves" "LEachBringsAnother$Moves;")), (455, (Jvm.Cond.fieldLink "EachBringsAnother" (68 : Nat) "EachBringsAnother" "search" "LEachBringsAnother$Search;"))] := zchk_all goodWord lw_tbl 0 _ rfl (by decide +kernel)
theorem zq_d_g_4 : zAQ goodWord [(456, (Jvm.Cond.fieldLink "EachBringsAnother" (75 : Nat) "EachBringsAnother" "kept" "[LEachBringsAnother$Kept;")), (1193, (Jvm.Cond.arrayClass Jvm.ClassFile.FieldType.byte)), (1215, (Jvm.Cond.instanceMethod ({ cls := "EachBringsAnotherModel", name := "<init>", desc := "()V" } : Jvm.MethodName))), (1217, (Jvm.Cond.methodLink "EachBringsAnotherModel" (3 : Nat) ({ cls := "java/lang/Object", name := "<init>", desc := "()V" } : Jvm.MethodName))), (1218, (Jvm.Cond.constant "EachBringsAnotherModel" (85 : Nat) (756000 : Int32))), (1219, (Jvm.Cond.constant "EachBringsAnotherModel" (122 : Nat) (135000 : Int32))), (1221, (Jvm.Cond.fieldLink "EachBringsAnotherModel" (9 : Nat) "EachBringsAnotherModel" "price" "[I")), (1222, (Jvm.Cond.fieldLink "EachBringsAnotherModel" (13 : Nat) "EachBringsAnotherModel" "knows" "[I")), (1223, (Jvm.Cond.fieldLink "EachBringsAnotherModel" (16 : Nat) "EachBringsAnotherModel" "isHidden" "[Z")), (1224, (Jvm.Cond.fieldLink "EachBringsAnotherModel" (20 : Nat) "EachBringsAnotherModel" "is" "[I")), (1225, (Jvm.Cond.fieldLink "EachBringsAnotherModel" (23 : Nat) "EachBringsAnotherModel" "broughtBy" "[I")), (1226, (Jvm.Cond.fieldLink "EachBringsAnotherModel" (26 : Nat) "EachBringsAnotherModel" "firstWeek" "[I")), (1229, (Jvm.Cond.fieldLink "EachBringsAnotherModel" (29 : Nat) "EachBringsAnotherModel" "were" "[I")), (1230, (Jvm.Cond.fieldLink "EachBringsAnotherModel" (32 : Nat) "EachBringsAnotherModel" "grace" "I")), (1231, (Jvm.Cond.fieldLink "EachBringsAnotherModel" (36 : Nat) "EachBringsAnotherModel" "seats" "I")), (1232, (Jvm.Cond.fieldLink "EachBringsAnotherModel" (39 : Nat) "EachBringsAnotherModel" "text" "[B")), (1234, (Jvm.Cond.fieldLink "EachBringsAnotherModel" (43 : Nat) "EachBringsAnotherModel" "row" "[I")), (1242, (Jvm.Cond.fieldLink "EachBringsAnotherModel" (46 : Nat) "EachBringsAnotherModel" "newPrice" "[I")), (1243, (Jvm.Cond.fieldLink "EachBringsAnotherModel" (49 : Nat) "EachBringsAnotherModel" "newKnows" "[I")), (1244, (Jvm.Cond.fieldLink "EachBringsAnotherModel" (52 : Nat) "EachBringsAnotherModel" "newIs" "[I")), (1245, (Jvm.Cond.fieldLink "EachBringsAnotherModel" (55 : Nat) "EachBringsAnotherModel" "newHidden" "[Z")), (1246, (Jvm.Cond.fieldLink "EachBringsAnotherModel" (58 : Nat) "EachBringsAnotherModel" "rule" "[B")), (1248, (Jvm.Cond.fieldLink "EachBringsAnotherModel" (61 : Nat) "EachBringsAnotherModel" "askedOne" "I")), (1250, (Jvm.Cond.fieldLink "EachBringsAnotherModel" (64 : Nat) "EachBringsAnotherModel" "brings" "[I"))] := zchk_all goodWord lw_tbl 0 _ rfl (by decide +kernel)
theorem zq_d_g_5 : zAQ goodWord [(1251, (Jvm.Cond.fieldLink "EachBringsAnotherModel" (67 : Nat) "EachBringsAnotherModel" "undos" "[I")), (1253, (Jvm.Cond.fieldLink "EachBringsAnotherModel" (70 : Nat) "EachBringsAnotherModel" "pairBy" "[I")), (1254, (Jvm.Cond.fieldLink "EachBringsAnotherModel" (73 : Nat) "EachBringsAnotherModel" "pairWho" "[I")), (1255, (Jvm.Cond.fieldLink "EachBringsAnotherModel" (76 : Nat) "EachBringsAnotherModel" "mostPairs" "[I")), (1256, (Jvm.Cond.fieldLink "EachBringsAnotherModel" (79 : Nat) "EachBringsAnotherModel" "stateIn" "[I")), (1257, (Jvm.Cond.fieldLink "EachBringsAnotherModel" (82 : Nat) "EachBringsAnotherModel" "edgeFrom" "[I")), (1258, (Jvm.Cond.fieldLink "EachBringsAnotherModel" (86 : Nat) "EachBringsAnotherModel" "edges" "[I")), (1259, (Jvm.Cond.fieldLink "EachBringsAnotherModel" (89 : Nat) "EachBringsAnotherModel" "seenBy" "[I")), (1262, (Jvm.Cond.fieldLink "EachBringsAnotherModel" (92 : Nat) "EachBringsAnotherModel" "table" "[I")), (1263, (Jvm.Cond.fieldLink "EachBringsAnotherModel" (95 : Nat) "EachBringsAnotherModel" "now" "[I")), (1265, (Jvm.Cond.fieldLink "EachBringsAnotherModel" (98 : Nat) "EachBringsAnotherModel" "paidTo" "[I")), (1266, (Jvm.Cond.fieldLink "EachBringsAnotherModel" (101 : Nat) "EachBringsAnotherModel" "paidThen" "[I")), (1267, (Jvm.Cond.fieldLink "EachBringsAnotherModel" (104 : Nat) "EachBringsAnotherModel" "life" "[I")), (1268, (Jvm.Cond.fieldLink "EachBringsAnotherModel" (107 : Nat) "EachBringsAnotherModel" "order" "[I")), (1269, (Jvm.Cond.fieldLink "EachBringsAnotherModel" (110 : Nat) "EachBringsAnotherModel" "left" "[I")), (1270, (Jvm.Cond.fieldLink "EachBringsAnotherModel" (113 : Nat) "EachBringsAnotherModel" "isWanted" "[Z")), (1271, (Jvm.Cond.fieldLink "EachBringsAnotherModel" (116 : Nat) "EachBringsAnotherModel" "pairRow" "[I")), (1273, (Jvm.Cond.fieldLink "EachBringsAnotherModel" (119 : Nat) "EachBringsAnotherModel" "nextOf" "[Z")), (1274, (Jvm.Cond.fieldLink "EachBringsAnotherModel" (123 : Nat) "EachBringsAnotherModel" "least" "[I")), (1275, (Jvm.Cond.fieldLink "EachBringsAnotherModel" (126 : Nat) "EachBringsAnotherModel" "steps" "[I")), (1277, (Jvm.Cond.fieldLink "EachBringsAnotherModel" (129 : Nat) "EachBringsAnotherModel" "kept" "[I")), (1278, (Jvm.Cond.fieldLink "EachBringsAnotherModel" (132 : Nat) "EachBringsAnotherModel" "isKept" "[Z")), (1279, (Jvm.Cond.fieldLink "EachBringsAnotherModel" (135 : Nat) "EachBringsAnotherModel" "keptCame" "[I")), (1401, (Jvm.Cond.arrayClass Jvm.ClassFile.FieldType.boolean))] := zchk_all goodWord lw_tbl 0 _ rfl (by decide +kernel)
theorem zq_d_n_0 : zAQ isNest [(115, (Jvm.Cond.methodLinkNest "EachBringsAnother" (11 : Nat) ({ cls := "EachBringsAnother$Text", name := "<init>", desc := "()V" } : Jvm.MethodName) "EachBringsAnother")), (133, (Jvm.Cond.methodLinkNest "EachBringsAnother" (18 : Nat) ({ cls := "EachBringsAnother$Numbers", name := "<init>", desc := "()V" } : Jvm.MethodName) "EachBringsAnother")), (148, (Jvm.Cond.methodLinkNest "EachBringsAnother" (25 : Nat) ({ cls := "EachBringsAnother$Folk", name := "<init>", desc := "()V" } : Jvm.MethodName) "EachBringsAnother")), (217, (Jvm.Cond.methodLinkNest "EachBringsAnother" (32 : Nat) ({ cls := "EachBringsAnother$Lines", name := "<init>", desc := "()V" } : Jvm.MethodName) "EachBringsAnother")), (242, (Jvm.Cond.methodLinkNest "EachBringsAnother" (39 : Nat) ({ cls := "EachBringsAnother$Plan", name := "<init>", desc := "()V" } : Jvm.MethodName) "EachBringsAnother")), (263, (Jvm.Cond.methodLinkNest "EachBringsAnother" (46 : Nat) ({ cls := "EachBringsAnother$Diary", name := "<init>", desc := "()V" } : Jvm.MethodName) "EachBringsAnother")), (290, (Jvm.Cond.methodLinkNest "EachBringsAnother" (53 : Nat) ({ cls := "EachBringsAnother$Wish", name := "<init>", desc := "()V" } : Jvm.MethodName) "EachBringsAnother")), (330, (Jvm.Cond.methodLinkNest "EachBringsAnother" (60 : Nat) ({ cls := "EachBringsAnother$Moves", name := "<init>", desc := "()V" } : Jvm.MethodName) "EachBringsAnother")), (369, (Jvm.Cond.methodLinkNest "EachBringsAnother" (67 : Nat) ({ cls := "EachBringsAnother$Search", name := "<init>", desc := "()V" } : Jvm.MethodName) "EachBringsAnother")), (412, (Jvm.Cond.methodLinkNest "EachBringsAnother" (74 : Nat) ({ cls := "EachBringsAnother$Kept", name := "<init>", desc := "()V" } : Jvm.MethodName) "EachBringsAnother"))] := zchk_all isNest lw_tbl 0 _ rfl (by decide +kernel)
theorem rmn_f {X : jX} {dep k n : Nat} (h : xR X = rmN dep k n) (hd : 1 ≤ dep) : 1 ≤ (xR X).frames ∧ 60 ≤ (xR X).locals := by rw [h]; simp only [rmN]; omega
theorem rmn_c {X : jX} {dep k n k0 k1 n0 n1 : Nat} (h : xR X = rmN dep k n) (hd : (Nat.ble (k0 + k1) k && Nat.ble (n0 + n1) n) = true) : k0 + k1 ≤ (xR X).cells ∧ n0 + n1 ≤ (xR X).slots := by
  simp only [Bool.and_eq_true, Nat.ble_eq] at hd
  rw [h]; exact hd
theorem rmn_r {X : jX} {dep k n d0 mL k0 k1 n0 n1 : Nat} (h : xR X = rmN dep k n) (hd : (Nat.ble (d0 + 1) dep && Nat.ble mL 41 && Nat.ble (k0 + k1) k && Nat.ble (n0 + n1) n) = true) : d0 + 1 ≤ (xR X).frames ∧ 19 + mL + 60 * d0 ≤ (xR X).locals ∧ k0 + k1 ≤ (xR X).cells ∧ n0 + n1 ≤ (xR X).slots := by
  simp only [Bool.and_eq_true, Nat.ble_eq] at hd
  rw [h]; simp only [rmN]; omega
theorem dz_E_new_0 : zdw (prog_1_method_1_code.data.toList.drop 0) 0 [(0, .aload_n 0, 1), (1, .invokespecial 3, 3), (4, .aload_n 0, 1), (5, .new 9, 3), (8, .dup, 1), (9, .invokespecial 11, 3), (12, .putfield 12, 3), (15, .aload_n 0, 1), (16, .new 16, 3), (19, .dup, 1), (20, .invokespecial 18, 3), (23, .putfield 19, 3), (26, .aload_n 0, 1), (27, .new 23, 3), (30, .dup, 1), (31, .invokespecial 25, 3), (34, .putfield 26, 3), (37, .aload_n 0, 1), (38, .new 30, 3), (41, .dup, 1), (42, .invokespecial 32, 3), (45, .putfield 33, 3), (48, .aload_n 0, 1), (49, .new 37, 3)] = true := by decide +kernel
theorem dz_E_new_1 : zdw (prog_1_method_1_code.data.toList.drop 52) 52 [(52, .dup, 1), (53, .invokespecial 39, 3), (56, .putfield 40, 3), (59, .aload_n 0, 1), (60, .new 44, 3), (63, .dup, 1), (64, .invokespecial 46, 3), (67, .putfield 47, 3), (70, .aload_n 0, 1), (71, .new 51, 3), (74, .dup, 1), (75, .invokespecial 53, 3), (78, .putfield 54, 3), (81, .aload_n 0, 1), (82, .new 58, 3), (85, .dup, 1), (86, .invokespecial 60, 3), (89, .putfield 61, 3), (92, .aload_n 0, 1), (93, .new 65, 3), (96, .dup, 1), (97, .invokespecial 67, 3), (100, .putfield 68, 3), (103, .aload_n 0, 1)] = true := by decide +kernel
theorem dz_E_new_2 : zdw (prog_1_method_1_code.data.toList.drop 104) 104 [(104, .iconst 2, 1), (108, .dup, 1), (109, .iconst 0, 1), (110, .new 72, 3), (113, .dup, 1), (114, .invokespecial 74, 3), (118, .dup, 1), (119, .iconst 1, 1), (120, .new 72, 3), (123, .dup, 1), (124, .invokespecial 74, 3), (128, .putfield 75, 3), (131, .return_, 1)] = true := by decide +kernel
theorem hft_0 (b : Nat) (fs : List (Nat × Nat)) (hfs : fs.map (·.1) = [3, 0]) : ∀ j, j < 2 → ∀ ty : Nat → FieldType, tyL[0]? = some ty → defaultValue (ty j) = jc (nad b) (jk (fs.getD j (0, 0)).1, 0) := by
  intro j hj ty h
  cases h
  have e : (fs.getD j (0, 0)).1 = (fs.map (·.1)).getD j 0 := by
    rw [List.getD_eq_getElem?_getD, List.getD_eq_getElem?_getD, List.getElem?_map]
    cases fs[j]? <;> rfl
  rw [e, hfs]
  match j, hj with
  | 0, _ => rfl
  | 1, _ => rfl
  | k + 2, h => exact absurd h (by omega)
theorem dz_T_new_0 : zdw (prog_10_method_1_code.data.toList.drop 0) 0 [(0, .aload_n 0, 1), (1, .invokespecial 3, 3), (4, .aload_n 0, 1), (5, .bipush 80, 2), (9, .putfield 9, 3), (12, .return_, 1)] = true := by decide +kernel
theorem fn_0_0 : FNK "EachBringsAnother$Text" 0 0 3 := ⟨_, .array .char, rfl, by decide +kernel, Or.inr ⟨by decide +kernel, by decide +kernel⟩, Or.inr ⟨Or.inr rfl, Or.inr ⟨_, rfl⟩⟩⟩
def y_T_init : MethodName := ⟨"EachBringsAnother$Text", "<init>", "()V"⟩
theorem cyn_T : CYN y_T_init prog_10_method_1_code 1 := ⟨⟨by decide +kernel, by decide +kernel, by decide +kernel⟩, rfl, (mem_h 85 (zaq1 (zaq2 zq_d_g_0))), (mem_h 117 (by decide +kernel)), (mem_h 116 (zaq1 (zaq2 (zaq2 (zaq2 (zaq2 (zaq2 (zaq2 (zaq2 (zaq2 (zaq2 (zaq2 (zaq2 (zaq2 (zaq2 (zaq2 (zaq2 (zaq2 zq_d_g_0))))))))))))))))))⟩
def i_T (w : Wd) : Wd := st (w) 1 0 3
theorem ctn_T : CtN y_T_init prog_10_method_1_code 1 1 1 2 3 1 80 i_T := by
  refine ctn_of (by decide +kernel) rfl (by decide) ?_
  intro X Qf b w C G hA hn hR hr
  unfold i_T
  refine vn_a0 C rfl (zdg dz_T_new_0 0 rfl) ?_
  refine vn_obj C (idx := 3) (mem_h 118 (zaq1 (zaq2 (zaq2 (zaq2 (zaq2 (zaq2 (zaq2 (zaq2 (zaq2 (zaq2 (zaq2 (zaq2 (zaq2 (zaq2 (zaq2 (zaq2 (zaq2 (zaq2 zq_d_g_0))))))))))))))))))) (rmn_f hR (by decide)) (zdg dz_T_new_0 1 rfl) ?_
  refine vn_a0 C rfl (zdg dz_T_new_0 2 rfl) ?_
  refine vn_bi C (z := 80) (zdg dz_T_new_0 3 rfl) (by decide +kernel) ?_
  refine vn_newa C (z := 80) sh_2 (by decide) (by decide) rfl rfl (Nat.le_of_ble_eq_true rfl) (mem_h 130 (zaq1 (zaq2 (zaq2 (zaq2 (zaq2 (zaq2 (zaq2 (zaq2 (zaq2 (zaq2 (zaq2 (zaq2 (zaq2 (zaq2 (zaq2 (zaq2 (zaq2 (zaq2 (zaq2 (zaq2 zq_d_g_0))))))))))))))))))))) (rmn_c hR rfl) (at9 := .char) (by decide +kernel) ?_
  refine vn_put C G (idx := 9) (fn := "signs") (fd := "[C") (z := 3) (mem_h 119 (zaq1 (zaq2 (zaq2 (zaq2 (zaq2 (zaq2 (zaq2 (zaq2 (zaq2 (zaq2 (zaq2 (zaq2 (zaq2 (zaq2 (zaq2 (zaq2 (zaq2 (zaq2 (zaq2 zq_d_g_0)))))))))))))))))))) ⟨_, rfl, by decide, by decide +kernel, by decide +kernel, by decide +kernel⟩ fn_0_0 sh_1 rfl (by decide) jc_nad.symm (Int.natCast_nonneg 3) (zdg dz_T_new_0 4 rfl) ?_
  exact hr _ _ (zdg dz_T_new_0 5 rfl)
theorem hft_1 (b : Nat) (fs : List (Nat × Nat)) (hfs : fs.map (·.1) = [3, 0]) : ∀ j, j < 2 → ∀ ty : Nat → FieldType, tyL[1]? = some ty → defaultValue (ty j) = jc (nad b) (jk (fs.getD j (0, 0)).1, 0) := by
  intro j hj ty h
  cases h
  have e : (fs.getD j (0, 0)).1 = (fs.map (·.1)).getD j 0 := by
    rw [List.getD_eq_getElem?_getD, List.getD_eq_getElem?_getD, List.getElem?_map]
    cases fs[j]? <;> rfl
  rw [e, hfs]
  match j, hj with
  | 0, _ => rfl
  | 1, _ => rfl
  | k + 2, h => exact absurd h (by omega)
theorem dz_N_new_0 : zdw (prog_7_method_1_code.data.toList.drop 0) 0 [(0, .aload_n 0, 1), (1, .invokespecial 3, 3), (4, .aload_n 0, 1), (5, .bipush 20, 2), (9, .putfield 9, 3), (12, .return_, 1)] = true := by decide +kernel
theorem ml_E_11 : ML "EachBringsAnother" 11 y_T_init := Or.inr ⟨"EachBringsAnother", mem_nh 115 (zaq1 zq_d_n_0)⟩
theorem fn_10_0 : FNK "EachBringsAnother" 10 0 3 := ⟨_, .object "EachBringsAnother$Text", rfl, by decide +kernel, Or.inr ⟨by decide +kernel, by decide +kernel⟩, Or.inr ⟨Or.inr rfl, Or.inl ⟨_, rfl⟩⟩⟩
theorem fn_1_0 : FNK "EachBringsAnother$Numbers" 1 0 3 := ⟨_, .array .int, rfl, by decide +kernel, Or.inr ⟨by decide +kernel, by decide +kernel⟩, Or.inr ⟨Or.inr rfl, Or.inr ⟨_, rfl⟩⟩⟩
def y_N_init : MethodName := ⟨"EachBringsAnother$Numbers", "<init>", "()V"⟩
theorem cyn_N : CYN y_N_init prog_7_method_1_code 1 := ⟨⟨by decide +kernel, by decide +kernel, by decide +kernel⟩, rfl, (mem_h 86 (zaq1 (zaq2 (zaq2 zq_d_g_0)))), (mem_h 135 (by decide +kernel)), (mem_h 134 (zaq1 (zaq2 (zaq2 (zaq2 (zaq2 (zaq2 (zaq2 (zaq2 (zaq2 (zaq2 (zaq2 (zaq2 (zaq2 (zaq2 (zaq2 (zaq2 (zaq2 (zaq2 (zaq2 (zaq2 (zaq2 (zaq2 (zaq2 zq_d_g_0))))))))))))))))))))))))⟩
def i_N (w : Wd) : Wd := st (w) 3 0 5
theorem ctn_N : CtN y_N_init prog_7_method_1_code 1 1 3 4 5 1 20 i_N := by
  refine ctn_of (by decide +kernel) rfl (by decide) ?_
  intro X Qf b w C G hA hn hR hr
  unfold i_N
  refine vn_a0 C rfl (zdg dz_N_new_0 0 rfl) ?_
  refine vn_obj C (idx := 3) (mem_h 136 (zaq1 (zaq2 (zaq2 (zaq2 (zaq2 (zaq2 (zaq2 (zaq2 (zaq2 (zaq2 (zaq2 (zaq2 (zaq2 (zaq2 (zaq2 (zaq2 (zaq2 (zaq2 (zaq2 (zaq2 (zaq2 (zaq2 (zaq2 (zaq2 zq_d_g_0))))))))))))))))))))))))) (rmn_f hR (by decide)) (zdg dz_N_new_0 1 rfl) ?_
  refine vn_a0 C rfl (zdg dz_N_new_0 2 rfl) ?_
  refine vn_bi C (z := 20) (zdg dz_N_new_0 3 rfl) (by decide +kernel) ?_
  refine vn_newa C (z := 20) sh_4 (by decide) (by decide) rfl rfl (Nat.le_of_ble_eq_true rfl) (mem_h 145 (zaq1 (zaq2 zq_d_g_1))) (rmn_c hR rfl) (at9 := .int) (by decide +kernel) ?_
  refine vn_put C G (idx := 9) (fn := "numbers") (fd := "[I") (z := 5) (mem_h 137 (zaq1 zq_d_g_1)) ⟨_, rfl, by decide, by decide +kernel, by decide +kernel, by decide +kernel⟩ fn_1_0 sh_3 rfl (by decide) jc_nad.symm (Int.natCast_nonneg 5) (zdg dz_N_new_0 4 rfl) ?_
  exact hr _ _ (zdg dz_N_new_0 5 rfl)
theorem hft_2 (b : Nat) (fs : List (Nat × Nat)) (hfs : fs.map (·.1) = [3, 3, 3, 0, 0, 0, 0, 0, 0]) : ∀ j, j < 9 → ∀ ty : Nat → FieldType, tyL[2]? = some ty → defaultValue (ty j) = jc (nad b) (jk (fs.getD j (0, 0)).1, 0) := by
  intro j hj ty h
  cases h
  have e : (fs.getD j (0, 0)).1 = (fs.map (·.1)).getD j 0 := by
    rw [List.getD_eq_getElem?_getD, List.getD_eq_getElem?_getD, List.getElem?_map]
    cases fs[j]? <;> rfl
  rw [e, hfs]
  match j, hj with
  | 0, _ => rfl
  | 1, _ => rfl
  | 2, _ => rfl
  | 3, _ => rfl
  | 4, _ => rfl
  | 5, _ => rfl
  | 6, _ => rfl
  | 7, _ => rfl
  | 8, _ => rfl
  | k + 9, h => exact absurd h (by omega)
theorem dz_F_new_0 : zdw (prog_3_method_1_code.data.toList.drop 0) 0 [(0, .aload_n 0, 1), (1, .invokespecial 3, 3), (4, .aload_n 0, 1), (5, .bipush 10, 2), (9, .putfield 9, 3), (12, .aload_n 0, 1), (13, .bipush 10, 2), (17, .putfield 15, 3), (20, .aload_n 0, 1), (21, .bipush 10, 2), (25, .putfield 18, 3), (28, .aload_n 0, 1), (29, .iconst 1, 1), (30, .putfield 21, 3), (33, .aload_n 0, 1), (34, .bipush 10, 2), (36, .putfield 25, 3), (39, .return_, 1)] = true := by decide +kernel
theorem ml_E_18 : ML "EachBringsAnother" 18 y_N_init := Or.inr ⟨"EachBringsAnother", mem_nh 133 (zaq1 (zaq2 zq_d_n_0))⟩
theorem fn_10_1 : FNK "EachBringsAnother" 10 1 3 := ⟨_, .object "EachBringsAnother$Numbers", rfl, by decide +kernel, Or.inr ⟨by decide +kernel, by decide +kernel⟩, Or.inr ⟨Or.inr rfl, Or.inl ⟨_, rfl⟩⟩⟩
theorem fn_2_0 : FNK "EachBringsAnother$Folk" 2 0 3 := ⟨_, .array .int, rfl, by decide +kernel, Or.inr ⟨by decide +kernel, by decide +kernel⟩, Or.inr ⟨Or.inr rfl, Or.inr ⟨_, rfl⟩⟩⟩
theorem fn_2_1 : FNK "EachBringsAnother$Folk" 2 1 3 := ⟨_, .array .int, rfl, by decide +kernel, Or.inr ⟨by decide +kernel, by decide +kernel⟩, Or.inr ⟨Or.inr rfl, Or.inr ⟨_, rfl⟩⟩⟩
theorem fn_2_2 : FNK "EachBringsAnother$Folk" 2 2 3 := ⟨_, .array .int, rfl, by decide +kernel, Or.inr ⟨by decide +kernel, by decide +kernel⟩, Or.inr ⟨Or.inr rfl, Or.inr ⟨_, rfl⟩⟩⟩
theorem fn_2_7 : FNK "EachBringsAnother$Folk" 2 7 0 := ⟨_, .int, rfl, by decide +kernel, Or.inl (by decide +kernel), Or.inl ⟨rfl, rfl⟩⟩
theorem fn_2_8 : FNK "EachBringsAnother$Folk" 2 8 0 := ⟨_, .int, rfl, by decide +kernel, Or.inl (by decide +kernel), Or.inl ⟨rfl, rfl⟩⟩
def y_F_init : MethodName := ⟨"EachBringsAnother$Folk", "<init>", "()V"⟩
theorem cyn_F : CYN y_F_init prog_3_method_1_code 1 := ⟨⟨by decide +kernel, by decide +kernel, by decide +kernel⟩, rfl, (mem_h 87 (zaq1 (zaq2 (zaq2 (zaq2 zq_d_g_0))))), (mem_h 150 (by decide +kernel)), (mem_h 149 (zaq1 (zaq2 (zaq2 (zaq2 (zaq2 zq_d_g_1))))))⟩
def i_F (w : Wd) : Wd := st (st (st (st (st (w) 5 0 7) 5 1 8) 5 2 9) 5 7 1) 5 8 10
theorem ctn_F : CtN y_F_init prog_3_method_1_code 1 1 5 6 9 3 30 i_F := by
  refine ctn_of (by decide +kernel) rfl (by decide) ?_
  intro X Qf b w C G hA hn hR hr
  unfold i_F
  refine vn_a0 C rfl (zdg dz_F_new_0 0 rfl) ?_
  refine vn_obj C (idx := 3) (mem_h 151 (zaq1 (zaq2 (zaq2 (zaq2 (zaq2 (zaq2 zq_d_g_1))))))) (rmn_f hR (by decide)) (zdg dz_F_new_0 1 rfl) ?_
  refine vn_a0 C rfl (zdg dz_F_new_0 2 rfl) ?_
  refine vn_bi C (z := 10) (zdg dz_F_new_0 3 rfl) (by decide +kernel) ?_
  refine vn_newa C (z := 10) sh_6 (by decide) (by decide) rfl rfl (Nat.le_of_ble_eq_true rfl) (mem_h 145 (zaq1 (zaq2 zq_d_g_1))) (rmn_c hR rfl) (at9 := .int) (by decide +kernel) ?_
  refine vn_put C G (idx := 9) (fn := "price") (fd := "[I") (z := 7) (mem_h 152 (zaq1 (zaq2 (zaq2 (zaq2 (zaq2 (zaq2 (zaq2 zq_d_g_1)))))))) ⟨_, rfl, by decide, by decide +kernel, by decide +kernel, by decide +kernel⟩ fn_2_0 sh_5 rfl (by decide) jc_nad.symm (Int.natCast_nonneg 7) (zdg dz_F_new_0 4 rfl) ?_
  refine vn_a0 C rfl (zdg dz_F_new_0 5 rfl) ?_
  refine vn_bi C (z := 10) (zdg dz_F_new_0 6 rfl) (by decide +kernel) ?_
  refine vn_newa C (z := 10) sh_7 (by decide) (by decide) rfl rfl (Nat.le_of_ble_eq_true rfl) (mem_h 145 (zaq1 (zaq2 zq_d_g_1))) (rmn_c hR rfl) (at9 := .int) (by decide +kernel) ?_
  refine vn_put C G (idx := 15) (fn := "knows") (fd := "[I") (z := 8) (mem_h 154 (zaq1 (zaq2 (zaq2 (zaq2 (zaq2 (zaq2 (zaq2 (zaq2 zq_d_g_1))))))))) ⟨_, rfl, by decide, by decide +kernel, by decide +kernel, by decide +kernel⟩ fn_2_1 sh_5 rfl (by decide) jc_nad.symm (Int.natCast_nonneg 8) (zdg dz_F_new_0 7 rfl) ?_
  refine vn_a0 C rfl (zdg dz_F_new_0 8 rfl) ?_
  refine vn_bi C (z := 10) (zdg dz_F_new_0 9 rfl) (by decide +kernel) ?_
  refine vn_newa C (z := 10) sh_8 (by decide) (by decide) rfl rfl (Nat.le_of_ble_eq_true rfl) (mem_h 145 (zaq1 (zaq2 zq_d_g_1))) (rmn_c hR rfl) (at9 := .int) (by decide +kernel) ?_
  refine vn_put C G (idx := 18) (fn := "brought") (fd := "[I") (z := 9) (mem_h 158 (zaq1 (zaq2 (zaq2 (zaq2 (zaq2 (zaq2 (zaq2 (zaq2 (zaq2 zq_d_g_1)))))))))) ⟨_, rfl, by decide, by decide +kernel, by decide +kernel, by decide +kernel⟩ fn_2_2 sh_5 rfl (by decide) jc_nad.symm (Int.natCast_nonneg 9) (zdg dz_F_new_0 10 rfl) ?_
  refine vn_a0 C rfl (zdg dz_F_new_0 11 rfl) ?_
  refine vn_ic C (z := 1) (zdg dz_F_new_0 12 rfl) ?_
  refine vn_put C G (idx := 21) (fn := "grace") (fd := "I") (z := 1) (mem_h 185 (zaq1 (zaq2 (zaq2 (zaq2 (zaq2 (zaq2 (zaq2 (zaq2 (zaq2 (zaq2 zq_d_g_1))))))))))) ⟨_, rfl, by decide, by decide +kernel, by decide +kernel, by decide +kernel⟩ fn_2_7 sh_5 rfl (by decide) rfl (jz rfl) (zdg dz_F_new_0 13 rfl) ?_
  refine vn_a0 C rfl (zdg dz_F_new_0 14 rfl) ?_
  refine vn_bi C (z := 10) (zdg dz_F_new_0 15 rfl) (by decide +kernel) ?_
  refine vn_put C G (idx := 25) (fn := "seats") (fd := "I") (z := 10) (mem_h 190 (zaq1 (zaq2 (zaq2 (zaq2 (zaq2 (zaq2 (zaq2 (zaq2 (zaq2 (zaq2 (zaq2 zq_d_g_1)))))))))))) ⟨_, rfl, by decide, by decide +kernel, by decide +kernel, by decide +kernel⟩ fn_2_8 sh_5 rfl (by decide) rfl (jz rfl) (zdg dz_F_new_0 16 rfl) ?_
  exact hr _ _ (zdg dz_F_new_0 17 rfl)
theorem hft_3 (b : Nat) (fs : List (Nat × Nat)) (hfs : fs.map (·.1) = [3, 3, 0, 0, 0, 0]) : ∀ j, j < 6 → ∀ ty : Nat → FieldType, tyL[3]? = some ty → defaultValue (ty j) = jc (nad b) (jk (fs.getD j (0, 0)).1, 0) := by
  intro j hj ty h
  cases h
  have e : (fs.getD j (0, 0)).1 = (fs.map (·.1)).getD j 0 := by
    rw [List.getD_eq_getElem?_getD, List.getD_eq_getElem?_getD, List.getElem?_map]
    cases fs[j]? <;> rfl
  rw [e, hfs]
  match j, hj with
  | 0, _ => rfl
  | 1, _ => rfl
  | 2, _ => rfl
  | 3, _ => rfl
  | 4, _ => rfl
  | 5, _ => rfl
  | k + 6, h => exact absurd h (by omega)
theorem dz_L_new_0 : zdw (prog_5_method_1_code.data.toList.drop 0) 0 [(0, .aload_n 0, 1), (1, .invokespecial 3, 3), (4, .aload_n 0, 1), (5, .bipush 10, 2), (9, .putfield 9, 3), (12, .aload_n 0, 1), (13, .bipush 10, 2), (17, .putfield 15, 3), (20, .return_, 1)] = true := by decide +kernel
theorem ml_E_25 : ML "EachBringsAnother" 25 y_F_init := Or.inr ⟨"EachBringsAnother", mem_nh 148 (zaq1 (zaq2 (zaq2 zq_d_n_0)))⟩
theorem fn_10_2 : FNK "EachBringsAnother" 10 2 3 := ⟨_, .object "EachBringsAnother$Folk", rfl, by decide +kernel, Or.inr ⟨by decide +kernel, by decide +kernel⟩, Or.inr ⟨Or.inr rfl, Or.inl ⟨_, rfl⟩⟩⟩
theorem fn_3_0 : FNK "EachBringsAnother$Lines" 3 0 3 := ⟨_, .array .int, rfl, by decide +kernel, Or.inr ⟨by decide +kernel, by decide +kernel⟩, Or.inr ⟨Or.inr rfl, Or.inr ⟨_, rfl⟩⟩⟩
theorem fn_3_1 : FNK "EachBringsAnother$Lines" 3 1 3 := ⟨_, .array .int, rfl, by decide +kernel, Or.inr ⟨by decide +kernel, by decide +kernel⟩, Or.inr ⟨Or.inr rfl, Or.inr ⟨_, rfl⟩⟩⟩
def y_L_init : MethodName := ⟨"EachBringsAnother$Lines", "<init>", "()V"⟩
theorem cyn_L : CYN y_L_init prog_5_method_1_code 1 := ⟨⟨by decide +kernel, by decide +kernel, by decide +kernel⟩, rfl, (mem_h 88 (zaq1 (zaq2 (zaq2 (zaq2 (zaq2 zq_d_g_0)))))), (mem_h 219 (by decide +kernel)), (mem_h 218 (zaq1 (zaq2 (zaq2 (zaq2 (zaq2 (zaq2 (zaq2 (zaq2 (zaq2 (zaq2 (zaq2 (zaq2 (zaq2 (zaq2 zq_d_g_1)))))))))))))))⟩
def i_L (w : Wd) : Wd := st (st (w) 9 0 11) 9 1 12
theorem ctn_L : CtN y_L_init prog_5_method_1_code 1 1 9 10 12 2 20 i_L := by
  refine ctn_of (by decide +kernel) rfl (by decide) ?_
  intro X Qf b w C G hA hn hR hr
  unfold i_L
  refine vn_a0 C rfl (zdg dz_L_new_0 0 rfl) ?_
  refine vn_obj C (idx := 3) (mem_h 220 (zaq1 (zaq2 (zaq2 (zaq2 (zaq2 (zaq2 (zaq2 (zaq2 (zaq2 (zaq2 (zaq2 (zaq2 (zaq2 (zaq2 (zaq2 zq_d_g_1)))))))))))))))) (rmn_f hR (by decide)) (zdg dz_L_new_0 1 rfl) ?_
  refine vn_a0 C rfl (zdg dz_L_new_0 2 rfl) ?_
  refine vn_bi C (z := 10) (zdg dz_L_new_0 3 rfl) (by decide +kernel) ?_
  refine vn_newa C (z := 10) sh_10 (by decide) (by decide) rfl rfl (Nat.le_of_ble_eq_true rfl) (mem_h 145 (zaq1 (zaq2 zq_d_g_1))) (rmn_c hR rfl) (at9 := .int) (by decide +kernel) ?_
  refine vn_put C G (idx := 9) (fn := "price") (fd := "[I") (z := 11) (mem_h 221 (zaq1 (zaq2 (zaq2 (zaq2 (zaq2 (zaq2 (zaq2 (zaq2 (zaq2 (zaq2 (zaq2 (zaq2 (zaq2 (zaq2 (zaq2 (zaq2 zq_d_g_1))))))))))))))))) ⟨_, rfl, by decide, by decide +kernel, by decide +kernel, by decide +kernel⟩ fn_3_0 sh_9 rfl (by decide) jc_nad.symm (Int.natCast_nonneg 11) (zdg dz_L_new_0 4 rfl) ?_
  refine vn_a0 C rfl (zdg dz_L_new_0 5 rfl) ?_
  refine vn_bi C (z := 10) (zdg dz_L_new_0 6 rfl) (by decide +kernel) ?_
  refine vn_newa C (z := 10) sh_11 (by decide) (by decide) rfl rfl (Nat.le_of_ble_eq_true rfl) (mem_h 145 (zaq1 (zaq2 zq_d_g_1))) (rmn_c hR rfl) (at9 := .int) (by decide +kernel) ?_
  refine vn_put C G (idx := 15) (fn := "knows") (fd := "[I") (z := 12) (mem_h 222 (zaq1 (zaq2 (zaq2 (zaq2 (zaq2 (zaq2 (zaq2 (zaq2 (zaq2 (zaq2 (zaq2 (zaq2 (zaq2 (zaq2 (zaq2 (zaq2 (zaq2 zq_d_g_1)))))))))))))))))) ⟨_, rfl, by decide, by decide +kernel, by decide +kernel, by decide +kernel⟩ fn_3_1 sh_9 rfl (by decide) jc_nad.symm (Int.natCast_nonneg 12) (zdg dz_L_new_0 7 rfl) ?_
  exact hr _ _ (zdg dz_L_new_0 8 rfl)
theorem hft_4 (b : Nat) (fs : List (Nat × Nat)) (hfs : fs.map (·.1) = [3, 3, 0, 0]) : ∀ j, j < 4 → ∀ ty : Nat → FieldType, tyL[4]? = some ty → defaultValue (ty j) = jc (nad b) (jk (fs.getD j (0, 0)).1, 0) := by
  intro j hj ty h
  cases h
  have e : (fs.getD j (0, 0)).1 = (fs.map (·.1)).getD j 0 := by
    rw [List.getD_eq_getElem?_getD, List.getD_eq_getElem?_getD, List.getElem?_map]
    cases fs[j]? <;> rfl
  rw [e, hfs]
  match j, hj with
  | 0, _ => rfl
  | 1, _ => rfl
  | 2, _ => rfl
  | 3, _ => rfl
  | k + 4, h => exact absurd h (by omega)
theorem dz_P_new_0 : zdw (prog_8_method_1_code.data.toList.drop 0) 0 [(0, .aload_n 0, 1), (1, .invokespecial 3, 3), (4, .aload_n 0, 1), (5, .bipush 10, 2), (9, .putfield 9, 3), (12, .aload_n 0, 1), (13, .bipush 10, 2), (17, .putfield 15, 3), (20, .return_, 1)] = true := by decide +kernel
theorem ml_E_32 : ML "EachBringsAnother" 32 y_L_init := Or.inr ⟨"EachBringsAnother", mem_nh 217 (zaq1 (zaq2 (zaq2 (zaq2 zq_d_n_0))))⟩
theorem fn_10_3 : FNK "EachBringsAnother" 10 3 3 := ⟨_, .object "EachBringsAnother$Lines", rfl, by decide +kernel, Or.inr ⟨by decide +kernel, by decide +kernel⟩, Or.inr ⟨Or.inr rfl, Or.inl ⟨_, rfl⟩⟩⟩
theorem fn_4_0 : FNK "EachBringsAnother$Plan" 4 0 3 := ⟨_, .array .int, rfl, by decide +kernel, Or.inr ⟨by decide +kernel, by decide +kernel⟩, Or.inr ⟨Or.inr rfl, Or.inr ⟨_, rfl⟩⟩⟩
theorem fn_4_1 : FNK "EachBringsAnother$Plan" 4 1 3 := ⟨_, .array .int, rfl, by decide +kernel, Or.inr ⟨by decide +kernel, by decide +kernel⟩, Or.inr ⟨Or.inr rfl, Or.inr ⟨_, rfl⟩⟩⟩
def y_P_init : MethodName := ⟨"EachBringsAnother$Plan", "<init>", "()V"⟩
theorem cyn_P : CYN y_P_init prog_8_method_1_code 1 := ⟨⟨by decide +kernel, by decide +kernel, by decide +kernel⟩, rfl, (mem_h 89 (zaq1 (zaq2 (zaq2 (zaq2 (zaq2 (zaq2 zq_d_g_0))))))), (mem_h 244 (by decide +kernel)), (mem_h 243 (zaq1 (zaq2 (zaq2 (zaq2 (zaq2 (zaq2 (zaq2 (zaq2 (zaq2 (zaq2 (zaq2 (zaq2 (zaq2 (zaq2 (zaq2 (zaq2 (zaq2 (zaq2 (zaq2 (zaq2 zq_d_g_1)))))))))))))))))))))⟩
def i_P (w : Wd) : Wd := st (st (w) 12 0 14) 12 1 15
theorem ctn_P : CtN y_P_init prog_8_method_1_code 1 1 12 13 15 2 20 i_P := by
  refine ctn_of (by decide +kernel) rfl (by decide) ?_
  intro X Qf b w C G hA hn hR hr
  unfold i_P
  refine vn_a0 C rfl (zdg dz_P_new_0 0 rfl) ?_
  refine vn_obj C (idx := 3) (mem_h 245 (zaq1 (zaq2 (zaq2 (zaq2 (zaq2 (zaq2 (zaq2 (zaq2 (zaq2 (zaq2 (zaq2 (zaq2 (zaq2 (zaq2 (zaq2 (zaq2 (zaq2 (zaq2 (zaq2 (zaq2 (zaq2 zq_d_g_1)))))))))))))))))))))) (rmn_f hR (by decide)) (zdg dz_P_new_0 1 rfl) ?_
  refine vn_a0 C rfl (zdg dz_P_new_0 2 rfl) ?_
  refine vn_bi C (z := 10) (zdg dz_P_new_0 3 rfl) (by decide +kernel) ?_
  refine vn_newa C (z := 10) sh_13 (by decide) (by decide) rfl rfl (Nat.le_of_ble_eq_true rfl) (mem_h 145 (zaq1 (zaq2 zq_d_g_1))) (rmn_c hR rfl) (at9 := .int) (by decide +kernel) ?_
  refine vn_put C G (idx := 9) (fn := "bringers") (fd := "[I") (z := 14) (mem_h 246 (zaq1 (zaq2 (zaq2 (zaq2 (zaq2 (zaq2 (zaq2 (zaq2 (zaq2 (zaq2 (zaq2 (zaq2 (zaq2 (zaq2 (zaq2 (zaq2 (zaq2 (zaq2 (zaq2 (zaq2 (zaq2 (zaq2 zq_d_g_1))))))))))))))))))))))) ⟨_, rfl, by decide, by decide +kernel, by decide +kernel, by decide +kernel⟩ fn_4_0 sh_12 rfl (by decide) jc_nad.symm (Int.natCast_nonneg 14) (zdg dz_P_new_0 4 rfl) ?_
  refine vn_a0 C rfl (zdg dz_P_new_0 5 rfl) ?_
  refine vn_bi C (z := 10) (zdg dz_P_new_0 6 rfl) (by decide +kernel) ?_
  refine vn_newa C (z := 10) sh_14 (by decide) (by decide) rfl rfl (Nat.le_of_ble_eq_true rfl) (mem_h 145 (zaq1 (zaq2 zq_d_g_1))) (rmn_c hR rfl) (at9 := .int) (by decide +kernel) ?_
  refine vn_put C G (idx := 15) (fn := "brought") (fd := "[I") (z := 15) (mem_h 247 (zaq1 (zaq2 (zaq2 (zaq2 (zaq2 (zaq2 (zaq2 (zaq2 (zaq2 (zaq2 (zaq2 (zaq2 (zaq2 (zaq2 (zaq2 (zaq2 (zaq2 (zaq2 (zaq2 (zaq2 (zaq2 (zaq2 (zaq2 zq_d_g_1)))))))))))))))))))))))) ⟨_, rfl, by decide, by decide +kernel, by decide +kernel, by decide +kernel⟩ fn_4_1 sh_12 rfl (by decide) jc_nad.symm (Int.natCast_nonneg 15) (zdg dz_P_new_0 7 rfl) ?_
  exact hr _ _ (zdg dz_P_new_0 8 rfl)
theorem hft_5 (b : Nat) (fs : List (Nat × Nat)) (hfs : fs.map (·.1) = [3, 3, 3, 0, 0]) : ∀ j, j < 5 → ∀ ty : Nat → FieldType, tyL[5]? = some ty → defaultValue (ty j) = jc (nad b) (jk (fs.getD j (0, 0)).1, 0) := by
  intro j hj ty h
  cases h
  have e : (fs.getD j (0, 0)).1 = (fs.map (·.1)).getD j 0 := by
    rw [List.getD_eq_getElem?_getD, List.getD_eq_getElem?_getD, List.getElem?_map]
    cases fs[j]? <;> rfl
  rw [e, hfs]
  match j, hj with
  | 0, _ => rfl
  | 1, _ => rfl
  | 2, _ => rfl
  | 3, _ => rfl
  | 4, _ => rfl
  | k + 5, h => exact absurd h (by omega)
theorem dz_D_new_0 : zdw (prog_2_method_1_code.data.toList.drop 0) 0 [(0, .aload_n 0, 1), (1, .invokespecial 3, 3), (4, .aload_n 0, 1), (5, .bipush 61, 2), (9, .putfield 9, 3), (12, .aload_n 0, 1), (13, .bipush 61, 2), (17, .putfield 15, 3), (20, .aload_n 0, 1), (21, .bipush 61, 2), (25, .putfield 18, 3), (28, .return_, 1)] = true := by decide +kernel
theorem ml_E_39 : ML "EachBringsAnother" 39 y_P_init := Or.inr ⟨"EachBringsAnother", mem_nh 242 (zaq1 (zaq2 (zaq2 (zaq2 (zaq2 zq_d_n_0)))))⟩
theorem fn_10_4 : FNK "EachBringsAnother" 10 4 3 := ⟨_, .object "EachBringsAnother$Plan", rfl, by decide +kernel, Or.inr ⟨by decide +kernel, by decide +kernel⟩, Or.inr ⟨Or.inr rfl, Or.inl ⟨_, rfl⟩⟩⟩
theorem fn_5_0 : FNK "EachBringsAnother$Diary" 5 0 3 := ⟨_, .array .int, rfl, by decide +kernel, Or.inr ⟨by decide +kernel, by decide +kernel⟩, Or.inr ⟨Or.inr rfl, Or.inr ⟨_, rfl⟩⟩⟩
theorem fn_5_1 : FNK "EachBringsAnother$Diary" 5 1 3 := ⟨_, .array .int, rfl, by decide +kernel, Or.inr ⟨by decide +kernel, by decide +kernel⟩, Or.inr ⟨Or.inr rfl, Or.inr ⟨_, rfl⟩⟩⟩
theorem fn_5_2 : FNK "EachBringsAnother$Diary" 5 2 3 := ⟨_, .array .int, rfl, by decide +kernel, Or.inr ⟨by decide +kernel, by decide +kernel⟩, Or.inr ⟨Or.inr rfl, Or.inr ⟨_, rfl⟩⟩⟩
def y_D_init : MethodName := ⟨"EachBringsAnother$Diary", "<init>", "()V"⟩
theorem cyn_D : CYN y_D_init prog_2_method_1_code 1 := ⟨⟨by decide +kernel, by decide +kernel, by decide +kernel⟩, rfl, (mem_h 90 (zaq1 (zaq2 (zaq2 (zaq2 (zaq2 (zaq2 (zaq2 zq_d_g_0)))))))), (mem_h 265 (by decide +kernel)), (mem_h 264 (zaq1 (zaq2 zq_d_g_2)))⟩
def i_D (w : Wd) : Wd := st (st (st (w) 15 0 17) 15 1 18) 15 2 19
theorem ctn_D : CtN y_D_init prog_2_method_1_code 1 1 15 16 19 3 183 i_D := by
  refine ctn_of (by decide +kernel) rfl (by decide) ?_
  intro X Qf b w C G hA hn hR hr
  unfold i_D
  refine vn_a0 C rfl (zdg dz_D_new_0 0 rfl) ?_
  refine vn_obj C (idx := 3) (mem_h 266 (zaq1 (zaq2 (zaq2 zq_d_g_2)))) (rmn_f hR (by decide)) (zdg dz_D_new_0 1 rfl) ?_
  refine vn_a0 C rfl (zdg dz_D_new_0 2 rfl) ?_
  refine vn_bi C (z := 61) (zdg dz_D_new_0 3 rfl) (by decide +kernel) ?_
  refine vn_newa C (z := 61) sh_16 (by decide) (by decide) rfl rfl (Nat.le_of_ble_eq_true rfl) (mem_h 145 (zaq1 (zaq2 zq_d_g_1))) (rmn_c hR rfl) (at9 := .int) (by decide +kernel) ?_
  refine vn_put C G (idx := 9) (fn := "guests") (fd := "[I") (z := 17) (mem_h 267 (zaq1 (zaq2 (zaq2 (zaq2 zq_d_g_2))))) ⟨_, rfl, by decide, by decide +kernel, by decide +kernel, by decide +kernel⟩ fn_5_0 sh_15 rfl (by decide) jc_nad.symm (Int.natCast_nonneg 17) (zdg dz_D_new_0 4 rfl) ?_
  refine vn_a0 C rfl (zdg dz_D_new_0 5 rfl) ?_
  refine vn_bi C (z := 61) (zdg dz_D_new_0 6 rfl) (by decide +kernel) ?_
  refine vn_newa C (z := 61) sh_17 (by decide) (by decide) rfl rfl (Nat.le_of_ble_eq_true rfl) (mem_h 145 (zaq1 (zaq2 zq_d_g_1))) (rmn_c hR rfl) (at9 := .int) (by decide +kernel) ?_
  refine vn_put C G (idx := 15) (fn := "whoAhead") (fd := "[I") (z := 18) (mem_h 269 (zaq1 (zaq2 (zaq2 (zaq2 (zaq2 zq_d_g_2)))))) ⟨_, rfl, by decide, by decide +kernel, by decide +kernel, by decide +kernel⟩ fn_5_1 sh_15 rfl (by decide) jc_nad.symm (Int.natCast_nonneg 18) (zdg dz_D_new_0 7 rfl) ?_
  refine vn_a0 C rfl (zdg dz_D_new_0 8 rfl) ?_
  refine vn_bi C (z := 61) (zdg dz_D_new_0 9 rfl) (by decide +kernel) ?_
  refine vn_newa C (z := 61) sh_18 (by decide) (by decide) rfl rfl (Nat.le_of_ble_eq_true rfl) (mem_h 145 (zaq1 (zaq2 zq_d_g_1))) (rmn_c hR rfl) (at9 := .int) (by decide +kernel) ?_
  refine vn_put C G (idx := 18) (fn := "paidAhead") (fd := "[I") (z := 19) (mem_h 270 (zaq1 (zaq2 (zaq2 (zaq2 (zaq2 (zaq2 zq_d_g_2))))))) ⟨_, rfl, by decide, by decide +kernel, by decide +kernel, by decide +kernel⟩ fn_5_2 sh_15 rfl (by decide) jc_nad.symm (Int.natCast_nonneg 19) (zdg dz_D_new_0 10 rfl) ?_
  exact hr _ _ (zdg dz_D_new_0 11 rfl)
theorem hft_7 (b : Nat) (fs : List (Nat × Nat)) (hfs : fs.map (·.1) = [3, 3, 3, 3, 0, 0, 0, 0, 0, 0, 4]) : ∀ j, j < 11 → ∀ ty : Nat → FieldType, tyL[7]? = some ty → defaultValue (ty j) = jc (nad b) (jk (fs.getD j (0, 0)).1, 0) := by
  intro j hj ty h
  cases h
  have e : (fs.getD j (0, 0)).1 = (fs.map (·.1)).getD j 0 := by
    rw [List.getD_eq_getElem?_getD, List.getD_eq_getElem?_getD, List.getElem?_map]
    cases fs[j]? <;> rfl
  rw [e, hfs]
  match j, hj with
  | 0, _ => rfl
  | 1, _ => rfl
  | 2, _ => rfl
  | 3, _ => rfl
  | 4, _ => rfl
  | 5, _ => rfl
  | 6, _ => rfl
  | 7, _ => rfl
  | 8, _ => rfl
  | 9, _ => rfl
  | 10, _ => rfl
  | k + 11, h => exact absurd h (by omega)
theorem dz_W_new_0 : zdw (prog_12_method_1_code.data.toList.drop 0) 0 [(0, .aload_n 0, 1), (1, .invokespecial 3, 3), (4, .aload_n 0, 1), (5, .bipush 40, 2), (9, .putfield 9, 3), (12, .aload_n 0, 1), (13, .bipush 40, 2), (17, .putfield 15, 3), (20, .aload_n 0, 1), (21, .bipush 40, 2), (25, .putfield 18, 3), (28, .aload_n 0, 1), (29, .bipush 40, 2), (33, .putfield 21, 3), (36, .return_, 1)] = true := by decide +kernel
theorem ml_E_46 : ML "EachBringsAnother" 46 y_D_init := Or.inr ⟨"EachBringsAnother", mem_nh 263 (zaq1 (zaq2 (zaq2 (zaq2 (zaq2 (zaq2 zq_d_n_0))))))⟩
theorem fn_10_5 : FNK "EachBringsAnother" 10 5 3 := ⟨_, .object "EachBringsAnother$Diary", rfl, by decide +kernel, Or.inr ⟨by decide +kernel, by decide +kernel⟩, Or.inr ⟨Or.inr rfl, Or.inl ⟨_, rfl⟩⟩⟩
theorem fn_7_0 : FNK "EachBringsAnother$Wish" 7 0 3 := ⟨_, .array .int, rfl, by decide +kernel, Or.inr ⟨by decide +kernel, by decide +kernel⟩, Or.inr ⟨Or.inr rfl, Or.inr ⟨_, rfl⟩⟩⟩
theorem fn_7_1 : FNK "EachBringsAnother$Wish" 7 1 3 := ⟨_, .array .int, rfl, by decide +kernel, Or.inr ⟨by decide +kernel, by decide +kernel⟩, Or.inr ⟨Or.inr rfl, Or.inr ⟨_, rfl⟩⟩⟩
theorem fn_7_2 : FNK "EachBringsAnother$Wish" 7 2 3 := ⟨_, .array .int, rfl, by decide +kernel, Or.inr ⟨by decide +kernel, by decide +kernel⟩, Or.inr ⟨Or.inr rfl, Or.inr ⟨_, rfl⟩⟩⟩
theorem fn_7_3 : FNK "EachBringsAnother$Wish" 7 3 3 := ⟨_, .array .int, rfl, by decide +kernel, Or.inr ⟨by decide +kernel, by decide +kernel⟩, Or.inr ⟨Or.inr rfl, Or.inr ⟨_, rfl⟩⟩⟩
def y_W_init : MethodName := ⟨"EachBringsAnother$Wish", "<init>", "()V"⟩
theorem cyn_W : CYN y_W_init prog_12_method_1_code 1 := ⟨⟨by decide +kernel, by decide +kernel, by decide +kernel⟩, rfl, (mem_h 91 (zaq1 (zaq2 (zaq2 (zaq2 (zaq2 (zaq2 (zaq2 (zaq2 zq_d_g_0))))))))), (mem_h 292 (by decide +kernel)), (mem_h 291 (zaq1 (zaq2 (zaq2 (zaq2 (zaq2 (zaq2 (zaq2 (zaq2 (zaq2 zq_d_g_2))))))))))⟩
def i_W (w : Wd) : Wd := st (st (st (st (w) 19 0 21) 19 1 22) 19 2 23) 19 3 24
theorem ctn_W : CtN y_W_init prog_12_method_1_code 1 1 19 20 24 4 160 i_W := by
  refine ctn_of (by decide +kernel) rfl (by decide) ?_
  intro X Qf b w C G hA hn hR hr
  unfold i_W
  refine vn_a0 C rfl (zdg dz_W_new_0 0 rfl) ?_
  refine vn_obj C (idx := 3) (mem_h 293 (zaq1 (zaq2 (zaq2 (zaq2 (zaq2 (zaq2 (zaq2 (zaq2 (zaq2 (zaq2 zq_d_g_2))))))))))) (rmn_f hR (by decide)) (zdg dz_W_new_0 1 rfl) ?_
  refine vn_a0 C rfl (zdg dz_W_new_0 2 rfl) ?_
  refine vn_bi C (z := 40) (zdg dz_W_new_0 3 rfl) (by decide +kernel) ?_
  refine vn_newa C (z := 40) sh_20 (by decide) (by decide) rfl rfl (Nat.le_of_ble_eq_true rfl) (mem_h 145 (zaq1 (zaq2 zq_d_g_1))) (rmn_c hR rfl) (at9 := .int) (by decide +kernel) ?_
  refine vn_put C G (idx := 9) (fn := "code") (fd := "[I") (z := 21) (mem_h 294 (zaq1 (zaq2 (zaq2 (zaq2 (zaq2 (zaq2 (zaq2 (zaq2 (zaq2 (zaq2 (zaq2 zq_d_g_2)))))))))))) ⟨_, rfl, by decide, by decide +kernel, by decide +kernel, by decide +kernel⟩ fn_7_0 sh_19 rfl (by decide) jc_nad.symm (Int.natCast_nonneg 21) (zdg dz_W_new_0 4 rfl) ?_
  refine vn_a0 C rfl (zdg dz_W_new_0 5 rfl) ?_
  refine vn_bi C (z := 40) (zdg dz_W_new_0 6 rfl) (by decide +kernel) ?_
  refine vn_newa C (z := 40) sh_21 (by decide) (by decide) rfl rfl (Nat.le_of_ble_eq_true rfl) (mem_h 145 (zaq1 (zaq2 zq_d_g_1))) (rmn_c hR rfl) (at9 := .int) (by decide +kernel) ?_
  refine vn_put C G (idx := 15) (fn := "draft") (fd := "[I") (z := 22) (mem_h 295 (zaq1 (zaq2 (zaq2 (zaq2 (zaq2 (zaq2 (zaq2 (zaq2 (zaq2 (zaq2 (zaq2 (zaq2 zq_d_g_2))))))))))))) ⟨_, rfl, by decide, by decide +kernel, by decide +kernel, by decide +kernel⟩ fn_7_1 sh_19 rfl (by decide) jc_nad.symm (Int.natCast_nonneg 22) (zdg dz_W_new_0 7 rfl) ?_
  refine vn_a0 C rfl (zdg dz_W_new_0 8 rfl) ?_
  refine vn_bi C (z := 40) (zdg dz_W_new_0 9 rfl) (by decide +kernel) ?_
  refine vn_newa C (z := 40) sh_22 (by decide) (by decide) rfl rfl (Nat.le_of_ble_eq_true rfl) (mem_h 145 (zaq1 (zaq2 zq_d_g_1))) (rmn_c hR rfl) (at9 := .int) (by decide +kernel) ?_
  refine vn_put C G (idx := 18) (fn := "waiting") (fd := "[I") (z := 23) (mem_h 296 (zaq1 (zaq2 (zaq2 (zaq2 (zaq2 (zaq2 (zaq2 (zaq2 (zaq2 (zaq2 (zaq2 (zaq2 (zaq2 zq_d_g_2)))))))))))))) ⟨_, rfl, by decide, by decide +kernel, by decide +kernel, by decide +kernel⟩ fn_7_2 sh_19 rfl (by decide) jc_nad.symm (Int.natCast_nonneg 23) (zdg dz_W_new_0 10 rfl) ?_
  refine vn_a0 C rfl (zdg dz_W_new_0 11 rfl) ?_
  refine vn_bi C (z := 40) (zdg dz_W_new_0 12 rfl) (by decide +kernel) ?_
  refine vn_newa C (z := 40) sh_23 (by decide) (by decide) rfl rfl (Nat.le_of_ble_eq_true rfl) (mem_h 145 (zaq1 (zaq2 zq_d_g_1))) (rmn_c hR rfl) (at9 := .int) (by decide +kernel) ?_
  refine vn_put C G (idx := 21) (fn := "stack") (fd := "[I") (z := 24) (mem_h 297 (zaq1 (zaq2 (zaq2 (zaq2 (zaq2 (zaq2 (zaq2 (zaq2 (zaq2 (zaq2 (zaq2 (zaq2 (zaq2 (zaq2 zq_d_g_2))))))))))))))) ⟨_, rfl, by decide, by decide +kernel, by decide +kernel, by decide +kernel⟩ fn_7_3 sh_19 rfl (by decide) jc_nad.symm (Int.natCast_nonneg 24) (zdg dz_W_new_0 13 rfl) ?_
  exact hr _ _ (zdg dz_W_new_0 14 rfl)
theorem hft_8 (b : Nat) (fs : List (Nat × Nat)) (hfs : fs.map (·.1) = [3, 3, 3, 0, 0, 2, 0, 0, 0, 0]) : ∀ j, j < 10 → ∀ ty : Nat → FieldType, tyL[8]? = some ty → defaultValue (ty j) = jc (nad b) (jk (fs.getD j (0, 0)).1, 0) := by
  intro j hj ty h
  cases h
  have e : (fs.getD j (0, 0)).1 = (fs.map (·.1)).getD j 0 := by
    rw [List.getD_eq_getElem?_getD, List.getD_eq_getElem?_getD, List.getElem?_map]
    cases fs[j]? <;> rfl
  rw [e, hfs]
  match j, hj with
  | 0, _ => rfl
  | 1, _ => rfl
  | 2, _ => rfl
  | 3, _ => rfl
  | 4, _ => rfl
  | 5, _ => rfl
  | 6, _ => rfl
  | 7, _ => rfl
  | 8, _ => rfl
  | 9, _ => rfl
  | k + 10, h => exact absurd h (by omega)
theorem dz_M_new_0 : zdw (prog_6_method_1_code.data.toList.drop 0) 0 [(0, .aload_n 0, 1), (1, .invokespecial 3, 3), (4, .aload_n 0, 1), (5, .sipush 256, 3), (10, .putfield 11, 3), (13, .aload_n 0, 1), (14, .sipush 256, 3), (19, .putfield 15, 3), (22, .aload_n 0, 1), (23, .sipush 1024, 3), (28, .putfield 18, 3), (31, .return_, 1)] = true := by decide +kernel
theorem ml_E_53 : ML "EachBringsAnother" 53 y_W_init := Or.inr ⟨"EachBringsAnother", mem_nh 290 (zaq1 (zaq2 (zaq2 (zaq2 (zaq2 (zaq2 (zaq2 zq_d_n_0)))))))⟩
theorem fn_10_6 : FNK "EachBringsAnother" 10 6 3 := ⟨_, .object "EachBringsAnother$Wish", rfl, by decide +kernel, Or.inr ⟨by decide +kernel, by decide +kernel⟩, Or.inr ⟨Or.inr rfl, Or.inl ⟨_, rfl⟩⟩⟩
theorem fn_8_0 : FNK "EachBringsAnother$Moves" 8 0 3 := ⟨_, .array .int, rfl, by decide +kernel, Or.inr ⟨by decide +kernel, by decide +kernel⟩, Or.inr ⟨Or.inr rfl, Or.inr ⟨_, rfl⟩⟩⟩
theorem fn_8_1 : FNK "EachBringsAnother$Moves" 8 1 3 := ⟨_, .array .int, rfl, by decide +kernel, Or.inr ⟨by decide +kernel, by decide +kernel⟩, Or.inr ⟨Or.inr rfl, Or.inr ⟨_, rfl⟩⟩⟩
theorem fn_8_2 : FNK "EachBringsAnother$Moves" 8 2 3 := ⟨_, .array .int, rfl, by decide +kernel, Or.inr ⟨by decide +kernel, by decide +kernel⟩, Or.inr ⟨Or.inr rfl, Or.inr ⟨_, rfl⟩⟩⟩
def y_M_init : MethodName := ⟨"EachBringsAnother$Moves", "<init>", "()V"⟩
theorem cyn_M : CYN y_M_init prog_6_method_1_code 1 := ⟨⟨by decide +kernel, by decide +kernel, by decide +kernel⟩, rfl, (mem_h 92 (zaq1 (zaq2 (zaq2 (zaq2 (zaq2 (zaq2 (zaq2 (zaq2 (zaq2 zq_d_g_0)))))))))), (mem_h 332 (by decide +kernel)), (mem_h 331 (zaq1 (zaq2 (zaq2 (zaq2 (zaq2 (zaq2 (zaq2 (zaq2 (zaq2 (zaq2 (zaq2 (zaq2 (zaq2 (zaq2 (zaq2 (zaq2 (zaq2 zq_d_g_2))))))))))))))))))⟩
def i_M (w : Wd) : Wd := st (st (st (w) 24 0 26) 24 1 27) 24 2 28
theorem ctn_M : CtN y_M_init prog_6_method_1_code 1 1 24 25 28 3 1536 i_M := by
  refine ctn_of (by decide +kernel) rfl (by decide) ?_
  intro X Qf b w C G hA hn hR hr
  unfold i_M
  refine vn_a0 C rfl (zdg dz_M_new_0 0 rfl) ?_
  refine vn_obj C (idx := 3) (mem_h 333 (zaq1 (zaq2 (zaq2 (zaq2 (zaq2 (zaq2 (zaq2 (zaq2 (zaq2 (zaq2 (zaq2 (zaq2 (zaq2 (zaq2 (zaq2 (zaq2 (zaq2 (zaq2 zq_d_g_2))))))))))))))))))) (rmn_f hR (by decide)) (zdg dz_M_new_0 1 rfl) ?_
  refine vn_a0 C rfl (zdg dz_M_new_0 2 rfl) ?_
  refine vn_si C (z := 256) (zdg dz_M_new_0 3 rfl) (by decide +kernel) ?_
  refine vn_newa C (z := 256) sh_25 (by decide) (by decide) rfl rfl (Nat.le_of_ble_eq_true rfl) (mem_h 145 (zaq1 (zaq2 zq_d_g_1))) (rmn_c hR rfl) (at9 := .int) (by decide +kernel) ?_
  refine vn_put C G (idx := 11) (fn := "movers") (fd := "[I") (z := 26) (mem_h 334 (zaq1 (zaq2 (zaq2 (zaq2 (zaq2 (zaq2 (zaq2 (zaq2 (zaq2 (zaq2 (zaq2 (zaq2 (zaq2 (zaq2 (zaq2 (zaq2 (zaq2 (zaq2 (zaq2 zq_d_g_2)))))))))))))))))))) ⟨_, rfl, by decide, by decide +kernel, by decide +kernel, by decide +kernel⟩ fn_8_0 sh_24 rfl (by decide) jc_nad.symm (Int.natCast_nonneg 26) (zdg dz_M_new_0 4 rfl) ?_
  refine vn_a0 C rfl (zdg dz_M_new_0 5 rfl) ?_
  refine vn_si C (z := 256) (zdg dz_M_new_0 6 rfl) (by decide +kernel) ?_
  refine vn_newa C (z := 256) sh_26 (by decide) (by decide) rfl rfl (Nat.le_of_ble_eq_true rfl) (mem_h 145 (zaq1 (zaq2 zq_d_g_1))) (rmn_c hR rfl) (at9 := .int) (by decide +kernel) ?_
  refine vn_put C G (idx := 15) (fn := "parent") (fd := "[I") (z := 27) (mem_h 335 (zaq1 (zaq2 (zaq2 (zaq2 (zaq2 (zaq2 (zaq2 (zaq2 (zaq2 (zaq2 (zaq2 (zaq2 (zaq2 (zaq2 (zaq2 (zaq2 (zaq2 (zaq2 (zaq2 (zaq2 zq_d_g_2))))))))))))))))))))) ⟨_, rfl, by decide, by decide +kernel, by decide +kernel, by decide +kernel⟩ fn_8_1 sh_24 rfl (by decide) jc_nad.symm (Int.natCast_nonneg 27) (zdg dz_M_new_0 7 rfl) ?_
  refine vn_a0 C rfl (zdg dz_M_new_0 8 rfl) ?_
  refine vn_si C (z := 1024) (zdg dz_M_new_0 9 rfl) (by decide +kernel) ?_
  refine vn_newa C (z := 1024) sh_27 (by decide) (by decide) rfl rfl (Nat.le_of_ble_eq_true rfl) (mem_h 145 (zaq1 (zaq2 zq_d_g_1))) (rmn_c hR rfl) (at9 := .int) (by decide +kernel) ?_
  refine vn_put C G (idx := 18) (fn := "seen") (fd := "[I") (z := 28) (mem_h 336 (zaq1 (zaq2 (zaq2 (zaq2 (zaq2 (zaq2 (zaq2 (zaq2 (zaq2 (zaq2 (zaq2 (zaq2 (zaq2 (zaq2 (zaq2 (zaq2 (zaq2 (zaq2 (zaq2 (zaq2 (zaq2 zq_d_g_2)))))))))))))))))))))) ⟨_, rfl, by decide, by decide +kernel, by decide +kernel, by decide +kernel⟩ fn_8_2 sh_24 rfl (by decide) jc_nad.symm (Int.natCast_nonneg 28) (zdg dz_M_new_0 10 rfl) ?_
  exact hr _ _ (zdg dz_M_new_0 11 rfl)
theorem hft_9 (b : Nat) (fs : List (Nat × Nat)) (hfs : fs.map (·.1) = [3, 3, 3, 3, 3, 3, 3, 0, 0, 4, 4]) : ∀ j, j < 11 → ∀ ty : Nat → FieldType, tyL[9]? = some ty → defaultValue (ty j) = jc (nad b) (jk (fs.getD j (0, 0)).1, 0) := by
  intro j hj ty h
  cases h
  have e : (fs.getD j (0, 0)).1 = (fs.map (·.1)).getD j 0 := by
    rw [List.getD_eq_getElem?_getD, List.getD_eq_getElem?_getD, List.getElem?_map]
    cases fs[j]? <;> rfl
  rw [e, hfs]
  match j, hj with
  | 0, _ => rfl
  | 1, _ => rfl
  | 2, _ => rfl
  | 3, _ => rfl
  | 4, _ => rfl
  | 5, _ => rfl
  | 6, _ => rfl
  | 7, _ => rfl
  | 8, _ => rfl
  | 9, _ => rfl
  | 10, _ => rfl
  | k + 11, h => exact absurd h (by omega)
theorem dz_S_new_0 : zdw (prog_9_method_1_code.data.toList.drop 0) 0 [(0, .aload_n 0, 1), (1, .invokespecial 3, 3), (4, .aload_n 0, 1), (5, .sipush 8192, 3), (10, .putfield 11, 3), (13, .aload_n 0, 1), (14, .sipush 3000, 3), (19, .putfield 15, 3), (22, .aload_n 0, 1), (23, .sipush 3000, 3), (28, .putfield 18, 3), (31, .aload_n 0, 1), (32, .sipush 3000, 3), (37, .putfield 22, 3), (40, .aload_n 0, 1), (41, .sipush 3000, 3), (46, .putfield 25, 3), (49, .aload_n 0, 1), (50, .sipush 451, 3), (55, .putfield 28, 3), (58, .aload_n 0, 1), (59, .sipush 3000, 3), (64, .putfield 31, 3), (67, .return_, 1)] = true := by decide +kernel
theorem ml_E_60 : ML "EachBringsAnother" 60 y_M_init := Or.inr ⟨"EachBringsAnother", mem_nh 330 (zaq1 (zaq2 (zaq2 (zaq2 (zaq2 (zaq2 (zaq2 (zaq2 zq_d_n_0))))))))⟩
theorem fn_10_7 : FNK "EachBringsAnother" 10 7 3 := ⟨_, .object "EachBringsAnother$Moves", rfl, by decide +kernel, Or.inr ⟨by decide +kernel, by decide +kernel⟩, Or.inr ⟨Or.inr rfl, Or.inl ⟨_, rfl⟩⟩⟩
theorem fn_9_0 : FNK "EachBringsAnother$Search" 9 0 3 := ⟨_, .array .int, rfl, by decide +kernel, Or.inr ⟨by decide +kernel, by decide +kernel⟩, Or.inr ⟨Or.inr rfl, Or.inr ⟨_, rfl⟩⟩⟩
theorem fn_9_1 : FNK "EachBringsAnother$Search" 9 1 3 := ⟨_, .array .int, rfl, by decide +kernel, Or.inr ⟨by decide +kernel, by decide +kernel⟩, Or.inr ⟨Or.inr rfl, Or.inr ⟨_, rfl⟩⟩⟩
theorem fn_9_2 : FNK "EachBringsAnother$Search" 9 2 3 := ⟨_, .array .long, rfl, by decide +kernel, Or.inr ⟨by decide +kernel, by decide +kernel⟩, Or.inr ⟨Or.inr rfl, Or.inr ⟨_, rfl⟩⟩⟩
theorem fn_9_3 : FNK "EachBringsAnother$Search" 9 3 3 := ⟨_, .array .long, rfl, by decide +kernel, Or.inr ⟨by decide +kernel, by decide +kernel⟩, Or.inr ⟨Or.inr rfl, Or.inr ⟨_, rfl⟩⟩⟩
theorem fn_9_4 : FNK "EachBringsAnother$Search" 9 4 3 := ⟨_, .array .int, rfl, by decide +kernel, Or.inr ⟨by decide +kernel, by decide +kernel⟩, Or.inr ⟨Or.inr rfl, Or.inr ⟨_, rfl⟩⟩⟩
theorem fn_9_5 : FNK "EachBringsAnother$Search" 9 5 3 := ⟨_, .array .int, rfl, by decide +kernel, Or.inr ⟨by decide +kernel, by decide +kernel⟩, Or.inr ⟨Or.inr rfl, Or.inr ⟨_, rfl⟩⟩⟩
theorem fn_9_6 : FNK "EachBringsAnother$Search" 9 6 3 := ⟨_, .array .int, rfl, by decide +kernel, Or.inr ⟨by decide +kernel, by decide +kernel⟩, Or.inr ⟨Or.inr rfl, Or.inr ⟨_, rfl⟩⟩⟩
def y_S_init : MethodName := ⟨"EachBringsAnother$Search", "<init>", "()V"⟩
theorem cyn_S : CYN y_S_init prog_9_method_1_code 1 := ⟨⟨by decide +kernel, by decide +kernel, by decide +kernel⟩, rfl, (mem_h 93 (zaq1 (zaq2 (zaq2 (zaq2 (zaq2 (zaq2 (zaq2 (zaq2 (zaq2 (zaq2 zq_d_g_0))))))))))), (mem_h 371 (by decide +kernel)), (mem_h 370 (zaq1 (zaq2 (zaq2 (zaq2 (zaq2 (zaq2 (zaq2 (zaq2 (zaq2 (zaq2 (zaq2 (zaq2 (zaq2 (zaq2 (zaq2 (zaq2 (zaq2 (zaq2 (zaq2 (zaq2 (zaq2 (zaq2 (zaq2 (zaq2 zq_d_g_2)))))))))))))))))))))))))⟩
def i_S (w : Wd) : Wd := st (st (st (st (st (st (st (w) 28 0 30) 28 1 31) 28 2 32) 28 3 33) 28 4 34) 28 5 35) 28 6 36
theorem ctn_S : CtN y_S_init prog_9_method_1_code 1 1 28 29 36 7 23643 i_S := by
  refine ctn_of (by decide +kernel) rfl (by decide) ?_
  intro X Qf b w C G hA hn hR hr
  unfold i_S
  refine vn_a0 C rfl (zdg dz_S_new_0 0 rfl) ?_
  refine vn_obj C (idx := 3) (mem_h 372 (zaq1 zq_d_g_3)) (rmn_f hR (by decide)) (zdg dz_S_new_0 1 rfl) ?_
  refine vn_a0 C rfl (zdg dz_S_new_0 2 rfl) ?_
  refine vn_si C (z := 8192) (zdg dz_S_new_0 3 rfl) (by decide +kernel) ?_
  refine vn_newa C (z := 8192) sh_29 (by decide) (by decide) rfl rfl (Nat.le_of_ble_eq_true rfl) (mem_h 145 (zaq1 (zaq2 zq_d_g_1))) (rmn_c hR rfl) (at9 := .int) (by decide +kernel) ?_
  refine vn_put C G (idx := 11) (fn := "slots") (fd := "[I") (z := 30) (mem_h 373 (zaq1 (zaq2 zq_d_g_3))) ⟨_, rfl, by decide, by decide +kernel, by decide +kernel, by decide +kernel⟩ fn_9_0 sh_28 rfl (by decide) jc_nad.symm (Int.natCast_nonneg 30) (zdg dz_S_new_0 4 rfl) ?_
  refine vn_a0 C rfl (zdg dz_S_new_0 5 rfl) ?_
  refine vn_si C (z := 3000) (zdg dz_S_new_0 6 rfl) (by decide +kernel) ?_
  refine vn_newa C (z := 3000) sh_30 (by decide) (by decide) rfl rfl (Nat.le_of_ble_eq_true rfl) (mem_h 145 (zaq1 (zaq2 zq_d_g_1))) (rmn_c hR rfl) (at9 := .int) (by decide +kernel) ?_
  refine vn_put C G (idx := 15) (fn := "states") (fd := "[I") (z := 31) (mem_h 374 (zaq1 (zaq2 (zaq2 zq_d_g_3)))) ⟨_, rfl, by decide, by decide +kernel, by decide +kernel, by decide +kernel⟩ fn_9_1 sh_28 rfl (by decide) jc_nad.symm (Int.natCast_nonneg 31) (zdg dz_S_new_0 7 rfl) ?_
  refine vn_a0 C rfl (zdg dz_S_new_0 8 rfl) ?_
  refine vn_si C (z := 3000) (zdg dz_S_new_0 9 rfl) (by decide +kernel) ?_
  refine vn_newa C (z := 3000) sh_31 (by decide) (by decide) rfl rfl (Nat.le_of_ble_eq_true rfl) (mem_h 408 (zaq1 (zaq2 (zaq2 (zaq2 (zaq2 (zaq2 (zaq2 (zaq2 (zaq2 zq_d_g_3)))))))))) (rmn_c hR rfl) (at9 := .long) (by decide +kernel) ?_
  refine vn_put C G (idx := 18) (fn := "when") (fd := "[J") (z := 32) (mem_h 375 (zaq1 (zaq2 (zaq2 (zaq2 zq_d_g_3))))) ⟨_, rfl, by decide, by decide +kernel, by decide +kernel, by decide +kernel⟩ fn_9_2 sh_28 rfl (by decide) jc_nad.symm (Int.natCast_nonneg 32) (zdg dz_S_new_0 10 rfl) ?_
  refine vn_a0 C rfl (zdg dz_S_new_0 11 rfl) ?_
  refine vn_si C (z := 3000) (zdg dz_S_new_0 12 rfl) (by decide +kernel) ?_
  refine vn_newa C (z := 3000) sh_32 (by decide) (by decide) rfl rfl (Nat.le_of_ble_eq_true rfl) (mem_h 408 (zaq1 (zaq2 (zaq2 (zaq2 (zaq2 (zaq2 (zaq2 (zaq2 (zaq2 zq_d_g_3)))))))))) (rmn_c hR rfl) (at9 := .long) (by decide +kernel) ?_
  refine vn_put C G (idx := 22) (fn := "left") (fd := "[J") (z := 33) (mem_h 376 (zaq1 (zaq2 (zaq2 (zaq2 (zaq2 zq_d_g_3)))))) ⟨_, rfl, by decide, by decide +kernel, by decide +kernel, by decide +kernel⟩ fn_9_3 sh_28 rfl (by decide) jc_nad.symm (Int.natCast_nonneg 33) (zdg dz_S_new_0 13 rfl) ?_
  refine vn_a0 C rfl (zdg dz_S_new_0 14 rfl) ?_
  refine vn_si C (z := 3000) (zdg dz_S_new_0 15 rfl) (by decide +kernel) ?_
  refine vn_newa C (z := 3000) sh_33 (by decide) (by decide) rfl rfl (Nat.le_of_ble_eq_true rfl) (mem_h 145 (zaq1 (zaq2 zq_d_g_1))) (rmn_c hR rfl) (at9 := .int) (by decide +kernel) ?_
  refine vn_put C G (idx := 25) (fn := "behind") (fd := "[I") (z := 34) (mem_h 377 (zaq1 (zaq2 (zaq2 (zaq2 (zaq2 (zaq2 zq_d_g_3))))))) ⟨_, rfl, by decide, by decide +kernel, by decide +kernel, by decide +kernel⟩ fn_9_4 sh_28 rfl (by decide) jc_nad.symm (Int.natCast_nonneg 34) (zdg dz_S_new_0 16 rfl) ?_
  refine vn_a0 C rfl (zdg dz_S_new_0 17 rfl) ?_
  refine vn_si C (z := 451) (zdg dz_S_new_0 18 rfl) (by decide +kernel) ?_
  refine vn_newa C (z := 451) sh_34 (by decide) (by decide) rfl rfl (Nat.le_of_ble_eq_true rfl) (mem_h 145 (zaq1 (zaq2 zq_d_g_1))) (rmn_c hR rfl) (at9 := .int) (by decide +kernel) ?_
  refine vn_put C G (idx := 28) (fn := "firstOfRank") (fd := "[I") (z := 35) (mem_h 378 (zaq1 (zaq2 (zaq2 (zaq2 (zaq2 (zaq2 (zaq2 zq_d_g_3)))))))) ⟨_, rfl, by decide, by decide +kernel, by decide +kernel, by decide +kernel⟩ fn_9_5 sh_28 rfl (by decide) jc_nad.symm (Int.natCast_nonneg 35) (zdg dz_S_new_0 19 rfl) ?_
  refine vn_a0 C rfl (zdg dz_S_new_0 20 rfl) ?_
  refine vn_si C (z := 3000) (zdg dz_S_new_0 21 rfl) (by decide +kernel) ?_
  refine vn_newa C (z := 3000) sh_35 (by decide) (by decide) rfl rfl (Nat.le_of_ble_eq_true rfl) (mem_h 145 (zaq1 (zaq2 zq_d_g_1))) (rmn_c hR rfl) (at9 := .int) (by decide +kernel) ?_
  refine vn_put C G (idx := 31) (fn := "order") (fd := "[I") (z := 36) (mem_h 379 (zaq1 (zaq2 (zaq2 (zaq2 (zaq2 (zaq2 (zaq2 (zaq2 zq_d_g_3))))))))) ⟨_, rfl, by decide, by decide +kernel, by decide +kernel, by decide +kernel⟩ fn_9_6 sh_28 rfl (by decide) jc_nad.symm (Int.natCast_nonneg 36) (zdg dz_S_new_0 22 rfl) ?_
  exact hr _ _ (zdg dz_S_new_0 23 rfl)
theorem hft_6 (b : Nat) (fs : List (Nat × Nat)) (hfs : fs.map (·.1) = [3, 3, 4, 0, 0, 0, 0, 0, 0, 0]) : ∀ j, j < 10 → ∀ ty : Nat → FieldType, tyL[6]? = some ty → defaultValue (ty j) = jc (nad b) (jk (fs.getD j (0, 0)).1, 0) := by
  intro j hj ty h
  cases h
  have e : (fs.getD j (0, 0)).1 = (fs.map (·.1)).getD j 0 := by
    rw [List.getD_eq_getElem?_getD, List.getD_eq_getElem?_getD, List.getElem?_map]
    cases fs[j]? <;> rfl
  rw [e, hfs]
  match j, hj with
  | 0, _ => rfl
  | 1, _ => rfl
  | 2, _ => rfl
  | 3, _ => rfl
  | 4, _ => rfl
  | 5, _ => rfl
  | 6, _ => rfl
  | 7, _ => rfl
  | 8, _ => rfl
  | 9, _ => rfl
  | k + 10, h => exact absurd h (by omega)
theorem dz_K_new_0 : zdw (prog_4_method_1_code.data.toList.drop 0) 0 [(0, .aload_n 0, 1), (1, .invokespecial 3, 3), (4, .aload_n 0, 1), (5, .bipush 10, 2), (9, .putfield 9, 3), (12, .aload_n 0, 1), (13, .bipush 61, 2), (17, .putfield 15, 3), (20, .return_, 1)] = true := by decide +kernel
theorem ml_E_67 : ML "EachBringsAnother" 67 y_S_init := Or.inr ⟨"EachBringsAnother", mem_nh 369 (zaq1 (zaq2 (zaq2 (zaq2 (zaq2 (zaq2 (zaq2 (zaq2 (zaq2 zq_d_n_0)))))))))⟩
theorem fn_10_8 : FNK "EachBringsAnother" 10 8 3 := ⟨_, .object "EachBringsAnother$Search", rfl, by decide +kernel, Or.inr ⟨by decide +kernel, by decide +kernel⟩, Or.inr ⟨Or.inr rfl, Or.inl ⟨_, rfl⟩⟩⟩
theorem fn_6_0 : FNK "EachBringsAnother$Kept" 6 0 3 := ⟨_, .array .int, rfl, by decide +kernel, Or.inr ⟨by decide +kernel, by decide +kernel⟩, Or.inr ⟨Or.inr rfl, Or.inr ⟨_, rfl⟩⟩⟩
theorem fn_6_1 : FNK "EachBringsAnother$Kept" 6 1 3 := ⟨_, .array .int, rfl, by decide +kernel, Or.inr ⟨by decide +kernel, by decide +kernel⟩, Or.inr ⟨Or.inr rfl, Or.inr ⟨_, rfl⟩⟩⟩
def y_K_init : MethodName := ⟨"EachBringsAnother$Kept", "<init>", "()V"⟩
theorem cyn_K : CYN y_K_init prog_4_method_1_code 1 := ⟨⟨by decide +kernel, by decide +kernel, by decide +kernel⟩, rfl, (mem_h 94 (zaq1 (zaq2 (zaq2 (zaq2 (zaq2 (zaq2 (zaq2 (zaq2 (zaq2 (zaq2 (zaq2 zq_d_g_0)))))))))))), (mem_h 414 (by decide +kernel)), (mem_h 413 (zaq1 (zaq2 (zaq2 (zaq2 (zaq2 (zaq2 (zaq2 (zaq2 (zaq2 (zaq2 (zaq2 (zaq2 zq_d_g_3)))))))))))))⟩
def i_K_37 (w : Wd) : Wd := st (st (w) 37 0 39) 37 1 40
theorem ctn_K_37 : CtN y_K_init prog_4_method_1_code 1 1 37 38 40 2 71 i_K_37 := by
  refine ctn_of (by decide +kernel) rfl (by decide) ?_
  intro X Qf b w C G hA hn hR hr
  unfold i_K_37
  refine vn_a0 C rfl (zdg dz_K_new_0 0 rfl) ?_
  refine vn_obj C (idx := 3) (mem_h 415 (zaq1 (zaq2 (zaq2 (zaq2 (zaq2 (zaq2 (zaq2 (zaq2 (zaq2 (zaq2 (zaq2 (zaq2 (zaq2 zq_d_g_3)))))))))))))) (rmn_f hR (by decide)) (zdg dz_K_new_0 1 rfl) ?_
  refine vn_a0 C rfl (zdg dz_K_new_0 2 rfl) ?_
  refine vn_bi C (z := 10) (zdg dz_K_new_0 3 rfl) (by decide +kernel) ?_
  refine vn_newa C (z := 10) sh_38 (by decide) (by decide) rfl rfl (Nat.le_of_ble_eq_true rfl) (mem_h 145 (zaq1 (zaq2 zq_d_g_1))) (rmn_c hR rfl) (at9 := .int) (by decide +kernel) ?_
  refine vn_put C G (idx := 9) (fn := "brought") (fd := "[I") (z := 39) (mem_h 416 (zaq1 (zaq2 (zaq2 (zaq2 (zaq2 (zaq2 (zaq2 (zaq2 (zaq2 (zaq2 (zaq2 (zaq2 (zaq2 (zaq2 zq_d_g_3))))))))))))))) ⟨_, rfl, by decide, by decide +kernel, by decide +kernel, by decide +kernel⟩ fn_6_0 sh_37 rfl (by decide) jc_nad.symm (Int.natCast_nonneg 39) (zdg dz_K_new_0 4 rfl) ?_
  refine vn_a0 C rfl (zdg dz_K_new_0 5 rfl) ?_
  refine vn_bi C (z := 61) (zdg dz_K_new_0 6 rfl) (by decide +kernel) ?_
  refine vn_newa C (z := 61) sh_39 (by decide) (by decide) rfl rfl (Nat.le_of_ble_eq_true rfl) (mem_h 145 (zaq1 (zaq2 zq_d_g_1))) (rmn_c hR rfl) (at9 := .int) (by decide +kernel) ?_
  refine vn_put C G (idx := 15) (fn := "guests") (fd := "[I") (z := 40) (mem_h 417 (zaq1 (zaq2 (zaq2 (zaq2 (zaq2 (zaq2 (zaq2 (zaq2 (zaq2 (zaq2 (zaq2 (zaq2 (zaq2 (zaq2 (zaq2 zq_d_g_3)))))))))))))))) ⟨_, rfl, by decide, by decide +kernel, by decide +kernel, by decide +kernel⟩ fn_6_1 sh_37 rfl (by decide) jc_nad.symm (Int.natCast_nonneg 40) (zdg dz_K_new_0 7 rfl) ?_
  exact hr _ _ (zdg dz_K_new_0 8 rfl)
theorem ml_E_74 : ML "EachBringsAnother" 74 y_K_init := Or.inr ⟨"EachBringsAnother", mem_nh 412 (zaq1 (zaq2 (zaq2 (zaq2 (zaq2 (zaq2 (zaq2 (zaq2 (zaq2 (zaq2 zq_d_n_0))))))))))⟩
def i_K_40 (w : Wd) : Wd := st (st (w) 40 0 42) 40 1 43
theorem ctn_K_40 : CtN y_K_init prog_4_method_1_code 1 1 40 41 43 2 71 i_K_40 := by
  refine ctn_of (by decide +kernel) rfl (by decide) ?_
  intro X Qf b w C G hA hn hR hr
  unfold i_K_40
  refine vn_a0 C rfl (zdg dz_K_new_0 0 rfl) ?_
  refine vn_obj C (idx := 3) (mem_h 415 (zaq1 (zaq2 (zaq2 (zaq2 (zaq2 (zaq2 (zaq2 (zaq2 (zaq2 (zaq2 (zaq2 (zaq2 (zaq2 zq_d_g_3)))))))))))))) (rmn_f hR (by decide)) (zdg dz_K_new_0 1 rfl) ?_
  refine vn_a0 C rfl (zdg dz_K_new_0 2 rfl) ?_
  refine vn_bi C (z := 10) (zdg dz_K_new_0 3 rfl) (by decide +kernel) ?_
  refine vn_newa C (z := 10) sh_41 (by decide) (by decide) rfl rfl (Nat.le_of_ble_eq_true rfl) (mem_h 145 (zaq1 (zaq2 zq_d_g_1))) (rmn_c hR rfl) (at9 := .int) (by decide +kernel) ?_
  refine vn_put C G (idx := 9) (fn := "brought") (fd := "[I") (z := 42) (mem_h 416 (zaq1 (zaq2 (zaq2 (zaq2 (zaq2 (zaq2 (zaq2 (zaq2 (zaq2 (zaq2 (zaq2 (zaq2 (zaq2 (zaq2 zq_d_g_3))))))))))))))) ⟨_, rfl, by decide, by decide +kernel, by decide +kernel, by decide +kernel⟩ fn_6_0 sh_40 rfl (by decide) jc_nad.symm (Int.natCast_nonneg 42) (zdg dz_K_new_0 4 rfl) ?_
  refine vn_a0 C rfl (zdg dz_K_new_0 5 rfl) ?_
  refine vn_bi C (z := 61) (zdg dz_K_new_0 6 rfl) (by decide +kernel) ?_
  refine vn_newa C (z := 61) sh_42 (by decide) (by decide) rfl rfl (Nat.le_of_ble_eq_true rfl) (mem_h 145 (zaq1 (zaq2 zq_d_g_1))) (rmn_c hR rfl) (at9 := .int) (by decide +kernel) ?_
  refine vn_put C G (idx := 15) (fn := "guests") (fd := "[I") (z := 43) (mem_h 417 (zaq1 (zaq2 (zaq2 (zaq2 (zaq2 (zaq2 (zaq2 (zaq2 (zaq2 (zaq2 (zaq2 (zaq2 (zaq2 (zaq2 (zaq2 zq_d_g_3)))))))))))))))) ⟨_, rfl, by decide, by decide +kernel, by decide +kernel, by decide +kernel⟩ fn_6_1 sh_40 rfl (by decide) jc_nad.symm (Int.natCast_nonneg 43) (zdg dz_K_new_0 7 rfl) ?_
  exact hr _ _ (zdg dz_K_new_0 8 rfl)
theorem fn_10_9 : FNK "EachBringsAnother" 10 9 3 := ⟨_, .array (.object "EachBringsAnother$Kept"), rfl, by decide +kernel, Or.inr ⟨by decide +kernel, by decide +kernel⟩, Or.inr ⟨Or.inr rfl, Or.inr ⟨_, rfl⟩⟩⟩
def y_E_init : MethodName := ⟨"EachBringsAnother", "<init>", "()V"⟩
theorem cyn_E : CYN y_E_init prog_1_method_1_code 1 := ⟨⟨by decide +kernel, by decide +kernel, by decide +kernel⟩, rfl, (mem_h 84 (zaq1 zq_d_g_0)), (mem_h 109 (by decide +kernel)), (mem_h 108 (zaq1 (zaq2 (zaq2 (zaq2 (zaq2 (zaq2 (zaq2 (zaq2 (zaq2 (zaq2 (zaq2 (zaq2 (zaq2 zq_d_g_0))))))))))))))⟩
def i_E (w : Wd) : Wd := st (st (i_K_40 (st (i_K_37 (st (i_S (st (i_M (st (i_W (st (i_D (st (i_P (st (i_L (st (i_F (st (i_N (st (i_T (w)) 0 0 2)) 0 1 4)) 0 2 6)) 0 3 10)) 0 4 13)) 0 5 16)) 0 6 20)) 0 7 25)) 0 8 29)) 36 (0 : Int).toNat ((38 : Nat) : Int))) 36 (1 : Int).toNat ((41 : Nat) : Int)) 0 9 37
theorem ctn_E : CtN y_E_init prog_1_method_1_code 1 2 0 1 43 42 25916 i_E := by
  refine ctn_of (by decide +kernel) rfl (by decide) ?_
  intro X Qf b w C G hA hn hR hr
  unfold i_E
  refine vn_a0 C rfl (zdg dz_E_new_0 0 rfl) ?_
  refine vn_obj C (idx := 3) (mem_h 110 (zaq1 (zaq2 (zaq2 (zaq2 (zaq2 (zaq2 (zaq2 (zaq2 (zaq2 (zaq2 (zaq2 (zaq2 (zaq2 (zaq2 zq_d_g_0))))))))))))))) (rmn_f hR (by decide)) (zdg dz_E_new_0 1 rfl) ?_
  refine vn_a0 C rfl (zdg dz_E_new_0 2 rfl) ?_
  refine vn_new C G.2.2.2 (idx := 9) (q := ("EachBringsAnother$Text", TN0, 2)) sh_1 rfl rfl (hft_0 b _ rfl) (mem_h 113 (zaq1 (zaq2 (zaq2 (zaq2 (zaq2 (zaq2 (zaq2 (zaq2 (zaq2 (zaq2 (zaq2 (zaq2 (zaq2 (zaq2 (zaq2 zq_d_g_0)))))))))))))))) (mem_h 114 (zaq1 (zaq2 (zaq2 (zaq2 (zaq2 (zaq2 (zaq2 (zaq2 (zaq2 (zaq2 (zaq2 (zaq2 (zaq2 (zaq2 (zaq2 (zaq2 zq_d_g_0))))))))))))))))) (mem_h 85 (zaq1 (zaq2 zq_d_g_0))) (rmn_c hR rfl) (zdg dz_E_new_0 3 rfl) ?_
  refine vn_dup C (zdg dz_E_new_0 4 rfl) rfl ?_
  refine vn_call C G.2.2.2 hA cyn_T ml_E_11 ctn_T (rmn_r hR rfl) (Nat.le_of_ble_eq_true rfl) (zdg dz_E_new_0 5 rfl) ?_
  refine vn_put C G (idx := 12) (fn := "text") (fd := "LEachBringsAnother$Text;") (z := 2) (mem_h 447 (zaq1 (zaq2 (zaq2 (zaq2 (zaq2 (zaq2 (zaq2 (zaq2 (zaq2 (zaq2 (zaq2 (zaq2 (zaq2 (zaq2 (zaq2 (zaq2 zq_d_g_3))))))))))))))))) ⟨_, rfl, by decide, by decide +kernel, by decide +kernel, by decide +kernel⟩ fn_10_0 sh_0 rfl (by decide) jc_nad.symm (Int.natCast_nonneg 2) (zdg dz_E_new_0 6 rfl) ?_
  refine vn_a0 C rfl (zdg dz_E_new_0 7 rfl) ?_
  refine vn_new C G.2.2.2 (idx := 16) (q := ("EachBringsAnother$Numbers", TN1, 2)) sh_3 rfl rfl (hft_1 b _ rfl) (mem_h 131 (zaq1 (zaq2 (zaq2 (zaq2 (zaq2 (zaq2 (zaq2 (zaq2 (zaq2 (zaq2 (zaq2 (zaq2 (zaq2 (zaq2 (zaq2 (zaq2 (zaq2 (zaq2 (zaq2 (zaq2 (zaq2 zq_d_g_0)))))))))))))))))))))) (mem_h 132 (zaq1 (zaq2 (zaq2 (zaq2 (zaq2 (zaq2 (zaq2 (zaq2 (zaq2 (zaq2 (zaq2 (zaq2 (zaq2 (zaq2 (zaq2 (zaq2 (zaq2 (zaq2 (zaq2 (zaq2 (zaq2 (zaq2 zq_d_g_0))))))))))))))))))))))) (mem_h 86 (zaq1 (zaq2 (zaq2 zq_d_g_0)))) (rmn_c hR rfl) (zdg dz_E_new_0 8 rfl) ?_
  refine vn_dup C (zdg dz_E_new_0 9 rfl) rfl ?_
  refine vn_call C G.2.2.2 hA cyn_N ml_E_18 ctn_N (rmn_r hR rfl) (Nat.le_of_ble_eq_true rfl) (zdg dz_E_new_0 10 rfl) ?_
  refine vn_put C G (idx := 19) (fn := "told") (fd := "LEachBringsAnother$Numbers;") (z := 4) (mem_h 448 (zaq1 (zaq2 (zaq2 (zaq2 (zaq2 (zaq2 (zaq2 (zaq2 (zaq2 (zaq2 (zaq2 (zaq2 (zaq2 (zaq2 (zaq2 (zaq2 (zaq2 zq_d_g_3)))))))))))))))))) ⟨_, rfl, by decide, by decide +kernel, by decide +kernel, by decide +kernel⟩ fn_10_1 sh_0 rfl (by decide) jc_nad.symm (Int.natCast_nonneg 4) (zdg dz_E_new_0 11 rfl) ?_
  refine vn_a0 C rfl (zdg dz_E_new_0 12 rfl) ?_
  refine vn_new C G.2.2.2 (idx := 23) (q := ("EachBringsAnother$Folk", TN2, 9)) sh_5 rfl rfl (hft_2 b _ rfl) (mem_h 146 (zaq1 (zaq2 (zaq2 zq_d_g_1)))) (mem_h 147 (zaq1 (zaq2 (zaq2 (zaq2 zq_d_g_1))))) (mem_h 87 (zaq1 (zaq2 (zaq2 (zaq2 zq_d_g_0))))) (rmn_c hR rfl) (zdg dz_E_new_0 13 rfl) ?_
  refine vn_dup C (zdg dz_E_new_0 14 rfl) rfl ?_
  refine vn_call C G.2.2.2 hA cyn_F ml_E_25 ctn_F (rmn_r hR rfl) (Nat.le_of_ble_eq_true rfl) (zdg dz_E_new_0 15 rfl) ?_
  refine vn_put C G (idx := 26) (fn := "folk") (fd := "LEachBringsAnother$Folk;") (z := 6) (mem_h 449 (zaq1 (zaq2 (zaq2 (zaq2 (zaq2 (zaq2 (zaq2 (zaq2 (zaq2 (zaq2 (zaq2 (zaq2 (zaq2 (zaq2 (zaq2 (zaq2 (zaq2 (zaq2 zq_d_g_3))))))))))))))))))) ⟨_, rfl, by decide, by decide +kernel, by decide +kernel, by decide +kernel⟩ fn_10_2 sh_0 rfl (by decide) jc_nad.symm (Int.natCast_nonneg 6) (zdg dz_E_new_0 16 rfl) ?_
  refine vn_a0 C rfl (zdg dz_E_new_0 17 rfl) ?_
  refine vn_new C G.2.2.2 (idx := 30) (q := ("EachBringsAnother$Lines", TN3, 6)) sh_9 rfl rfl (hft_3 b _ rfl) (mem_h 215 (zaq1 (zaq2 (zaq2 (zaq2 (zaq2 (zaq2 (zaq2 (zaq2 (zaq2 (zaq2 (zaq2 (zaq2 zq_d_g_1))))))))))))) (mem_h 216 (zaq1 (zaq2 (zaq2 (zaq2 (zaq2 (zaq2 (zaq2 (zaq2 (zaq2 (zaq2 (zaq2 (zaq2 (zaq2 zq_d_g_1)))))))))))))) (mem_h 88 (zaq1 (zaq2 (zaq2 (zaq2 (zaq2 zq_d_g_0)))))) (rmn_c hR rfl) (zdg dz_E_new_0 18 rfl) ?_
  refine vn_dup C (zdg dz_E_new_0 19 rfl) rfl ?_
  refine vn_call C G.2.2.2 hA cyn_L ml_E_32 ctn_L (rmn_r hR rfl) (Nat.le_of_ble_eq_true rfl) (zdg dz_E_new_0 20 rfl) ?_
  refine vn_put C G (idx := 33) (fn := "lines") (fd := "LEachBringsAnother$Lines;") (z := 10) (mem_h 450 (zaq1 (zaq2 (zaq2 (zaq2 (zaq2 (zaq2 (zaq2 (zaq2 (zaq2 (zaq2 (zaq2 (zaq2 (zaq2 (zaq2 (zaq2 (zaq2 (zaq2 (zaq2 (zaq2 zq_d_g_3)))))))))))))))))))) ⟨_, rfl, by decide, by decide +kernel, by decide +kernel, by decide +kernel⟩ fn_10_3 sh_0 rfl (by decide) jc_nad.symm (Int.natCast_nonneg 10) (zdg dz_E_new_0 21 rfl) ?_
  refine vn_a0 C rfl (zdg dz_E_new_0 22 rfl) ?_
  refine vn_new C G.2.2.2 (idx := 37) (q := ("EachBringsAnother$Plan", TN4, 4)) sh_12 rfl rfl (hft_4 b _ rfl) (mem_h 240 (zaq1 (zaq2 (zaq2 (zaq2 (zaq2 (zaq2 (zaq2 (zaq2 (zaq2 (zaq2 (zaq2 (zaq2 (zaq2 (zaq2 (zaq2 (zaq2 (zaq2 (zaq2 zq_d_g_1))))))))))))))))))) (mem_h 241 (zaq1 (zaq2 (zaq2 (zaq2 (zaq2 (zaq2 (zaq2 (zaq2 (zaq2 (zaq2 (zaq2 (zaq2 (zaq2 (zaq2 (zaq2 (zaq2 (zaq2 (zaq2 (zaq2 zq_d_g_1)))))))))))))))))))) (mem_h 89 (zaq1 (zaq2 (zaq2 (zaq2 (zaq2 (zaq2 zq_d_g_0))))))) (rmn_c hR rfl) (zdg dz_E_new_0 23 rfl) ?_
  refine vn_dup C (zdg dz_E_new_1 0 rfl) rfl ?_
  refine vn_call C G.2.2.2 hA cyn_P ml_E_39 ctn_P (rmn_r hR rfl) (Nat.le_of_ble_eq_true rfl) (zdg dz_E_new_1 1 rfl) ?_
  refine vn_put C G (idx := 40) (fn := "plan") (fd := "LEachBringsAnother$Plan;") (z := 13) (mem_h 451 (zaq1 (zaq2 (zaq2 (zaq2 (zaq2 (zaq2 (zaq2 (zaq2 (zaq2 (zaq2 (zaq2 (zaq2 (zaq2 (zaq2 (zaq2 (zaq2 (zaq2 (zaq2 (zaq2 (zaq2 zq_d_g_3))))))))))))))))))))) ⟨_, rfl, by decide, by decide +kernel, by decide +kernel, by decide +kernel⟩ fn_10_4 sh_0 rfl (by decide) jc_nad.symm (Int.natCast_nonneg 13) (zdg dz_E_new_1 2 rfl) ?_
  refine vn_a0 C rfl (zdg dz_E_new_1 3 rfl) ?_
  refine vn_new C G.2.2.2 (idx := 44) (q := ("EachBringsAnother$Diary", TN5, 5)) sh_15 rfl rfl (hft_5 b _ rfl) (mem_h 261 (zaq1 (zaq2 (zaq2 (zaq2 (zaq2 (zaq2 (zaq2 (zaq2 (zaq2 (zaq2 (zaq2 (zaq2 (zaq2 (zaq2 (zaq2 (zaq2 (zaq2 (zaq2 (zaq2 (zaq2 (zaq2 (zaq2 (zaq2 (zaq2 zq_d_g_1))))))))))))))))))))))))) (mem_h 262 (zaq1 zq_d_g_2)) (mem_h 90 (zaq1 (zaq2 (zaq2 (zaq2 (zaq2 (zaq2 (zaq2 zq_d_g_0)))))))) (rmn_c hR rfl) (zdg dz_E_new_1 4 rfl) ?_
  refine vn_dup C (zdg dz_E_new_1 5 rfl) rfl ?_
  refine vn_call C G.2.2.2 hA cyn_D ml_E_46 ctn_D (rmn_r hR rfl) (Nat.le_of_ble_eq_true rfl) (zdg dz_E_new_1 6 rfl) ?_
  refine vn_put C G (idx := 47) (fn := "diary") (fd := "LEachBringsAnother$Diary;") (z := 16) (mem_h 452 (zaq1 (zaq2 (zaq2 (zaq2 (zaq2 (zaq2 (zaq2 (zaq2 (zaq2 (zaq2 (zaq2 (zaq2 (zaq2 (zaq2 (zaq2 (zaq2 (zaq2 (zaq2 (zaq2 (zaq2 (zaq2 zq_d_g_3)))))))))))))))))))))) ⟨_, rfl, by decide, by decide +kernel, by decide +kernel, by decide +kernel⟩ fn_10_5 sh_0 rfl (by decide) jc_nad.symm (Int.natCast_nonneg 16) (zdg dz_E_new_1 7 rfl) ?_
  refine vn_a0 C rfl (zdg dz_E_new_1 8 rfl) ?_
  refine vn_new C G.2.2.2 (idx := 51) (q := ("EachBringsAnother$Wish", TN7, 11)) sh_19 rfl rfl (hft_7 b _ rfl) (mem_h 288 (zaq1 (zaq2 (zaq2 (zaq2 (zaq2 (zaq2 (zaq2 zq_d_g_2)))))))) (mem_h 289 (zaq1 (zaq2 (zaq2 (zaq2 (zaq2 (zaq2 (zaq2 (zaq2 zq_d_g_2))))))))) (mem_h 91 (zaq1 (zaq2 (zaq2 (zaq2 (zaq2 (zaq2 (zaq2 (zaq2 zq_d_g_0))))))))) (rmn_c hR rfl) (zdg dz_E_new_1 9 rfl) ?_
  refine vn_dup C (zdg dz_E_new_1 10 rfl) rfl ?_
  refine vn_call C G.2.2.2 hA cyn_W ml_E_53 ctn_W (rmn_r hR rfl) (Nat.le_of_ble_eq_true rfl) (zdg dz_E_new_1 11 rfl) ?_
  refine vn_put C G (idx := 54) (fn := "wish") (fd := "LEachBringsAnother$Wish;") (z := 20) (mem_h 453 (zaq1 (zaq2 (zaq2 (zaq2 (zaq2 (zaq2 (zaq2 (zaq2 (zaq2 (zaq2 (zaq2 (zaq2 (zaq2 (zaq2 (zaq2 (zaq2 (zaq2 (zaq2 (zaq2 (zaq2 (zaq2 (zaq2 zq_d_g_3))))))))))))))))))))))) ⟨_, rfl, by decide, by decide +kernel, by decide +kernel, by decide +kernel⟩ fn_10_6 sh_0 rfl (by decide) jc_nad.symm (Int.natCast_nonneg 20) (zdg dz_E_new_1 12 rfl) ?_
  refine vn_a0 C rfl (zdg dz_E_new_1 13 rfl) ?_
  refine vn_new C G.2.2.2 (idx := 58) (q := ("EachBringsAnother$Moves", TN8, 10)) sh_24 rfl rfl (hft_8 b _ rfl) (mem_h 328 (zaq1 (zaq2 (zaq2 (zaq2 (zaq2 (zaq2 (zaq2 (zaq2 (zaq2 (zaq2 (zaq2 (zaq2 (zaq2 (zaq2 (zaq2 zq_d_g_2)))))))))))))))) (mem_h 329 (zaq1 (zaq2 (zaq2 (zaq2 (zaq2 (zaq2 (zaq2 (zaq2 (zaq2 (zaq2 (zaq2 (zaq2 (zaq2 (zaq2 (zaq2 (zaq2 zq_d_g_2))))))))))))))))) (mem_h 92 (zaq1 (zaq2 (zaq2 (zaq2 (zaq2 (zaq2 (zaq2 (zaq2 (zaq2 zq_d_g_0)))))))))) (rmn_c hR rfl) (zdg dz_E_new_1 14 rfl) ?_
  refine vn_dup C (zdg dz_E_new_1 15 rfl) rfl ?_
  refine vn_call C G.2.2.2 hA cyn_M ml_E_60 ctn_M (rmn_r hR rfl) (Nat.le_of_ble_eq_true rfl) (zdg dz_E_new_1 16 rfl) ?_
  refine vn_put C G (idx := 61) (fn := "moves") (fd := "LEachBringsAnother$Moves;") (z := 25) (mem_h 454 (zaq1 (zaq2 (zaq2 (zaq2 (zaq2 (zaq2 (zaq2 (zaq2 (zaq2 (zaq2 (zaq2 (zaq2 (zaq2 (zaq2 (zaq2 (zaq2 (zaq2 (zaq2 (zaq2 (zaq2 (zaq2 (zaq2 (zaq2 zq_d_g_3)))))))))))))))))))))))) ⟨_, rfl, by decide, by decide +kernel, by decide +kernel, by decide +kernel⟩ fn_10_7 sh_0 rfl (by decide) jc_nad.symm (Int.natCast_nonneg 25) (zdg dz_E_new_1 17 rfl) ?_
  refine vn_a0 C rfl (zdg dz_E_new_1 18 rfl) ?_
  refine vn_new C G.2.2.2 (idx := 65) (q := ("EachBringsAnother$Search", TN9, 11)) sh_28 rfl rfl (hft_9 b _ rfl) (mem_h 367 (zaq1 (zaq2 (zaq2 (zaq2 (zaq2 (zaq2 (zaq2 (zaq2 (zaq2 (zaq2 (zaq2 (zaq2 (zaq2 (zaq2 (zaq2 (zaq2 (zaq2 (zaq2 (zaq2 (zaq2 (zaq2 (zaq2 zq_d_g_2))))))))))))))))))))))) (mem_h 368 (zaq1 (zaq2 (zaq2 (zaq2 (zaq2 (zaq2 (zaq2 (zaq2 (zaq2 (zaq2 (zaq2 (zaq2 (zaq2 (zaq2 (zaq2 (zaq2 (zaq2 (zaq2 (zaq2 (zaq2 (zaq2 (zaq2 (zaq2 zq_d_g_2)))))))))))))))))))))))) (mem_h 93 (zaq1 (zaq2 (zaq2 (zaq2 (zaq2 (zaq2 (zaq2 (zaq2 (zaq2 (zaq2 zq_d_g_0))))))))))) (rmn_c hR rfl) (zdg dz_E_new_1 19 rfl) ?_
  refine vn_dup C (zdg dz_E_new_1 20 rfl) rfl ?_
  refine vn_call C G.2.2.2 hA cyn_S ml_E_67 ctn_S (rmn_r hR rfl) (Nat.le_of_ble_eq_true rfl) (zdg dz_E_new_1 21 rfl) ?_
  refine vn_put C G (idx := 68) (fn := "search") (fd := "LEachBringsAnother$Search;") (z := 29) (mem_h 455 (zaq1 (zaq2 (zaq2 (zaq2 (zaq2 (zaq2 (zaq2 (zaq2 (zaq2 (zaq2 (zaq2 (zaq2 (zaq2 (zaq2 (zaq2 (zaq2 (zaq2 (zaq2 (zaq2 (zaq2 (zaq2 (zaq2 (zaq2 (zaq2 zq_d_g_3))))))))))))))))))))))))) ⟨_, rfl, by decide, by decide +kernel, by decide +kernel, by decide +kernel⟩ fn_10_8 sh_0 rfl (by decide) jc_nad.symm (Int.natCast_nonneg 29) (zdg dz_E_new_1 22 rfl) ?_
  refine vn_a0 C rfl (zdg dz_E_new_1 23 rfl) ?_
  refine vn_ic C (z := 2) (zdg dz_E_new_2 0 rfl) ?_
  refine vn_newq C G (idx := 72) (z := 2) sh_36 rfl (Nat.le_of_ble_eq_true rfl) (mem_h 409 (zaq1 (zaq2 (zaq2 (zaq2 (zaq2 (zaq2 (zaq2 (zaq2 (zaq2 (zaq2 zq_d_g_3))))))))))) (rmn_c hR rfl) (by decide +kernel) ?_
  refine vn_dup C (zdg dz_E_new_2 1 rfl) rfl ?_
  refine vn_ic C (z := 0) (zdg dz_E_new_2 2 rfl) ?_
  refine vn_new C G.2.2.2 (idx := 72) (q := ("EachBringsAnother$Kept", TN6, 10)) sh_37 rfl rfl (hft_6 b _ rfl) (mem_h 409 (zaq1 (zaq2 (zaq2 (zaq2 (zaq2 (zaq2 (zaq2 (zaq2 (zaq2 (zaq2 zq_d_g_3))))))))))) (mem_h 411 (zaq1 (zaq2 (zaq2 (zaq2 (zaq2 (zaq2 (zaq2 (zaq2 (zaq2 (zaq2 (zaq2 zq_d_g_3)))))))))))) (mem_h 94 (zaq1 (zaq2 (zaq2 (zaq2 (zaq2 (zaq2 (zaq2 (zaq2 (zaq2 (zaq2 (zaq2 zq_d_g_0)))))))))))) (rmn_c hR rfl) (zdg dz_E_new_2 3 rfl) ?_
  refine vn_dup C (zdg dz_E_new_2 4 rfl) rfl ?_
  refine vn_call C G.2.2.2 hA cyn_K ml_E_74 ctn_K_37 (rmn_r hR rfl) (Nat.le_of_ble_eq_true rfl) (zdg dz_E_new_2 5 rfl) ?_
  refine vn_ast C G (i := 0) sh_36 (by decide) sh_37 (by decide) rfl (jz rfl) (by decide) (by decide +kernel) ?_
  refine vn_dup C (zdg dz_E_new_2 6 rfl) rfl ?_
  refine vn_ic C (z := 1) (zdg dz_E_new_2 7 rfl) ?_
  refine vn_new C G.2.2.2 (idx := 72) (q := ("EachBringsAnother$Kept", TN6, 10)) sh_40 rfl rfl (hft_6 b _ rfl) (mem_h 409 (zaq1 (zaq2 (zaq2 (zaq2 (zaq2 (zaq2 (zaq2 (zaq2 (zaq2 (zaq2 zq_d_g_3))))))))))) (mem_h 411 (zaq1 (zaq2 (zaq2 (zaq2 (zaq2 (zaq2 (zaq2 (zaq2 (zaq2 (zaq2 (zaq2 zq_d_g_3)))))))))))) (mem_h 94 (zaq1 (zaq2 (zaq2 (zaq2 (zaq2 (zaq2 (zaq2 (zaq2 (zaq2 (zaq2 (zaq2 zq_d_g_0)))))))))))) (rmn_c hR rfl) (zdg dz_E_new_2 8 rfl) ?_
  refine vn_dup C (zdg dz_E_new_2 9 rfl) rfl ?_
  refine vn_call C G.2.2.2 hA cyn_K ml_E_74 ctn_K_40 (rmn_r hR rfl) (Nat.le_of_ble_eq_true rfl) (zdg dz_E_new_2 10 rfl) ?_
  refine vn_ast C G (i := 1) sh_36 (by decide) sh_40 (by decide) rfl (jz rfl) (by decide) (by decide +kernel) ?_
  refine vn_put C G (idx := 75) (fn := "kept") (fd := "[LEachBringsAnother$Kept;") (z := 37) (mem_h 456 (zaq1 zq_d_g_4)) ⟨_, rfl, by decide, by decide +kernel, by decide +kernel, by decide +kernel⟩ fn_10_9 sh_0 rfl (by decide) jc_nad.symm (Int.natCast_nonneg 37) (zdg dz_E_new_2 11 rfl) ?_
  exact hr _ _ (zdg dz_E_new_2 12 rfl)
theorem dz_R_new_0 : zdw (prog_14_method_1_code.data.toList.drop 0) 0 [(0, .aload_n 0, 1), (1, .invokespecial 3, 3), (4, .aload_n 0, 1), (5, .bipush 10, 2), (9, .putfield 9, 3), (12, .aload_n 0, 1), (13, .bipush 10, 2), (17, .putfield 13, 3), (20, .aload_n 0, 1), (21, .bipush 10, 2), (25, .putfield 16, 3), (28, .aload_n 0, 1), (29, .bipush 10, 2), (33, .putfield 20, 3), (36, .aload_n 0, 1), (37, .bipush 10, 2), (41, .putfield 23, 3), (44, .aload_n 0, 1), (45, .bipush 10, 2), (49, .putfield 26, 3), (52, .aload_n 0, 1), (53, .bipush 61, 2), (57, .putfield 29, 3), (60, .aload_n 0, 1)] = true := by decide +kernel
theorem dz_R_new_1 : zdw (prog_14_method_1_code.data.toList.drop 61) 61 [(61, .iconst 1, 1), (62, .putfield 32, 3), (65, .aload_n 0, 1), (66, .bipush 10, 2), (68, .putfield 36, 3), (71, .aload_n 0, 1), (72, .bipush 80, 2), (76, .putfield 39, 3), (79, .aload_n 0, 1), (80, .bipush 16, 2), (84, .putfield 43, 3), (87, .aload_n 0, 1), (88, .bipush 10, 2), (92, .putfield 46, 3), (95, .aload_n 0, 1), (96, .bipush 10, 2), (100, .putfield 49, 3), (103, .aload_n 0, 1), (104, .bipush 10, 2), (108, .putfield 52, 3), (111, .aload_n 0, 1), (112, .bipush 10, 2), (116, .putfield 55, 3), (119, .aload_n 0, 1)] = true := by decide +kernel
theorem dz_R_new_2 : zdw (prog_14_method_1_code.data.toList.drop 120) 120 [(120, .bipush 40, 2), (124, .putfield 58, 3), (127, .aload_n 0, 1), (128, .iconst (-1), 1), (129, .putfield 61, 3), (132, .aload_n 0, 1), (133, .bipush 10, 2), (137, .putfield 64, 3), (140, .aload_n 0, 1), (141, .sipush 1860, 3), (146, .putfield 67, 3), (149, .aload_n 0, 1), (150, .bipush 40, 2), (154, .putfield 70, 3), (157, .aload_n 0, 1), (158, .bipush 40, 2), (162, .putfield 73, 3), (165, .aload_n 0, 1), (166, .sipush 11264, 3), (171, .putfield 76, 3), (174, .aload_n 0, 1), (175, .sipush 3000, 3), (180, .putfield 79, 3), (183, .aload_n 0, 1)] = true := by decide +kernel
theorem dz_R_new_3 : zdw (prog_14_method_1_code.data.toList.drop 184) 184 [(184, .sipush 3001, 3), (189, .putfield 82, 3), (192, .aload_n 0, 1), (193, .ldc 85, 2), (197, .putfield 86, 3), (200, .aload_n 0, 1), (201, .sipush 3000, 3), (206, .putfield 89, 3), (209, .aload_n 0, 1), (210, .sipush 8192, 3), (215, .putfield 92, 3), (218, .aload_n 0, 1), (219, .bipush 10, 2), (223, .putfield 95, 3), (226, .aload_n 0, 1), (227, .sipush 3000, 3), (232, .putfield 98, 3), (235, .aload_n 0, 1), (236, .sipush 3000, 3), (241, .putfield 101, 3), (244, .aload_n 0, 1), (245, .sipush 3000, 3), (250, .putfield 104, 3), (253, .aload_n 0, 1)] = true := by decide +kernel
theorem dz_R_new_4 : zdw (prog_14_method_1_code.data.toList.drop 254) 254 [(254, .sipush 3000, 3), (259, .putfield 107, 3), (262, .aload_n 0, 1), (263, .sipush 3000, 3), (268, .putfield 110, 3), (271, .aload_n 0, 1), (272, .sipush 3000, 3), (277, .putfield 113, 3), (280, .aload_n 0, 1), (281, .bipush 10, 2), (285, .putfield 116, 3), (288, .aload_n 0, 1), (289, .sipush 3000, 3), (294, .putfield 119, 3), (297, .aload_n 0, 1), (298, .ldc 122, 2), (302, .putfield 123, 3), (305, .aload_n 0, 1), (306, .bipush 10, 2), (310, .putfield 126, 3), (313, .aload_n 0, 1), (314, .sipush 210, 3), (319, .putfield 129, 3), (322, .aload_n 0, 1)] = true := by decide +kernel
theorem dz_R_new_5 : zdw (prog_14_method_1_code.data.toList.drop 323) 323 [(323, .iconst 2, 1), (326, .putfield 132, 3), (329, .aload_n 0, 1), (330, .iconst 2, 1), (333, .putfield 135, 3), (336, .return_, 1)] = true := by decide +kernel
theorem fn_11_1 : FNK "EachBringsAnotherModel" 11 1 3 := ⟨_, .array .int, rfl, by decide +kernel, Or.inr ⟨by decide +kernel, by decide +kernel⟩, Or.inr ⟨Or.inr rfl, Or.inr ⟨_, rfl⟩⟩⟩
theorem fn_11_2 : FNK "EachBringsAnotherModel" 11 2 3 := ⟨_, .array .int, rfl, by decide +kernel, Or.inr ⟨by decide +kernel, by decide +kernel⟩, Or.inr ⟨Or.inr rfl, Or.inr ⟨_, rfl⟩⟩⟩
theorem fn_11_3 : FNK "EachBringsAnotherModel" 11 3 3 := ⟨_, .array .boolean, rfl, by decide +kernel, Or.inr ⟨by decide +kernel, by decide +kernel⟩, Or.inr ⟨Or.inr rfl, Or.inr ⟨_, rfl⟩⟩⟩
theorem fn_11_4 : FNK "EachBringsAnotherModel" 11 4 3 := ⟨_, .array .int, rfl, by decide +kernel, Or.inr ⟨by decide +kernel, by decide +kernel⟩, Or.inr ⟨Or.inr rfl, Or.inr ⟨_, rfl⟩⟩⟩
theorem fn_11_5 : FNK "EachBringsAnotherModel" 11 5 3 := ⟨_, .array .int, rfl, by decide +kernel, Or.inr ⟨by decide +kernel, by decide +kernel⟩, Or.inr ⟨Or.inr rfl, Or.inr ⟨_, rfl⟩⟩⟩
theorem fn_11_6 : FNK "EachBringsAnotherModel" 11 6 3 := ⟨_, .array .int, rfl, by decide +kernel, Or.inr ⟨by decide +kernel, by decide +kernel⟩, Or.inr ⟨Or.inr rfl, Or.inr ⟨_, rfl⟩⟩⟩
theorem fn_11_9 : FNK "EachBringsAnotherModel" 11 9 3 := ⟨_, .array .int, rfl, by decide +kernel, Or.inr ⟨by decide +kernel, by decide +kernel⟩, Or.inr ⟨Or.inr rfl, Or.inr ⟨_, rfl⟩⟩⟩
theorem fn_11_10 : FNK "EachBringsAnotherModel" 11 10 0 := ⟨_, .int, rfl, by decide +kernel, Or.inl (by decide +kernel), Or.inl ⟨rfl, rfl⟩⟩
theorem fn_11_11 : FNK "EachBringsAnotherModel" 11 11 0 := ⟨_, .int, rfl, by decide +kernel, Or.inl (by decide +kernel), Or.inl ⟨rfl, rfl⟩⟩
theorem fn_11_12 : FNK "EachBringsAnotherModel" 11 12 3 := ⟨_, .array .byte, rfl, by decide +kernel, Or.inr ⟨by decide +kernel, by decide +kernel⟩, Or.inr ⟨Or.inr rfl, Or.inr ⟨_, rfl⟩⟩⟩
theorem fn_11_14 : FNK "EachBringsAnotherModel" 11 14 3 := ⟨_, .array .int, rfl, by decide +kernel, Or.inr ⟨by decide +kernel, by decide +kernel⟩, Or.inr ⟨Or.inr rfl, Or.inr ⟨_, rfl⟩⟩⟩
theorem fn_11_22 : FNK "EachBringsAnotherModel" 11 22 3 := ⟨_, .array .int, rfl, by decide +kernel, Or.inr ⟨by decide +kernel, by decide +kernel⟩, Or.inr ⟨Or.inr rfl, Or.inr ⟨_, rfl⟩⟩⟩
theorem fn_11_23 : FNK "EachBringsAnotherModel" 11 23 3 := ⟨_, .array .int, rfl, by decide +kernel, Or.inr ⟨by decide +kernel, by decide +kernel⟩, Or.inr ⟨Or.inr rfl, Or.inr ⟨_, rfl⟩⟩⟩
theorem fn_11_24 : FNK "EachBringsAnotherModel" 11 24 3 := ⟨_, .array .int, rfl, by decide +kernel, Or.inr ⟨by decide +kernel, by decide +kernel⟩, Or.inr ⟨Or.inr rfl, Or.inr ⟨_, rfl⟩⟩⟩
theorem fn_11_25 : FNK "EachBringsAnotherModel" 11 25 3 := ⟨_, .array .boolean, rfl, by decide +kernel, Or.inr ⟨by decide +kernel, by decide +kernel⟩, Or.inr ⟨Or.inr rfl, Or.inr ⟨_, rfl⟩⟩⟩
theorem fn_11_26 : FNK "EachBringsAnotherModel" 11 26 3 := ⟨_, .array .byte, rfl, by decide +kernel, Or.inr ⟨by decide +kernel, by decide +kernel⟩, Or.inr ⟨Or.inr rfl, Or.inr ⟨_, rfl⟩⟩⟩
theorem fn_11_28 : FNK "EachBringsAnotherModel" 11 28 0 := ⟨_, .int, rfl, by decide +kernel, Or.inl (by decide +kernel), Or.inl ⟨rfl, rfl⟩⟩
theorem fn_11_30 : FNK "EachBringsAnotherModel" 11 30 3 := ⟨_, .array .int, rfl, by decide +kernel, Or.inr ⟨by decide +kernel, by decide +kernel⟩, Or.inr ⟨Or.inr rfl, Or.inr ⟨_, rfl⟩⟩⟩
theorem fn_11_31 : FNK "EachBringsAnotherModel" 11 31 3 := ⟨_, .array .int, rfl, by decide +kernel, Or.inr ⟨by decide +kernel, by decide +kernel⟩, Or.inr ⟨Or.inr rfl, Or.inr ⟨_, rfl⟩⟩⟩
theorem fn_11_33 : FNK "EachBringsAnotherModel" 11 33 3 := ⟨_, .array .int, rfl, by decide +kernel, Or.inr ⟨by decide +kernel, by decide +kernel⟩, Or.inr ⟨Or.inr rfl, Or.inr ⟨_, rfl⟩⟩⟩
theorem fn_11_34 : FNK "EachBringsAnotherModel" 11 34 3 := ⟨_, .array .int, rfl, by decide +kernel, Or.inr ⟨by decide +kernel, by decide +kernel⟩, Or.inr ⟨Or.inr rfl, Or.inr ⟨_, rfl⟩⟩⟩
theorem fn_11_35 : FNK "EachBringsAnotherModel" 11 35 3 := ⟨_, .array .int, rfl, by decide +kernel, Or.inr ⟨by decide +kernel, by decide +kernel⟩, Or.inr ⟨Or.inr rfl, Or.inr ⟨_, rfl⟩⟩⟩
theorem fn_11_36 : FNK "EachBringsAnotherModel" 11 36 3 := ⟨_, .array .int, rfl, by decide +kernel, Or.inr ⟨by decide +kernel, by decide +kernel⟩, Or.inr ⟨Or.inr rfl, Or.inr ⟨_, rfl⟩⟩⟩
theorem fn_11_37 : FNK "EachBringsAnotherModel" 11 37 3 := ⟨_, .array .int, rfl, by decide +kernel, Or.inr ⟨by decide +kernel, by decide +kernel⟩, Or.inr ⟨Or.inr rfl, Or.inr ⟨_, rfl⟩⟩⟩
theorem fn_11_38 : FNK "EachBringsAnotherModel" 11 38 3 := ⟨_, .array .int, rfl, by decide +kernel, Or.inr ⟨by decide +kernel, by decide +kernel⟩, Or.inr ⟨Or.inr rfl, Or.inr ⟨_, rfl⟩⟩⟩
theorem fn_11_39 : FNK "EachBringsAnotherModel" 11 39 3 := ⟨_, .array .int, rfl, by decide +kernel, Or.inr ⟨by decide +kernel, by decide +kernel⟩, Or.inr ⟨Or.inr rfl, Or.inr ⟨_, rfl⟩⟩⟩
theorem fn_11_42 : FNK "EachBringsAnotherModel" 11 42 3 := ⟨_, .array .int, rfl, by decide +kernel, Or.inr ⟨by decide +kernel, by decide +kernel⟩, Or.inr ⟨Or.inr rfl, Or.inr ⟨_, rfl⟩⟩⟩
theorem fn_11_43 : FNK "EachBringsAnotherModel" 11 43 3 := ⟨_, .array .int, rfl, by decide +kernel, Or.inr ⟨by decide +kernel, by decide +kernel⟩, Or.inr ⟨Or.inr rfl, Or.inr ⟨_, rfl⟩⟩⟩
theorem fn_11_45 : FNK "EachBringsAnotherModel" 11 45 3 := ⟨_, .array .int, rfl, by decide +kernel, Or.inr ⟨by decide +kernel, by decide +kernel⟩, Or.inr ⟨Or.inr rfl, Or.inr ⟨_, rfl⟩⟩⟩
theorem fn_11_46 : FNK "EachBringsAnotherModel" 11 46 3 := ⟨_, .array .int, rfl, by decide +kernel, Or.inr ⟨by decide +kernel, by decide +kernel⟩, Or.inr ⟨Or.inr rfl, Or.inr ⟨_, rfl⟩⟩⟩
theorem fn_11_47 : FNK "EachBringsAnotherModel" 11 47 3 := ⟨_, .array .int, rfl, by decide +kernel, Or.inr ⟨by decide +kernel, by decide +kernel⟩, Or.inr ⟨Or.inr rfl, Or.inr ⟨_, rfl⟩⟩⟩
theorem fn_11_48 : FNK "EachBringsAnotherModel" 11 48 3 := ⟨_, .array .int, rfl, by decide +kernel, Or.inr ⟨by decide +kernel, by decide +kernel⟩, Or.inr ⟨Or.inr rfl, Or.inr ⟨_, rfl⟩⟩⟩
theorem fn_11_49 : FNK "EachBringsAnotherModel" 11 49 3 := ⟨_, .array .int, rfl, by decide +kernel, Or.inr ⟨by decide +kernel, by decide +kernel⟩, Or.inr ⟨Or.inr rfl, Or.inr ⟨_, rfl⟩⟩⟩
theorem fn_11_50 : FNK "EachBringsAnotherModel" 11 50 3 := ⟨_, .array .boolean, rfl, by decide +kernel, Or.inr ⟨by decide +kernel, by decide +kernel⟩, Or.inr ⟨Or.inr rfl, Or.inr ⟨_, rfl⟩⟩⟩
theorem fn_11_51 : FNK "EachBringsAnotherModel" 11 51 3 := ⟨_, .array .int, rfl, by decide +kernel, Or.inr ⟨by decide +kernel, by decide +kernel⟩, Or.inr ⟨Or.inr rfl, Or.inr ⟨_, rfl⟩⟩⟩
theorem fn_11_53 : FNK "EachBringsAnotherModel" 11 53 3 := ⟨_, .array .boolean, rfl, by decide +kernel, Or.inr ⟨by decide +kernel, by decide +kernel⟩, Or.inr ⟨Or.inr rfl, Or.inr ⟨_, rfl⟩⟩⟩
theorem fn_11_54 : FNK "EachBringsAnotherModel" 11 54 3 := ⟨_, .array .int, rfl, by decide +kernel, Or.inr ⟨by decide +kernel, by decide +kernel⟩, Or.inr ⟨Or.inr rfl, Or.inr ⟨_, rfl⟩⟩⟩
theorem fn_11_55 : FNK "EachBringsAnotherModel" 11 55 3 := ⟨_, .array .int, rfl, by decide +kernel, Or.inr ⟨by decide +kernel, by decide +kernel⟩, Or.inr ⟨Or.inr rfl, Or.inr ⟨_, rfl⟩⟩⟩
theorem fn_11_57 : FNK "EachBringsAnotherModel" 11 57 3 := ⟨_, .array .int, rfl, by decide +kernel, Or.inr ⟨by decide +kernel, by decide +kernel⟩, Or.inr ⟨Or.inr rfl, Or.inr ⟨_, rfl⟩⟩⟩
theorem fn_11_58 : FNK "EachBringsAnotherModel" 11 58 3 := ⟨_, .array .boolean, rfl, by decide +kernel, Or.inr ⟨by decide +kernel, by decide +kernel⟩, Or.inr ⟨Or.inr rfl, Or.inr ⟨_, rfl⟩⟩⟩
theorem fn_11_59 : FNK "EachBringsAnotherModel" 11 59 3 := ⟨_, .array .int, rfl, by decide +kernel, Or.inr ⟨by decide +kernel, by decide +kernel⟩, Or.inr ⟨Or.inr rfl, Or.inr ⟨_, rfl⟩⟩⟩
def y_R_init : MethodName := ⟨"EachBringsAnotherModel", "<init>", "()V"⟩
theorem cyn_R : CYN y_R_init prog_14_method_1_code 1 := ⟨⟨by decide +kernel, by decide +kernel, by decide +kernel⟩, rfl, (mem_h 95 (zaq1 (zaq2 (zaq2 (zaq2 (zaq2 (zaq2 (zaq2 (zaq2 (zaq2 (zaq2 (zaq2 (zaq2 zq_d_g_0))))))))))))), (mem_h 1216 (by decide +kernel)), (mem_h 1215 (zaq1 (zaq2 (zaq2 zq_d_g_4))))⟩
def i_R (w : Wd) : Wd := st (st (st (st (st (st (st (st (st (st (st (st (st (st (st (st (st (st (st (st (st (st (st (st (st (st (st (st (st (st (st (st (st (st (st (st (st (st (st (st (st (w) 43 1 45) 43 2 46) 43 3 47) 43 4 48) 43 5 49) 43 6 50) 43 9 51) 43 10 1) 43 11 10) 43 12 52) 43 14 53) 43 22 54) 43 23 55) 43 24 56) 43 25 57) 43 26 58) 43 28 (-1)) 43 30 59) 43 31 60) 43 33 61) 43 34 62) 43 35 63) 43 36 64) 43 37 65) 43 38 66) 43 39 67) 43 42 68) 43 43 69) 43 45 70) 43 46 71) 43 47 72) 43 48 73) 43 49 74) 43 50 75) 43 51 76) 43 53 77) 43 54 78) 43 55 79) 43 57 80) 43 58 81) 43 59 82
theorem ctn_R : CtN y_R_init prog_14_method_1_code 1 1 43 44 82 38 942948 i_R := by
  refine ctn_of (by decide +kernel) rfl (by decide) ?_
  intro X Qf b w C G hA hn hR hr
  unfold i_R
  refine vn_a0 C rfl (zdg dz_R_new_0 0 rfl) ?_
  refine vn_obj C (idx := 3) (mem_h 1217 (zaq1 (zaq2 (zaq2 (zaq2 zq_d_g_4))))) (rmn_f hR (by decide)) (zdg dz_R_new_0 1 rfl) ?_
  refine vn_a0 C rfl (zdg dz_R_new_0 2 rfl) ?_
  refine vn_bi C (z := 10) (zdg dz_R_new_0 3 rfl) (by decide +kernel) ?_
  refine vn_newa C (z := 10) sh_44 (by decide) (by decide) rfl rfl (Nat.le_of_ble_eq_true rfl) (mem_h 145 (zaq1 (zaq2 zq_d_g_1))) (rmn_c hR rfl) (at9 := .int) (by decide +kernel) ?_
  refine vn_put C G (idx := 9) (fn := "price") (fd := "[I") (z := 45) (mem_h 1221 (zaq1 (zaq2 (zaq2 (zaq2 (zaq2 (zaq2 (zaq2 zq_d_g_4)))))))) ⟨_, rfl, by decide, by decide +kernel, by decide +kernel, by decide +kernel⟩ fn_11_1 sh_43 rfl (by decide) jc_nad.symm (Int.natCast_nonneg 45) (zdg dz_R_new_0 4 rfl) ?_
  refine vn_a0 C rfl (zdg dz_R_new_0 5 rfl) ?_
  refine vn_bi C (z := 10) (zdg dz_R_new_0 6 rfl) (by decide +kernel) ?_
  refine vn_newa C (z := 10) sh_45 (by decide) (by decide) rfl rfl (Nat.le_of_ble_eq_true rfl) (mem_h 145 (zaq1 (zaq2 zq_d_g_1))) (rmn_c hR rfl) (at9 := .int) (by decide +kernel) ?_
  refine vn_put C G (idx := 13) (fn := "knows") (fd := "[I") (z := 46) (mem_h 1222 (zaq1 (zaq2 (zaq2 (zaq2 (zaq2 (zaq2 (zaq2 (zaq2 zq_d_g_4))))))))) ⟨_, rfl, by decide, by decide +kernel, by decide +kernel, by decide +kernel⟩ fn_11_2 sh_43 rfl (by decide) jc_nad.symm (Int.natCast_nonneg 46) (zdg dz_R_new_0 7 rfl) ?_
  refine vn_a0 C rfl (zdg dz_R_new_0 8 rfl) ?_
  refine vn_bi C (z := 10) (zdg dz_R_new_0 9 rfl) (by decide +kernel) ?_
  refine vn_newa C (z := 10) sh_46 (by decide) (by decide) rfl rfl (Nat.le_of_ble_eq_true rfl) (mem_h 1401 (zaq1 (zaq2 (zaq2 (zaq2 (zaq2 (zaq2 (zaq2 (zaq2 (zaq2 (zaq2 (zaq2 (zaq2 (zaq2 (zaq2 (zaq2 (zaq2 (zaq2 (zaq2 (zaq2 (zaq2 (zaq2 (zaq2 (zaq2 (zaq2 zq_d_g_5))))))))))))))))))))))))) (rmn_c hR rfl) (at9 := .boolean) (by decide +kernel) ?_
  refine vn_put C G (idx := 16) (fn := "isHidden") (fd := "[Z") (z := 47) (mem_h 1223 (zaq1 (zaq2 (zaq2 (zaq2 (zaq2 (zaq2 (zaq2 (zaq2 (zaq2 zq_d_g_4)))))))))) ⟨_, rfl, by decide, by decide +kernel, by decide +kernel, by decide +kernel⟩ fn_11_3 sh_43 rfl (by decide) jc_nad.symm (Int.natCast_nonneg 47) (zdg dz_R_new_0 10 rfl) ?_
  refine vn_a0 C rfl (zdg dz_R_new_0 11 rfl) ?_
  refine vn_bi C (z := 10) (zdg dz_R_new_0 12 rfl) (by decide +kernel) ?_
  refine vn_newa C (z := 10) sh_47 (by decide) (by decide) rfl rfl (Nat.le_of_ble_eq_true rfl) (mem_h 145 (zaq1 (zaq2 zq_d_g_1))) (rmn_c hR rfl) (at9 := .int) (by decide +kernel) ?_
  refine vn_put C G (idx := 20) (fn := "is") (fd := "[I") (z := 48) (mem_h 1224 (zaq1 (zaq2 (zaq2 (zaq2 (zaq2 (zaq2 (zaq2 (zaq2 (zaq2 (zaq2 zq_d_g_4))))))))))) ⟨_, rfl, by decide, by decide +kernel, by decide +kernel, by decide +kernel⟩ fn_11_4 sh_43 rfl (by decide) jc_nad.symm (Int.natCast_nonneg 48) (zdg dz_R_new_0 13 rfl) ?_
  refine vn_a0 C rfl (zdg dz_R_new_0 14 rfl) ?_
  refine vn_bi C (z := 10) (zdg dz_R_new_0 15 rfl) (by decide +kernel) ?_
  refine vn_newa C (z := 10) sh_48 (by decide) (by decide) rfl rfl (Nat.le_of_ble_eq_true rfl) (mem_h 145 (zaq1 (zaq2 zq_d_g_1))) (rmn_c hR rfl) (at9 := .int) (by decide +kernel) ?_
  refine vn_put C G (idx := 23) (fn := "broughtBy") (fd := "[I") (z := 49) (mem_h 1225 (zaq1 (zaq2 (zaq2 (zaq2 (zaq2 (zaq2 (zaq2 (zaq2 (zaq2 (zaq2 (zaq2 zq_d_g_4)))))))))))) ⟨_, rfl, by decide, by decide +kernel, by decide +kernel, by decide +kernel⟩ fn_11_5 sh_43 rfl (by decide) jc_nad.symm (Int.natCast_nonneg 49) (zdg dz_R_new_0 16 rfl) ?_
  refine vn_a0 C rfl (zdg dz_R_new_0 17 rfl) ?_
  refine vn_bi C (z := 10) (zdg dz_R_new_0 18 rfl) (by decide +kernel) ?_
  refine vn_newa C (z := 10) sh_49 (by decide) (by decide) rfl rfl (Nat.le_of_ble_eq_true rfl) (mem_h 145 (zaq1 (zaq2 zq_d_g_1))) (rmn_c hR rfl) (at9 := .int) (by decide +kernel) ?_
  refine vn_put C G (idx := 26) (fn := "firstWeek") (fd := "[I") (z := 50) (mem_h 1226 (zaq1 (zaq2 (zaq2 (zaq2 (zaq2 (zaq2 (zaq2 (zaq2 (zaq2 (zaq2 (zaq2 (zaq2 zq_d_g_4))))))))))))) ⟨_, rfl, by decide, by decide +kernel, by decide +kernel, by decide +kernel⟩ fn_11_6 sh_43 rfl (by decide) jc_nad.symm (Int.natCast_nonneg 50) (zdg dz_R_new_0 19 rfl) ?_
  refine vn_a0 C rfl (zdg dz_R_new_0 20 rfl) ?_
  refine vn_bi C (z := 61) (zdg dz_R_new_0 21 rfl) (by decide +kernel) ?_
  refine vn_newa C (z := 61) sh_50 (by decide) (by decide) rfl rfl (Nat.le_of_ble_eq_true rfl) (mem_h 145 (zaq1 (zaq2 zq_d_g_1))) (rmn_c hR rfl) (at9 := .int) (by decide +kernel) ?_
  refine vn_put C G (idx := 29) (fn := "were") (fd := "[I") (z := 51) (mem_h 1229 (zaq1 (zaq2 (zaq2 (zaq2 (zaq2 (zaq2 (zaq2 (zaq2 (zaq2 (zaq2 (zaq2 (zaq2 (zaq2 zq_d_g_4)))))))))))))) ⟨_, rfl, by decide, by decide +kernel, by decide +kernel, by decide +kernel⟩ fn_11_9 sh_43 rfl (by decide) jc_nad.symm (Int.natCast_nonneg 51) (zdg dz_R_new_0 22 rfl) ?_
  refine vn_a0 C rfl (zdg dz_R_new_0 23 rfl) ?_
  refine vn_ic C (z := 1) (zdg dz_R_new_1 0 rfl) ?_
  refine vn_put C G (idx := 32) (fn := "grace") (fd := "I") (z := 1) (mem_h 1230 (zaq1 (zaq2 (zaq2 (zaq2 (zaq2 (zaq2 (zaq2 (zaq2 (zaq2 (zaq2 (zaq2 (zaq2 (zaq2 (zaq2 zq_d_g_4))))))))))))))) ⟨_, rfl, by decide, by decide +kernel, by decide +kernel, by decide +kernel⟩ fn_11_10 sh_43 rfl (by decide) rfl (jz rfl) (zdg dz_R_new_1 1 rfl) ?_
  refine vn_a0 C rfl (zdg dz_R_new_1 2 rfl) ?_
  refine vn_bi C (z := 10) (zdg dz_R_new_1 3 rfl) (by decide +kernel) ?_
  refine vn_put C G (idx := 36) (fn := "seats") (fd := "I") (z := 10) (mem_h 1231 (zaq1 (zaq2 (zaq2 (zaq2 (zaq2 (zaq2 (zaq2 (zaq2 (zaq2 (zaq2 (zaq2 (zaq2 (zaq2 (zaq2 (zaq2 zq_d_g_4)))))))))))))))) ⟨_, rfl, by decide, by decide +kernel, by decide +kernel, by decide +kernel⟩ fn_11_11 sh_43 rfl (by decide) rfl (jz rfl) (zdg dz_R_new_1 4 rfl) ?_
  refine vn_a0 C rfl (zdg dz_R_new_1 5 rfl) ?_
  refine vn_bi C (z := 80) (zdg dz_R_new_1 6 rfl) (by decide +kernel) ?_
  refine vn_newa C (z := 80) sh_51 (by decide) (by decide) rfl rfl (Nat.le_of_ble_eq_true rfl) (mem_h 1193 (zaq1 (zaq2 zq_d_g_4))) (rmn_c hR rfl) (at9 := .byte) (by decide +kernel) ?_
  refine vn_put C G (idx := 39) (fn := "text") (fd := "[B") (z := 52) (mem_h 1232 (zaq1 (zaq2 (zaq2 (zaq2 (zaq2 (zaq2 (zaq2 (zaq2 (zaq2 (zaq2 (zaq2 (zaq2 (zaq2 (zaq2 (zaq2 (zaq2 zq_d_g_4))))))))))))))))) ⟨_, rfl, by decide, by decide +kernel, by decide +kernel, by decide +kernel⟩ fn_11_12 sh_43 rfl (by decide) jc_nad.symm (Int.natCast_nonneg 52) (zdg dz_R_new_1 7 rfl) ?_
  refine vn_a0 C rfl (zdg dz_R_new_1 8 rfl) ?_
  refine vn_bi C (z := 16) (zdg dz_R_new_1 9 rfl) (by decide +kernel) ?_
  refine vn_newa C (z := 16) sh_52 (by decide) (by decide) rfl rfl (Nat.le_of_ble_eq_true rfl) (mem_h 145 (zaq1 (zaq2 zq_d_g_1))) (rmn_c hR rfl) (at9 := .int) (by decide +kernel) ?_
  refine vn_put C G (idx := 43) (fn := "row") (fd := "[I") (z := 53) (mem_h 1234 (zaq1 (zaq2 (zaq2 (zaq2 (zaq2 (zaq2 (zaq2 (zaq2 (zaq2 (zaq2 (zaq2 (zaq2 (zaq2 (zaq2 (zaq2 (zaq2 (zaq2 zq_d_g_4)))))))))))))))))) ⟨_, rfl, by decide, by decide +kernel, by decide +kernel, by decide +kernel⟩ fn_11_14 sh_43 rfl (by decide) jc_nad.symm (Int.natCast_nonneg 53) (zdg dz_R_new_1 10 rfl) ?_
  refine vn_a0 C rfl (zdg dz_R_new_1 11 rfl) ?_
  refine vn_bi C (z := 10) (zdg dz_R_new_1 12 rfl) (by decide +kernel) ?_
  refine vn_newa C (z := 10) sh_53 (by decide) (by decide) rfl rfl (Nat.le_of_ble_eq_true rfl) (mem_h 145 (zaq1 (zaq2 zq_d_g_1))) (rmn_c hR rfl) (at9 := .int) (by decide +kernel) ?_
  refine vn_put C G (idx := 46) (fn := "newPrice") (fd := "[I") (z := 54) (mem_h 1242 (zaq1 (zaq2 (zaq2 (zaq2 (zaq2 (zaq2 (zaq2 (zaq2 (zaq2 (zaq2 (zaq2 (zaq2 (zaq2 (zaq2 (zaq2 (zaq2 (zaq2 (zaq2 zq_d_g_4))))))))))))))))))) ⟨_, rfl, by decide, by decide +kernel, by decide +kernel, by decide +kernel⟩ fn_11_22 sh_43 rfl (by decide) jc_nad.symm (Int.natCast_nonneg 54) (zdg dz_R_new_1 13 rfl) ?_
  refine vn_a0 C rfl (zdg dz_R_new_1 14 rfl) ?_
  refine vn_bi C (z := 10) (zdg dz_R_new_1 15 rfl) (by decide +kernel) ?_
  refine vn_newa C (z := 10) sh_54 (by decide) (by decide) rfl rfl (Nat.le_of_ble_eq_true rfl) (mem_h 145 (zaq1 (zaq2 zq_d_g_1))) (rmn_c hR rfl) (at9 := .int) (by decide +kernel) ?_
  refine vn_put C G (idx := 49) (fn := "newKnows") (fd := "[I") (z := 55) (mem_h 1243 (zaq1 (zaq2 (zaq2 (zaq2 (zaq2 (zaq2 (zaq2 (zaq2 (zaq2 (zaq2 (zaq2 (zaq2 (zaq2 (zaq2 (zaq2 (zaq2 (zaq2 (zaq2 (zaq2 zq_d_g_4)))))))))))))))))))) ⟨_, rfl, by decide, by decide +kernel, by decide +kernel, by decide +kernel⟩ fn_11_23 sh_43 rfl (by decide) jc_nad.symm (Int.natCast_nonneg 55) (zdg dz_R_new_1 16 rfl) ?_
  refine vn_a0 C rfl (zdg dz_R_new_1 17 rfl) ?_
  refine vn_bi C (z := 10) (zdg dz_R_new_1 18 rfl) (by decide +kernel) ?_
  refine vn_newa C (z := 10) sh_55 (by decide) (by decide) rfl rfl (Nat.le_of_ble_eq_true rfl) (mem_h 145 (zaq1 (zaq2 zq_d_g_1))) (rmn_c hR rfl) (at9 := .int) (by decide +kernel) ?_
  refine vn_put C G (idx := 52) (fn := "newIs") (fd := "[I") (z := 56) (mem_h 1244 (zaq1 (zaq2 (zaq2 (zaq2 (zaq2 (zaq2 (zaq2 (zaq2 (zaq2 (zaq2 (zaq2 (zaq2 (zaq2 (zaq2 (zaq2 (zaq2 (zaq2 (zaq2 (zaq2 (zaq2 zq_d_g_4))))))))))))))))))))) ⟨_, rfl, by decide, by decide +kernel, by decide +kernel, by decide +kernel⟩ fn_11_24 sh_43 rfl (by decide) jc_nad.symm (Int.natCast_nonneg 56) (zdg dz_R_new_1 19 rfl) ?_
  refine vn_a0 C rfl (zdg dz_R_new_1 20 rfl) ?_
  refine vn_bi C (z := 10) (zdg dz_R_new_1 21 rfl) (by decide +kernel) ?_
  refine vn_newa C (z := 10) sh_56 (by decide) (by decide) rfl rfl (Nat.le_of_ble_eq_true rfl) (mem_h 1401 (zaq1 (zaq2 (zaq2 (zaq2 (zaq2 (zaq2 (zaq2 (zaq2 (zaq2 (zaq2 (zaq2 (zaq2 (zaq2 (zaq2 (zaq2 (zaq2 (zaq2 (zaq2 (zaq2 (zaq2 (zaq2 (zaq2 (zaq2 (zaq2 zq_d_g_5))))))))))))))))))))))))) (rmn_c hR rfl) (at9 := .boolean) (by decide +kernel) ?_
  refine vn_put C G (idx := 55) (fn := "newHidden") (fd := "[Z") (z := 57) (mem_h 1245 (zaq1 (zaq2 (zaq2 (zaq2 (zaq2 (zaq2 (zaq2 (zaq2 (zaq2 (zaq2 (zaq2 (zaq2 (zaq2 (zaq2 (zaq2 (zaq2 (zaq2 (zaq2 (zaq2 (zaq2 (zaq2 zq_d_g_4)))))))))))))))))))))) ⟨_, rfl, by decide, by decide +kernel, by decide +kernel, by decide +kernel⟩ fn_11_25 sh_43 rfl (by decide) jc_nad.symm (Int.natCast_nonneg 57) (zdg dz_R_new_1 22 rfl) ?_
  refine vn_a0 C rfl (zdg dz_R_new_1 23 rfl) ?_
  refine vn_bi C (z := 40) (zdg dz_R_new_2 0 rfl) (by decide +kernel) ?_
  refine vn_newa C (z := 40) sh_57 (by decide) (by decide) rfl rfl (Nat.le_of_ble_eq_true rfl) (mem_h 1193 (zaq1 (zaq2 zq_d_g_4))) (rmn_c hR rfl) (at9 := .byte) (by decide +kernel) ?_
  refine vn_put C G (idx := 58) (fn := "rule") (fd := "[B") (z := 58) (mem_h 1246 (zaq1 (zaq2 (zaq2 (zaq2 (zaq2 (zaq2 (zaq2 (zaq2 (zaq2 (zaq2 (zaq2 (zaq2 (zaq2 (zaq2 (zaq2 (zaq2 (zaq2 (zaq2 (zaq2 (zaq2 (zaq2 (zaq2 zq_d_g_4))))))))))))))))))))))) ⟨_, rfl, by decide, by decide +kernel, by decide +kernel, by decide +kernel⟩ fn_11_26 sh_43 rfl (by decide) jc_nad.symm (Int.natCast_nonneg 58) (zdg dz_R_new_2 1 rfl) ?_
  refine vn_a0 C rfl (zdg dz_R_new_2 2 rfl) ?_
  refine vn_ic C (z := (-1)) (zdg dz_R_new_2 3 rfl) ?_
  refine vn_put C G (idx := 61) (fn := "askedOne") (fd := "I") (z := (-1)) (mem_h 1248 (zaq1 (zaq2 (zaq2 (zaq2 (zaq2 (zaq2 (zaq2 (zaq2 (zaq2 (zaq2 (zaq2 (zaq2 (zaq2 (zaq2 (zaq2 (zaq2 (zaq2 (zaq2 (zaq2 (zaq2 (zaq2 (zaq2 (zaq2 zq_d_g_4)))))))))))))))))))))))) ⟨_, rfl, by decide, by decide +kernel, by decide +kernel, by decide +kernel⟩ fn_11_28 sh_43 rfl (by decide) rfl (jz rfl) (zdg dz_R_new_2 4 rfl) ?_
  refine vn_a0 C rfl (zdg dz_R_new_2 5 rfl) ?_
  refine vn_bi C (z := 10) (zdg dz_R_new_2 6 rfl) (by decide +kernel) ?_
  refine vn_newa C (z := 10) sh_58 (by decide) (by decide) rfl rfl (Nat.le_of_ble_eq_true rfl) (mem_h 145 (zaq1 (zaq2 zq_d_g_1))) (rmn_c hR rfl) (at9 := .int) (by decide +kernel) ?_
  refine vn_put C G (idx := 64) (fn := "brings") (fd := "[I") (z := 59) (mem_h 1250 (zaq1 (zaq2 (zaq2 (zaq2 (zaq2 (zaq2 (zaq2 (zaq2 (zaq2 (zaq2 (zaq2 (zaq2 (zaq2 (zaq2 (zaq2 (zaq2 (zaq2 (zaq2 (zaq2 (zaq2 (zaq2 (zaq2 (zaq2 (zaq2 zq_d_g_4))))))))))))))))))))))))) ⟨_, rfl, by decide, by decide +kernel, by decide +kernel, by decide +kernel⟩ fn_11_30 sh_43 rfl (by decide) jc_nad.symm (Int.natCast_nonneg 59) (zdg dz_R_new_2 7 rfl) ?_
  refine vn_a0 C rfl (zdg dz_R_new_2 8 rfl) ?_
  refine vn_si C (z := 1860) (zdg dz_R_new_2 9 rfl) (by decide +kernel) ?_
  refine vn_newa C (z := 1860) sh_59 (by decide) (by decide) rfl rfl (Nat.le_of_ble_eq_true rfl) (mem_h 145 (zaq1 (zaq2 zq_d_g_1))) (rmn_c hR rfl) (at9 := .int) (by decide +kernel) ?_
  refine vn_put C G (idx := 67) (fn := "undos") (fd := "[I") (z := 60) (mem_h 1251 (zaq1 zq_d_g_5)) ⟨_, rfl, by decide, by decide +kernel, by decide +kernel, by decide +kernel⟩ fn_11_31 sh_43 rfl (by decide) jc_nad.symm (Int.natCast_nonneg 60) (zdg dz_R_new_2 10 rfl) ?_
  refine vn_a0 C rfl (zdg dz_R_new_2 11 rfl) ?_
  refine vn_bi C (z := 40) (zdg dz_R_new_2 12 rfl) (by decide +kernel) ?_
  refine vn_newa C (z := 40) sh_60 (by decide) (by decide) rfl rfl (Nat.le_of_ble_eq_true rfl) (mem_h 145 (zaq1 (zaq2 zq_d_g_1))) (rmn_c hR rfl) (at9 := .int) (by decide +kernel) ?_
  refine vn_put C G (idx := 70) (fn := "pairBy") (fd := "[I") (z := 61) (mem_h 1253 (zaq1 (zaq2 zq_d_g_5))) ⟨_, rfl, by decide, by decide +kernel, by decide +kernel, by decide +kernel⟩ fn_11_33 sh_43 rfl (by decide) jc_nad.symm (Int.natCast_nonneg 61) (zdg dz_R_new_2 13 rfl) ?_
  refine vn_a0 C rfl (zdg dz_R_new_2 14 rfl) ?_
  refine vn_bi C (z := 40) (zdg dz_R_new_2 15 rfl) (by decide +kernel) ?_
  refine vn_newa C (z := 40) sh_61 (by decide) (by decide) rfl rfl (Nat.le_of_ble_eq_true rfl) (mem_h 145 (zaq1 (zaq2 zq_d_g_1))) (rmn_c hR rfl) (at9 := .int) (by decide +kernel) ?_
  refine vn_put C G (idx := 73) (fn := "pairWho") (fd := "[I") (z := 62) (mem_h 1254 (zaq1 (zaq2 (zaq2 zq_d_g_5)))) ⟨_, rfl, by decide, by decide +kernel, by decide +kernel, by decide +kernel⟩ fn_11_34 sh_43 rfl (by decide) jc_nad.symm (Int.natCast_nonneg 62) (zdg dz_R_new_2 16 rfl) ?_
  refine vn_a0 C rfl (zdg dz_R_new_2 17 rfl) ?_
  refine vn_si C (z := 11264) (zdg dz_R_new_2 18 rfl) (by decide +kernel) ?_
  refine vn_newa C (z := 11264) sh_62 (by decide) (by decide) rfl rfl (Nat.le_of_ble_eq_true rfl) (mem_h 145 (zaq1 (zaq2 zq_d_g_1))) (rmn_c hR rfl) (at9 := .int) (by decide +kernel) ?_
  refine vn_put C G (idx := 76) (fn := "mostPairs") (fd := "[I") (z := 63) (mem_h 1255 (zaq1 (zaq2 (zaq2 (zaq2 zq_d_g_5))))) ⟨_, rfl, by decide, by decide +kernel, by decide +kernel, by decide +kernel⟩ fn_11_35 sh_43 rfl (by decide) jc_nad.symm (Int.natCast_nonneg 63) (zdg dz_R_new_2 19 rfl) ?_
  refine vn_a0 C rfl (zdg dz_R_new_2 20 rfl) ?_
  refine vn_si C (z := 3000) (zdg dz_R_new_2 21 rfl) (by decide +kernel) ?_
  refine vn_newa C (z := 3000) sh_63 (by decide) (by decide) rfl rfl (Nat.le_of_ble_eq_true rfl) (mem_h 145 (zaq1 (zaq2 zq_d_g_1))) (rmn_c hR rfl) (at9 := .int) (by decide +kernel) ?_
  refine vn_put C G (idx := 79) (fn := "stateIn") (fd := "[I") (z := 64) (mem_h 1256 (zaq1 (zaq2 (zaq2 (zaq2 (zaq2 zq_d_g_5)))))) ⟨_, rfl, by decide, by decide +kernel, by decide +kernel, by decide +kernel⟩ fn_11_36 sh_43 rfl (by decide) jc_nad.symm (Int.natCast_nonneg 64) (zdg dz_R_new_2 22 rfl) ?_
  refine vn_a0 C rfl (zdg dz_R_new_2 23 rfl) ?_
  refine vn_si C (z := 3001) (zdg dz_R_new_3 0 rfl) (by decide +kernel) ?_
  refine vn_newa C (z := 3001) sh_64 (by decide) (by decide) rfl rfl (Nat.le_of_ble_eq_true rfl) (mem_h 145 (zaq1 (zaq2 zq_d_g_1))) (rmn_c hR rfl) (at9 := .int) (by decide +kernel) ?_
  refine vn_put C G (idx := 82) (fn := "edgeFrom") (fd := "[I") (z := 65) (mem_h 1257 (zaq1 (zaq2 (zaq2 (zaq2 (zaq2 (zaq2 zq_d_g_5))))))) ⟨_, rfl, by decide, by decide +kernel, by decide +kernel, by decide +kernel⟩ fn_11_37 sh_43 rfl (by decide) jc_nad.symm (Int.natCast_nonneg 65) (zdg dz_R_new_3 1 rfl) ?_
  refine vn_a0 C rfl (zdg dz_R_new_3 2 rfl) ?_
  refine vn_ldc C (z := 756000) (i := 85) (zdg dz_R_new_3 3 rfl) (v := 756000) (mem_h 1218 (zaq1 (zaq2 (zaq2 (zaq2 (zaq2 zq_d_g_4)))))) (by decide +kernel) ?_
  refine vn_newa C (z := 756000) sh_65 (by decide) (by decide) rfl rfl (Nat.le_of_ble_eq_true rfl) (mem_h 145 (zaq1 (zaq2 zq_d_g_1))) (rmn_c hR rfl) (at9 := .int) (by decide +kernel) ?_
  refine vn_put C G (idx := 86) (fn := "edges") (fd := "[I") (z := 66) (mem_h 1258 (zaq1 (zaq2 (zaq2 (zaq2 (zaq2 (zaq2 (zaq2 zq_d_g_5)))))))) ⟨_, rfl, by decide, by decide +kernel, by decide +kernel, by decide +kernel⟩ fn_11_38 sh_43 rfl (by decide) jc_nad.symm (Int.natCast_nonneg 66) (zdg dz_R_new_3 4 rfl) ?_
  refine vn_a0 C rfl (zdg dz_R_new_3 5 rfl) ?_
  refine vn_si C (z := 3000) (zdg dz_R_new_3 6 rfl) (by decide +kernel) ?_
  refine vn_newa C (z := 3000) sh_66 (by decide) (by decide) rfl rfl (Nat.le_of_ble_eq_true rfl) (mem_h 145 (zaq1 (zaq2 zq_d_g_1))) (rmn_c hR rfl) (at9 := .int) (by decide +kernel) ?_
  refine vn_put C G (idx := 89) (fn := "seenBy") (fd := "[I") (z := 67) (mem_h 1259 (zaq1 (zaq2 (zaq2 (zaq2 (zaq2 (zaq2 (zaq2 (zaq2 zq_d_g_5))))))))) ⟨_, rfl, by decide, by decide +kernel, by decide +kernel, by decide +kernel⟩ fn_11_39 sh_43 rfl (by decide) jc_nad.symm (Int.natCast_nonneg 67) (zdg dz_R_new_3 7 rfl) ?_
  refine vn_a0 C rfl (zdg dz_R_new_3 8 rfl) ?_
  refine vn_si C (z := 8192) (zdg dz_R_new_3 9 rfl) (by decide +kernel) ?_
  refine vn_newa C (z := 8192) sh_67 (by decide) (by decide) rfl rfl (Nat.le_of_ble_eq_true rfl) (mem_h 145 (zaq1 (zaq2 zq_d_g_1))) (rmn_c hR rfl) (at9 := .int) (by decide +kernel) ?_
  refine vn_put C G (idx := 92) (fn := "table") (fd := "[I") (z := 68) (mem_h 1262 (zaq1 (zaq2 (zaq2 (zaq2 (zaq2 (zaq2 (zaq2 (zaq2 (zaq2 zq_d_g_5)))))))))) ⟨_, rfl, by decide, by decide +kernel, by decide +kernel, by decide +kernel⟩ fn_11_42 sh_43 rfl (by decide) jc_nad.symm (Int.natCast_nonneg 68) (zdg dz_R_new_3 10 rfl) ?_
  refine vn_a0 C rfl (zdg dz_R_new_3 11 rfl) ?_
  refine vn_bi C (z := 10) (zdg dz_R_new_3 12 rfl) (by decide +kernel) ?_
  refine vn_newa C (z := 10) sh_68 (by decide) (by decide) rfl rfl (Nat.le_of_ble_eq_true rfl) (mem_h 145 (zaq1 (zaq2 zq_d_g_1))) (rmn_c hR rfl) (at9 := .int) (by decide +kernel) ?_
  refine vn_put C G (idx := 95) (fn := "now") (fd := "[I") (z := 69) (mem_h 1263 (zaq1 (zaq2 (zaq2 (zaq2 (zaq2 (zaq2 (zaq2 (zaq2 (zaq2 (zaq2 zq_d_g_5))))))))))) ⟨_, rfl, by decide, by decide +kernel, by decide +kernel, by decide +kernel⟩ fn_11_43 sh_43 rfl (by decide) jc_nad.symm (Int.natCast_nonneg 69) (zdg dz_R_new_3 13 rfl) ?_
  refine vn_a0 C rfl (zdg dz_R_new_3 14 rfl) ?_
  refine vn_si C (z := 3000) (zdg dz_R_new_3 15 rfl) (by decide +kernel) ?_
  refine vn_newa C (z := 3000) sh_69 (by decide) (by decide) rfl rfl (Nat.le_of_ble_eq_true rfl) (mem_h 145 (zaq1 (zaq2 zq_d_g_1))) (rmn_c hR rfl) (at9 := .int) (by decide +kernel) ?_
  refine vn_put C G (idx := 98) (fn := "paidTo") (fd := "[I") (z := 70) (mem_h 1265 (zaq1 (zaq2 (zaq2 (zaq2 (zaq2 (zaq2 (zaq2 (zaq2 (zaq2 (zaq2 (zaq2 zq_d_g_5)))))))))))) ⟨_, rfl, by decide, by decide +kernel, by decide +kernel, by decide +kernel⟩ fn_11_45 sh_43 rfl (by decide) jc_nad.symm (Int.natCast_nonneg 70) (zdg dz_R_new_3 16 rfl) ?_
  refine vn_a0 C rfl (zdg dz_R_new_3 17 rfl) ?_
  refine vn_si C (z := 3000) (zdg dz_R_new_3 18 rfl) (by decide +kernel) ?_
  refine vn_newa C (z := 3000) sh_70 (by decide) (by decide) rfl rfl (Nat.le_of_ble_eq_true rfl) (mem_h 145 (zaq1 (zaq2 zq_d_g_1))) (rmn_c hR rfl) (at9 := .int) (by decide +kernel) ?_
  refine vn_put C G (idx := 101) (fn := "paidThen") (fd := "[I") (z := 71) (mem_h 1266 (zaq1 (zaq2 (zaq2 (zaq2 (zaq2 (zaq2 (zaq2 (zaq2 (zaq2 (zaq2 (zaq2 (zaq2 zq_d_g_5))))))))))))) ⟨_, rfl, by decide, by decide +kernel, by decide +kernel, by decide +kernel⟩ fn_11_46 sh_43 rfl (by decide) jc_nad.symm (Int.natCast_nonneg 71) (zdg dz_R_new_3 19 rfl) ?_
  refine vn_a0 C rfl (zdg dz_R_new_3 20 rfl) ?_
  refine vn_si C (z := 3000) (zdg dz_R_new_3 21 rfl) (by decide +kernel) ?_
  refine vn_newa C (z := 3000) sh_71 (by decide) (by decide) rfl rfl (Nat.le_of_ble_eq_true rfl) (mem_h 145 (zaq1 (zaq2 zq_d_g_1))) (rmn_c hR rfl) (at9 := .int) (by decide +kernel) ?_
  refine vn_put C G (idx := 104) (fn := "life") (fd := "[I") (z := 72) (mem_h 1267 (zaq1 (zaq2 (zaq2 (zaq2 (zaq2 (zaq2 (zaq2 (zaq2 (zaq2 (zaq2 (zaq2 (zaq2 (zaq2 zq_d_g_5)))))))))))))) ⟨_, rfl, by decide, by decide +kernel, by decide +kernel, by decide +kernel⟩ fn_11_47 sh_43 rfl (by decide) jc_nad.symm (Int.natCast_nonneg 72) (zdg dz_R_new_3 22 rfl) ?_
  refine vn_a0 C rfl (zdg dz_R_new_3 23 rfl) ?_
  refine vn_si C (z := 3000) (zdg dz_R_new_4 0 rfl) (by decide +kernel) ?_
  refine vn_newa C (z := 3000) sh_72 (by decide) (by decide) rfl rfl (Nat.le_of_ble_eq_true rfl) (mem_h 145 (zaq1 (zaq2 zq_d_g_1))) (rmn_c hR rfl) (at9 := .int) (by decide +kernel) ?_
  refine vn_put C G (idx := 107) (fn := "order") (fd := "[I") (z := 73) (mem_h 1268 (zaq1 (zaq2 (zaq2 (zaq2 (zaq2 (zaq2 (zaq2 (zaq2 (zaq2 (zaq2 (zaq2 (zaq2 (zaq2 (zaq2 zq_d_g_5))))))))))))))) ⟨_, rfl, by decide, by decide +kernel, by decide +kernel, by decide +kernel⟩ fn_11_48 sh_43 rfl (by decide) jc_nad.symm (Int.natCast_nonneg 73) (zdg dz_R_new_4 1 rfl) ?_
  refine vn_a0 C rfl (zdg dz_R_new_4 2 rfl) ?_
  refine vn_si C (z := 3000) (zdg dz_R_new_4 3 rfl) (by decide +kernel) ?_
  refine vn_newa C (z := 3000) sh_73 (by decide) (by decide) rfl rfl (Nat.le_of_ble_eq_true rfl) (mem_h 145 (zaq1 (zaq2 zq_d_g_1))) (rmn_c hR rfl) (at9 := .int) (by decide +kernel) ?_
  refine vn_put C G (idx := 110) (fn := "left") (fd := "[I") (z := 74) (mem_h 1269 (zaq1 (zaq2 (zaq2 (zaq2 (zaq2 (zaq2 (zaq2 (zaq2 (zaq2 (zaq2 (zaq2 (zaq2 (zaq2 (zaq2 (zaq2 zq_d_g_5)))))))))))))))) ⟨_, rfl, by decide, by decide +kernel, by decide +kernel, by decide +kernel⟩ fn_11_49 sh_43 rfl (by decide) jc_nad.symm (Int.natCast_nonneg 74) (zdg dz_R_new_4 4 rfl) ?_
  refine vn_a0 C rfl (zdg dz_R_new_4 5 rfl) ?_
  refine vn_si C (z := 3000) (zdg dz_R_new_4 6 rfl) (by decide +kernel) ?_
  refine vn_newa C (z := 3000) sh_74 (by decide) (by decide) rfl rfl (Nat.le_of_ble_eq_true rfl) (mem_h 1401 (zaq1 (zaq2 (zaq2 (zaq2 (zaq2 (zaq2 (zaq2 (zaq2 (zaq2 (zaq2 (zaq2 (zaq2 (zaq2 (zaq2 (zaq2 (zaq2 (zaq2 (zaq2 (zaq2 (zaq2 (zaq2 (zaq2 (zaq2 (zaq2 zq_d_g_5))))))))))))))))))))))))) (rmn_c hR rfl) (at9 := .boolean) (by decide +kernel) ?_
  refine vn_put C G (idx := 113) (fn := "isWanted") (fd := "[Z") (z := 75) (mem_h 1270 (zaq1 (zaq2 (zaq2 (zaq2 (zaq2 (zaq2 (zaq2 (zaq2 (zaq2 (zaq2 (zaq2 (zaq2 (zaq2 (zaq2 (zaq2 (zaq2 zq_d_g_5))))))))))))))))) ⟨_, rfl, by decide, by decide +kernel, by decide +kernel, by decide +kernel⟩ fn_11_50 sh_43 rfl (by decide) jc_nad.symm (Int.natCast_nonneg 75) (zdg dz_R_new_4 7 rfl) ?_
  refine vn_a0 C rfl (zdg dz_R_new_4 8 rfl) ?_
  refine vn_bi C (z := 10) (zdg dz_R_new_4 9 rfl) (by decide +kernel) ?_
  refine vn_newa C (z := 10) sh_75 (by decide) (by decide) rfl rfl (Nat.le_of_ble_eq_true rfl) (mem_h 145 (zaq1 (zaq2 zq_d_g_1))) (rmn_c hR rfl) (at9 := .int) (by decide +kernel) ?_
  refine vn_put C G (idx := 116) (fn := "pairRow") (fd := "[I") (z := 76) (mem_h 1271 (zaq1 (zaq2 (zaq2 (zaq2 (zaq2 (zaq2 (zaq2 (zaq2 (zaq2 (zaq2 (zaq2 (zaq2 (zaq2 (zaq2 (zaq2 (zaq2 (zaq2 zq_d_g_5)))))))))))))))))) ⟨_, rfl, by decide, by decide +kernel, by decide +kernel, by decide +kernel⟩ fn_11_51 sh_43 rfl (by decide) jc_nad.symm (Int.natCast_nonneg 76) (zdg dz_R_new_4 10 rfl) ?_
  refine vn_a0 C rfl (zdg dz_R_new_4 11 rfl) ?_
  refine vn_si C (z := 3000) (zdg dz_R_new_4 12 rfl) (by decide +kernel) ?_
  refine vn_newa C (z := 3000) sh_76 (by decide) (by decide) rfl rfl (Nat.le_of_ble_eq_true rfl) (mem_h 1401 (zaq1 (zaq2 (zaq2 (zaq2 (zaq2 (zaq2 (zaq2 (zaq2 (zaq2 (zaq2 (zaq2 (zaq2 (zaq2 (zaq2 (zaq2 (zaq2 (zaq2 (zaq2 (zaq2 (zaq2 (zaq2 (zaq2 (zaq2 (zaq2 zq_d_g_5))))))))))))))))))))))))) (rmn_c hR rfl) (at9 := .boolean) (by decide +kernel) ?_
  refine vn_put C G (idx := 119) (fn := "nextOf") (fd := "[Z") (z := 77) (mem_h 1273 (zaq1 (zaq2 (zaq2 (zaq2 (zaq2 (zaq2 (zaq2 (zaq2 (zaq2 (zaq2 (zaq2 (zaq2 (zaq2 (zaq2 (zaq2 (zaq2 (zaq2 (zaq2 zq_d_g_5))))))))))))))))))) ⟨_, rfl, by decide, by decide +kernel, by decide +kernel, by decide +kernel⟩ fn_11_53 sh_43 rfl (by decide) jc_nad.symm (Int.natCast_nonneg 77) (zdg dz_R_new_4 13 rfl) ?_
  refine vn_a0 C rfl (zdg dz_R_new_4 14 rfl) ?_
  refine vn_ldc C (z := 135000) (i := 122) (zdg dz_R_new_4 15 rfl) (v := 135000) (mem_h 1219 (zaq1 (zaq2 (zaq2 (zaq2 (zaq2 (zaq2 zq_d_g_4))))))) (by decide +kernel) ?_
  refine vn_newa C (z := 135000) sh_77 (by decide) (by decide) rfl rfl (Nat.le_of_ble_eq_true rfl) (mem_h 145 (zaq1 (zaq2 zq_d_g_1))) (rmn_c hR rfl) (at9 := .int) (by decide +kernel) ?_
  refine vn_put C G (idx := 123) (fn := "least") (fd := "[I") (z := 78) (mem_h 1274 (zaq1 (zaq2 (zaq2 (zaq2 (zaq2 (zaq2 (zaq2 (zaq2 (zaq2 (zaq2 (zaq2 (zaq2 (zaq2 (zaq2 (zaq2 (zaq2 (zaq2 (zaq2 (zaq2 zq_d_g_5)))))))))))))))))))) ⟨_, rfl, by decide, by decide +kernel, by decide +kernel, by decide +kernel⟩ fn_11_54 sh_43 rfl (by decide) jc_nad.symm (Int.natCast_nonneg 78) (zdg dz_R_new_4 16 rfl) ?_
  refine vn_a0 C rfl (zdg dz_R_new_4 17 rfl) ?_
  refine vn_bi C (z := 10) (zdg dz_R_new_4 18 rfl) (by decide +kernel) ?_
  refine vn_newa C (z := 10) sh_78 (by decide) (by decide) rfl rfl (Nat.le_of_ble_eq_true rfl) (mem_h 145 (zaq1 (zaq2 zq_d_g_1))) (rmn_c hR rfl) (at9 := .int) (by decide +kernel) ?_
  refine vn_put C G (idx := 126) (fn := "steps") (fd := "[I") (z := 79) (mem_h 1275 (zaq1 (zaq2 (zaq2 (zaq2 (zaq2 (zaq2 (zaq2 (zaq2 (zaq2 (zaq2 (zaq2 (zaq2 (zaq2 (zaq2 (zaq2 (zaq2 (zaq2 (zaq2 (zaq2 (zaq2 zq_d_g_5))))))))))))))))))))) ⟨_, rfl, by decide, by decide +kernel, by decide +kernel, by decide +kernel⟩ fn_11_55 sh_43 rfl (by decide) jc_nad.symm (Int.natCast_nonneg 79) (zdg dz_R_new_4 19 rfl) ?_
  refine vn_a0 C rfl (zdg dz_R_new_4 20 rfl) ?_
  refine vn_si C (z := 210) (zdg dz_R_new_4 21 rfl) (by decide +kernel) ?_
  refine vn_newa C (z := 210) sh_79 (by decide) (by decide) rfl rfl (Nat.le_of_ble_eq_true rfl) (mem_h 145 (zaq1 (zaq2 zq_d_g_1))) (rmn_c hR rfl) (at9 := .int) (by decide +kernel) ?_
  refine vn_put C G (idx := 129) (fn := "kept") (fd := "[I") (z := 80) (mem_h 1277 (zaq1 (zaq2 (zaq2 (zaq2 (zaq2 (zaq2 (zaq2 (zaq2 (zaq2 (zaq2 (zaq2 (zaq2 (zaq2 (zaq2 (zaq2 (zaq2 (zaq2 (zaq2 (zaq2 (zaq2 (zaq2 zq_d_g_5)))))))))))))))))))))) ⟨_, rfl, by decide, by decide +kernel, by decide +kernel, by decide +kernel⟩ fn_11_57 sh_43 rfl (by decide) jc_nad.symm (Int.natCast_nonneg 80) (zdg dz_R_new_4 22 rfl) ?_
  refine vn_a0 C rfl (zdg dz_R_new_4 23 rfl) ?_
  refine vn_ic C (z := 2) (zdg dz_R_new_5 0 rfl) ?_
  refine vn_newa C (z := 2) sh_80 (by decide) (by decide) rfl rfl (Nat.le_of_ble_eq_true rfl) (mem_h 1401 (zaq1 (zaq2 (zaq2 (zaq2 (zaq2 (zaq2 (zaq2 (zaq2 (zaq2 (zaq2 (zaq2 (zaq2 (zaq2 (zaq2 (zaq2 (zaq2 (zaq2 (zaq2 (zaq2 (zaq2 (zaq2 (zaq2 (zaq2 (zaq2 zq_d_g_5))))))))))))))))))))))))) (rmn_c hR rfl) (at9 := .boolean) (by decide +kernel) ?_
  refine vn_put C G (idx := 132) (fn := "isKept") (fd := "[Z") (z := 81) (mem_h 1278 (zaq1 (zaq2 (zaq2 (zaq2 (zaq2 (zaq2 (zaq2 (zaq2 (zaq2 (zaq2 (zaq2 (zaq2 (zaq2 (zaq2 (zaq2 (zaq2 (zaq2 (zaq2 (zaq2 (zaq2 (zaq2 (zaq2 zq_d_g_5))))))))))))))))))))))) ⟨_, rfl, by decide, by decide +kernel, by decide +kernel, by decide +kernel⟩ fn_11_58 sh_43 rfl (by decide) jc_nad.symm (Int.natCast_nonneg 81) (zdg dz_R_new_5 1 rfl) ?_
  refine vn_a0 C rfl (zdg dz_R_new_5 2 rfl) ?_
  refine vn_ic C (z := 2) (zdg dz_R_new_5 3 rfl) ?_
  refine vn_newa C (z := 2) sh_81 (by decide) (by decide) rfl rfl (Nat.le_of_ble_eq_true rfl) (mem_h 145 (zaq1 (zaq2 zq_d_g_1))) (rmn_c hR rfl) (at9 := .int) (by decide +kernel) ?_
  refine vn_put C G (idx := 135) (fn := "keptCame") (fd := "[I") (z := 82) (mem_h 1279 (zaq1 (zaq2 (zaq2 (zaq2 (zaq2 (zaq2 (zaq2 (zaq2 (zaq2 (zaq2 (zaq2 (zaq2 (zaq2 (zaq2 (zaq2 (zaq2 (zaq2 (zaq2 (zaq2 (zaq2 (zaq2 (zaq2 (zaq2 zq_d_g_5)))))))))))))))))))))))) ⟨_, rfl, by decide, by decide +kernel, by decide +kernel, by decide +kernel⟩ fn_11_59 sh_43 rfl (by decide) jc_nad.symm (Int.natCast_nonneg 82) (zdg dz_R_new_5 4 rfl) ?_
  exact hr _ _ (zdg dz_R_new_5 5 rfl)
