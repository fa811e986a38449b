theorem s_M_tellPairs {w : Wd} {v1 : Int} (hG : G md_M_tellPairs w w) (i_v1 : ((0 : Int) ≤ v1 ∧ v1 ≤ 255)) : OK (f_M_tellPairs v1 w) (fun r u => ((0 : Int) ≤ r ∧ r ≤ 0) ∧ G md_M_tellPairs w u) := by
  unfold f_M_tellPairs
  refine ok_call (s_N_clear (g_self hG)) (fun r1 u2 q => ?_)
  obtain ⟨i1164, g1165⟩ := q
  have g1166 : G md_M_tellPairs w u2 := g_tr hG g1165 rfl
  exact s_M_tellPairs_9 FU (by have := eqFU; omega) g1166 (by omega) (by omega)
theorem s_E_pairs {w : Wd} (hG : G md_E_pairs w w) : OK (f_E_pairs w) (fun r u => ((0 : Int) ≤ r ∧ r ≤ 20) ∧ G md_E_pairs w u) := by
  unfold f_E_pairs
  refine ok_call (s_E_largestWeek (g_self hG)) (fun r1 u2 q => ?_)
  obtain ⟨i1167, g1168⟩ := q
  have g1169 : G md_E_pairs w u2 := g_tr hG g1168 rfl
  refine ok_call (s_M_tellPairs (g_self g1169) (by omega)) (fun r3 u4 q => ?_)
  obtain ⟨i1170, g1171⟩ := q
  have g1172 : G md_E_pairs w u4 := g_tr g1169 g1171 rfl
  have : (0 : Int) ≤ (u4 3 1) ∧ (u4 3 1) ≤ 20 := g1172.1 3 1
  exact ok_some ⟨by omega, g1172⟩
theorem s_E_bars_89 {b : Wd} {k32 : Int → Int → Int → Wd → Option (Int × Wd)} {Bk32 : Int} (hk32 : ∀ {w1 : Wd} {v1 v2 v3 : Int}, ((1025 : Int) - v3) < Bk32 → G md_E_bars b w1 → ((0 : Int) ≤ v1 ∧ v1 ≤ 1023) → ((-31 : Int) ≤ v2 ∧ v2 ≤ 63) → ((0 : Int) ≤ v3 ∧ v3 ≤ 1024) → OK (k32 v1 v2 v3 w1) (fun r u => ((-1 : Int) ≤ r ∧ r ≤ 1023) ∧ G md_E_bars b u)) {w : Wd} {v1 v2 v3 : Int} (hG : G md_E_bars b w) (i_v1 : ((0 : Int) ≤ v1 ∧ v1 ≤ 1023)) (i_v2 : ((-31 : Int) ≤ v2 ∧ v2 ≤ 63)) (i_v3 : ((0 : Int) ≤ v3 ∧ v3 ≤ 1023)) (hBk32 : ((1025 : Int) - v3) ≤ Bk32) : OK (f_E_bars_89 k32 v1 v2 v3 w) (fun r u => ((-1 : Int) ≤ r ∧ r ≤ 1023) ∧ G md_E_bars b u) := by
  unfold f_E_bars_89
  have := w32_sp ((v3 + (1 : Int)))
  refine ok_let (fun x17 e1173 => ?_)
  have : (1 : Int) ≤ x17 ∧ x17 ≤ 1024 := by omega
  exact hk32 (by omega) hG (by omega) (by omega) (by omega)
theorem s_E_bars_32 {b : Wd} : ∀ (n : Nat) {w : Wd} {v1 v2 v3 : Int}, ((1025 : Int) - v3) < (n : Int) → G md_E_bars b w → ((0 : Int) ≤ v1 ∧ v1 ≤ 1023) → ((-31 : Int) ≤ v2 ∧ v2 ≤ 63) → ((0 : Int) ≤ v3 ∧ v3 ≤ 1024) → OK (f_E_bars_32 n v1 v2 v3 w) (fun r u => ((-1 : Int) ≤ r ∧ r ≤ 1023) ∧ G md_E_bars b u) := by
  intro n
  induction n with
  | zero =>
    intro w v1 v2 v3 hm hG i_v1 i_v2 i_v3
    exfalso
    omega
  | succ n ih =>
    intro w v1 v2 v3 hm hG i_v1 i_v2 i_v3
    rw [f_E_bars_32]
    refine ok_ite (fun h1174 => ?_) (fun h1175 => ?_)
    · exact ok_some ⟨by omega, hG⟩
    · refine ok_call (s_F_knownBy (g_self hG) (by omega)) (fun r12 u13 q => ?_)
      obtain ⟨i1176, g1177⟩ := q
      have g1178 : G md_E_bars b u13 := g_tr hG g1177 rfl
      refine ok_call (s_F_free (g_self g1178)) (fun r14 u15 q => ?_)
      obtain ⟨i1179, g1180⟩ := q
      have g1181 : G md_E_bars b u15 := g_tr g1178 g1180 rfl
      have := iand_r (x := r12) (y := r14) (by omega)
      refine ok_let (fun x16 e1182 => ?_)
      have : (0 : Int) ≤ x16 ∧ x16 ≤ 1023 := by omega
      have := ixor_m1 (x := v1) (by omega)
      have := iand_l (x := v3) (y := (ixor v1 (-1 : Int))) (by omega)
      refine ok_ite (fun h1183 => ?_) (fun h1184 => ?_)
      · refine ok_call (s_JI_bitCount (g_self g1181) (by omega)) (fun r18 u19 q => ?_)
        obtain ⟨i1185, g1186⟩ := q
        have g1187 : G md_E_bars b u19 := g_tr g1181 g1186 rfl
        refine ok_call (s_JI_bitCount (g_self g1187) (by omega)) (fun r20 u21 q => ?_)
        obtain ⟨i1188, g1189⟩ := q
        have g1190 : G md_E_bars b u21 := g_tr g1187 g1189 rfl
        have := w32_sp ((r18 - r20))
        refine ok_ite (fun h1191 => ?_) (fun h1192 => ?_)
        · refine ok_call (s_N_tell2 (g_self g1190) (by omega) (by omega)) (fun r22 u23 q => ?_)
          obtain ⟨i1193, g1194⟩ := q
          have g1195 : G md_E_bars b u23 := g_tr g1190 g1194 rfl
          exact ok_some ⟨by omega, g1195⟩
        · exact s_E_bars_89 ih g1190 (by omega) (by omega) (by omega) (by omega)
      · exact s_E_bars_89 ih g1181 (by omega) (by omega) (by omega) (by omega)
theorem s_E_bars {w : Wd} (hG : G md_E_bars w w) : OK (f_E_bars w) (fun r u => ((-1 : Int) ≤ r ∧ r ≤ 1023) ∧ G md_E_bars w u) := by
  unfold f_E_bars
  refine ok_call (s_F_guests (g_self hG)) (fun r1 u2 q => ?_)
  obtain ⟨i1196, g1197⟩ := q
  have g1198 : G md_E_bars w u2 := g_tr hG g1197 rfl
  refine ok_call (s_JI_bitCount (g_self g1198) (by omega)) (fun r3 u4 q => ?_)
  obtain ⟨i1199, g1200⟩ := q
  have g1201 : G md_E_bars w u4 := g_tr g1198 g1200 rfl
  refine ok_call (s_E_largestWeek (g_self g1201)) (fun r5 u6 q => ?_)
  obtain ⟨i1202, g1203⟩ := q
  have g1204 : G md_E_bars w u6 := g_tr g1201 g1203 rfl
  refine ok_call (s_M_moversOf (g_self g1204) (by omega)) (fun r7 u8 q => ?_)
  obtain ⟨i1205, g1206⟩ := q
  have g1207 : G md_E_bars w u8 := g_tr g1204 g1206 rfl
  refine ok_call (s_JI_bitCount (g_self g1207) (by omega)) (fun r9 u10 q => ?_)
  obtain ⟨i1208, g1209⟩ := q
  have g1210 : G md_E_bars w u10 := g_tr g1207 g1209 rfl
  refine ok_if (by decide) ?_
  have := idiv_k (x := r9) (c := (2 : Int)) (by decide) (by omega)
  have := w32_sp ((r3 - (idiv r9 (2 : Int))))
  refine ok_let (fun x11 e1211 => ?_)
  have : (-31 : Int) ≤ x11 ∧ x11 ≤ 63 := by omega
  exact s_E_bars_32 FU (by have := eqFU; omega) g1210 (by omega) (by omega) (by omega)
theorem s_JA_fill_29_5 {b : Wd} : ∀ (n : Nat) {w : Wd} {v1 v2 v3 : Int}, ((8193 : Int) - v2) < (n : Int) → G md_JA_fill_29 b w → ((0 : Int) ≤ v1 ∧ v1 ≤ 0) → ((0 : Int) ≤ v2 ∧ v2 ≤ 8192) → ((8192 : Int) ≤ v3 ∧ v3 ≤ 8192) → OK (f_JA_fill_29_5 n v1 v2 v3 w) (fun r u => ((0 : Int) ≤ r ∧ r ≤ 0) ∧ G md_JA_fill_29 b u) := by
  intro n
  induction n with
  | zero =>
    intro w v1 v2 v3 hm hG i_v1 i_v2 i_v3
    exfalso
    omega
  | succ n ih =>
    intro w v1 v2 v3 hm hG i_v1 i_v2 i_v3
    rw [f_JA_fill_29_5]
    refine ok_ite (fun h1212 => ?_) (fun h1213 => ?_)
    · exact ok_some ⟨by omega, hG⟩
    · refine ok_gd (by omega) ?_
      refine ok_lw (fun u1 e1214 => ?_)
      have g1215 : G md_JA_fill_29 b u1 := g_st hG e1214 rfl rfl (show (0 : Int) ≤ v1 ∧ v1 ≤ 3000 by omega)
      have := w32_sp ((v2 + (1 : Int)))
      refine ok_let (fun x2 e1216 => ?_)
      have : (1 : Int) ≤ x2 ∧ x2 ≤ 8192 := by omega
      exact ih (by omega) g1215 (by omega) (by omega) (by omega)
theorem s_JA_fill_29 {w : Wd} {v1 : Int} (hG : G md_JA_fill_29 w w) (i_v1 : ((0 : Int) ≤ v1 ∧ v1 ≤ 0)) : OK (f_JA_fill_29 v1 w) (fun r u => ((0 : Int) ≤ r ∧ r ≤ 0) ∧ G md_JA_fill_29 w u) := by
  unfold f_JA_fill_29
  exact s_JA_fill_29_5 FU (by have := eqFU; omega) hG (by omega) (by omega) (by omega)
theorem s_JA_fill_34_5 {b : Wd} : ∀ (n : Nat) {w : Wd} {v1 v2 v3 : Int}, ((452 : Int) - v2) < (n : Int) → G md_JA_fill_34 b w → ((-1 : Int) ≤ v1 ∧ v1 ≤ -1) → ((0 : Int) ≤ v2 ∧ v2 ≤ 451) → ((451 : Int) ≤ v3 ∧ v3 ≤ 451) → OK (f_JA_fill_34_5 n v1 v2 v3 w) (fun r u => ((0 : Int) ≤ r ∧ r ≤ 0) ∧ G md_JA_fill_34 b u) := by
  intro n
  induction n with
  | zero =>
    intro w v1 v2 v3 hm hG i_v1 i_v2 i_v3
    exfalso
    omega
  | succ n ih =>
    intro w v1 v2 v3 hm hG i_v1 i_v2 i_v3
    rw [f_JA_fill_34_5]
    refine ok_ite (fun h1217 => ?_) (fun h1218 => ?_)
    · exact ok_some ⟨by omega, hG⟩
    · refine ok_gd (by omega) ?_
      refine ok_lw (fun u1 e1219 => ?_)
      have g1220 : G md_JA_fill_34 b u1 := g_st hG e1219 rfl rfl (show (-1 : Int) ≤ v1 ∧ v1 ≤ 2999 by omega)
      have := w32_sp ((v2 + (1 : Int)))
      refine ok_let (fun x2 e1221 => ?_)
      have : (1 : Int) ≤ x2 ∧ x2 ≤ 451 := by omega
      exact ih (by omega) g1220 (by omega) (by omega) (by omega)
theorem s_JA_fill_34 {w : Wd} {v1 : Int} (hG : G md_JA_fill_34 w w) (i_v1 : ((-1 : Int) ≤ v1 ∧ v1 ≤ -1)) : OK (f_JA_fill_34 v1 w) (fun r u => ((0 : Int) ≤ r ∧ r ≤ 0) ∧ G md_JA_fill_34 w u) := by
  unfold f_JA_fill_34
  exact s_JA_fill_34_5 FU (by have := eqFU; omega) hG (by omega) (by omega) (by omega)
theorem s_S_clear {w : Wd} (hG : G md_S_clear w w) : OK (f_S_clear w) (fun r u => ((0 : Int) ≤ r ∧ r ≤ 0) ∧ G md_S_clear w u) := by
  unfold f_S_clear
  refine ok_call (s_JA_fill_29 (g_self hG) (by omega)) (fun r1 u2 q => ?_)
  obtain ⟨i1222, g1223⟩ := q
  have g1224 : G md_S_clear w u2 := g_tr hG g1223 rfl
  refine ok_call (s_JA_fill_34 (g_self g1224) (by omega)) (fun r3 u4 q => ?_)
  obtain ⟨i1225, g1226⟩ := q
  have g1227 : G md_S_clear w u4 := g_tr g1224 g1226 rfl
  refine ok_lw (fun u5 e1228 => ?_)
  have g1229 : G md_S_clear w u5 := g_st g1227 e1228 rfl rfl (show (0 : Int) ≤ (0 : Int) ∧ (0 : Int) ≤ 3000 by omega)
  refine ok_lw (fun u6 e1230 => ?_)
  have g1231 : G md_S_clear w u6 := g_st g1229 e1230 rfl rfl (show (0 : Int) ≤ (0 : Int) ∧ (0 : Int) ≤ 3000 by omega)
  refine ok_lw (fun u7 e1232 => ?_)
  have g1233 : G md_S_clear w u7 := g_st g1231 e1232 rfl rfl (show (0 : Int) ≤ (0 : Int) ∧ (0 : Int) ≤ 1 by omega)
  refine ok_lw (fun u8 e1234 => ?_)
  have g1235 : G md_S_clear w u8 := g_st g1233 e1234 rfl rfl (show (0 : Int) ≤ (1 : Int) ∧ (1 : Int) ≤ 1 by omega)
  exact ok_some ⟨by omega, g1235⟩
theorem s_S_slotOf_14 {b : Wd} : ∀ (n : Nat) {w : Wd} {v1 v2 v3 : Int}, ((8193 : Int) - v3) < (n : Int) → G md_S_slotOf b w → ((-2147483648 : Int) ≤ v1 ∧ v1 ≤ 2147483647) → ((0 : Int) ≤ v2 ∧ v2 ≤ 8191) → ((0 : Int) ≤ v3 ∧ v3 ≤ 8192) → OK (f_S_slotOf_14 n v1 v2 v3 w) (fun r u => ((0 : Int) ≤ r ∧ r ≤ 8191) ∧ G md_S_slotOf b u) := by
  intro n
  induction n with
  | zero =>
    intro w v1 v2 v3 hm hG i_v1 i_v2 i_v3
    exfalso
    omega
  | succ n ih =>
    intro w v1 v2 v3 hm hG i_v1 i_v2 i_v3
    rw [f_S_slotOf_14]
    refine ok_ite (fun h1236 => ?_) (fun h1237 => ?_)
    · exact ok_some ⟨by omega, hG⟩
    · refine ok_gd (by omega) ?_
      have : (0 : Int) ≤ (w 29 (v2).toNat) ∧ (w 29 (v2).toNat) ≤ 3000 := hG.1 29 (v2).toNat
      refine ok_ite (fun h1238 => ?_) (fun h1239 => ?_)
      · exact ok_some ⟨by omega, hG⟩
      · refine ok_gd (by omega) ?_
        have := w32_sp (((w 29 (v2).toNat) - (1 : Int)))
        refine ok_gd (by omega) ?_
        have : (-2147483648 : Int) ≤ (w 30 ((w32 ((w 29 (v2).toNat) - (1 : Int)))).toNat) ∧ (w 30 ((w32 ((w 29 (v2).toNat) - (1 : Int)))).toNat) ≤ 2147483647 := hG.1 30 ((w32 ((w 29 (v2).toNat) - (1 : Int)))).toNat
        refine ok_ite (fun h1240 => ?_) (fun h1241 => ?_)
        · exact ok_some ⟨by omega, hG⟩
        · refine ok_if (by decide) ?_
          have := w32_sp ((v2 + (1 : Int)))
          have := irem_k (x := (w32 (v2 + (1 : Int)))) (c := (8192 : Int)) (by decide) (by omega)
          refine ok_let (fun x2 e1242 => ?_)
          have : (0 : Int) ≤ x2 ∧ x2 ≤ 8191 := by omega
          have := w32_sp ((v3 + (1 : Int)))
          refine ok_let (fun x3 e1243 => ?_)
          have : (1 : Int) ≤ x3 ∧ x3 ≤ 8192 := by omega
          exact ih (by omega) hG (by omega) (by omega) (by omega)
theorem s_S_slotOf {w : Wd} {v1 : Int} (hG : G md_S_slotOf w w) (i_v1 : ((-2147483648 : Int) ≤ v1 ∧ v1 ≤ 2147483647)) : OK (f_S_slotOf v1 w) (fun r u => ((0 : Int) ≤ r ∧ r ≤ 8191) ∧ G md_S_slotOf w u) := by
  unfold f_S_slotOf
  refine ok_if (by decide) ?_
  have := w32_sp ((v1 * (-1640531535 : Int)))
  have := iush_k 8 (x := (w32 (v1 * (-1640531535 : Int)))) (y := (8 : Int)) (m := 16777215) (by decide) (by decide) (by decide) (by decide)
  have := irem_k (x := (iush (w32 (v1 * (-1640531535 : Int))) (8 : Int))) (c := (8192 : Int)) (by decide) (by omega)
  refine ok_let (fun x1 e1244 => ?_)
  have : (0 : Int) ≤ x1 ∧ x1 ≤ 8191 := by omega
  exact s_S_slotOf_14 FU (by have := eqFU; omega) hG (by omega) (by omega) (by omega)
theorem s_O_rank {w : Wd} {v0 : Int} (hG : G md_O_rank w w) (i_v0 : ((-2147483648 : Int) ≤ v0 ∧ v0 ≤ 2147483647)) : OK (f_O_rank v0 w) (fun r u => ((0 : Int) ≤ r ∧ r ≤ 3024) ∧ G md_O_rank w u) := by
  unfold f_O_rank
  have := iand_r (x := v0) (y := (1023 : Int)) (by omega)
  refine ok_call (s_JI_bitCount (g_self hG) (by omega)) (fun r1 u2 q => ?_)
  obtain ⟨i1245, g1246⟩ := q
  have g1247 : G md_O_rank w u2 := g_tr hG g1246 rfl
  have := ishr_rg v0 (10 : Int)
  have := iand_r (x := (ishr v0 (10 : Int))) (y := (1023 : Int)) (by omega)
  refine ok_call (s_JI_bitCount (g_self g1247) (by omega)) (fun r3 u4 q => ?_)
  obtain ⟨i1248, g1249⟩ := q
  have g1250 : G md_O_rank w u4 := g_tr g1247 g1249 rfl
  refine ok_call (s_O_out (g_self g1250) (by omega)) (fun r5 u6 q => ?_)
  obtain ⟨i1251, g1252⟩ := q
  have g1253 : G md_O_rank w u6 := g_tr g1250 g1252 rfl
  refine ok_call (s_JI_bitCount (g_self g1253) (by omega)) (fun r7 u8 q => ?_)
  obtain ⟨i1254, g1255⟩ := q
  have g1256 : G md_O_rank w u8 := g_tr g1253 g1255 rfl
  have := w32_sp (((2 : Int) * r3))
  have := w32_sp ((r1 + (w32 ((2 : Int) * r3))))
  have := w32_sp (((4 : Int) * r7))
  have := w32_sp (((w32 (r1 + (w32 ((2 : Int) * r3)))) + (w32 ((4 : Int) * r7))))
  refine ok_let (fun x9 e1257 => ?_)
  have : (0 : Int) ≤ x9 ∧ x9 ≤ 441 := by omega
  refine ok_call (s_O_known (g_self g1256) (by omega)) (fun r10 u11 q => ?_)
  obtain ⟨i1258, g1259⟩ := q
  have g1260 : G md_O_rank w u11 := g_tr g1256 g1259 rfl
  refine ok_call (s_JI_bitCount (g_self g1260) (by omega)) (fun r12 u13 q => ?_)
  obtain ⟨i1261, g1262⟩ := q
  have g1263 : G md_O_rank w u13 := g_tr g1260 g1262 rfl
  have := w32_sp ((r12 * (41 : Int)))
  have := w32_sp (((w32 (r12 * (41 : Int))) + x9))
  exact ok_some ⟨by omega, g1263⟩
theorem s_S_place_120 {b : Wd} {w : Wd} {v2 v4 : Int} (hG : G md_S_place b w) (i_v2 : ((-9223372036854775808 : Int) ≤ v2 ∧ v2 ≤ 9223372036854775807)) (i_v4 : ((0 : Int) ≤ v4 ∧ v4 ≤ 8191)) (a_0 : ((1 : Int) ≤ (w 29 (v4).toNat))) : OK (f_S_place_120 v2 v4 w) (fun r u => ((0 : Int) ≤ r ∧ r ≤ 0) ∧ G md_S_place b u) := by
  unfold f_S_place_120
  have : (0 : Int) ≤ (w 29 (v4).toNat) ∧ (w 29 (v4).toNat) ≤ 3000 := hG.1 29 (v4).toNat
  refine ok_gd (by omega) ?_
  have := w32_sp (((w 29 (v4).toNat) - (1 : Int)))
  refine ok_let (fun x3 e1264 => ?_)
  have : (-1 : Int) ≤ x3 ∧ x3 ≤ 2999 := by omega
  refine ok_gd (by omega) ?_
  refine ok_gd (by omega) ?_
  have : (-9223372036854775808 : Int) ≤ (w 31 (x3).toNat) ∧ (w 31 (x3).toNat) ≤ 9223372036854775807 := hG.1 31 (x3).toNat
  have := lor_rg (w 31 (x3).toNat) v2
  refine ok_lw (fun u4 e1265 => ?_)
  have g1266 : G md_S_place b u4 := g_st hG e1265 rfl rfl (show (-9223372036854775808 : Int) ≤ (lor (w 31 (x3).toNat) v2) ∧ (lor (w 31 (x3).toNat) v2) ≤ 9223372036854775807 by omega)
  exact ok_some ⟨by omega, g1266⟩
theorem s_S_place_46 {b : Wd} {w : Wd} (hG : G md_S_place b w) : OK (f_S_place_46 w) (fun r u => ((0 : Int) ≤ r ∧ r ≤ 0) ∧ G md_S_place b u) := by
  unfold f_S_place_46
  refine ok_lw (fun u7 e1267 => ?_)
  have g1268 : G md_S_place b u7 := g_st hG e1267 rfl rfl (show (0 : Int) ≤ (1 : Int) ∧ (1 : Int) ≤ 1 by omega)
  exact ok_some ⟨by omega, g1268⟩
theorem s_S_place {w : Wd} {v1 v2 : Int} (hG : G md_S_place w w) (i_v1 : ((-2147483648 : Int) ≤ v1 ∧ v1 ≤ 2147483647)) (i_v2 : ((-9223372036854775808 : Int) ≤ v2 ∧ v2 ≤ 9223372036854775807)) : OK (f_S_place v1 v2 w) (fun r u => ((0 : Int) ≤ r ∧ r ≤ 0) ∧ G md_S_place w u) := by
  unfold f_S_place
  refine ok_call (s_S_slotOf (g_self hG) (by omega)) (fun r1 u2 q => ?_)
  obtain ⟨i1269, g1270⟩ := q
  have g1271 : G md_S_place w u2 := g_tr hG g1270 rfl
  refine ok_gd (by omega) ?_
  have : (0 : Int) ≤ (u2 29 (r1).toNat) ∧ (u2 29 (r1).toNat) ≤ 3000 := g1271.1 29 (r1).toNat
  refine ok_ite (fun h1272 => ?_) (fun h1273 => ?_)
  · refine ok_call (s_O_rank (g_self g1271) (by omega)) (fun r5 u6 q => ?_)
    obtain ⟨i1274, g1275⟩ := q
    have g1276 : G md_S_place w u6 := g_tr g1271 g1275 rfl
    have : (0 : Int) ≤ (u6 28 7) ∧ (u6 28 7) ≤ 3000 := g1276.1 28 7
    have : (u6 28 7) = (u2 28 7) := g1275.2.1 28 7 rfl
    have : (0 : Int) ≤ (u2 28 7) ∧ (u2 28 7) ≤ 3000 := g1271.1 28 7
    have : (u2 28 7) = (w 28 7) := g1270.2.1 28 7 rfl
    have : (0 : Int) ≤ (w 28 7) ∧ (w 28 7) ≤ 3000 := hG.1 28 7
    refine ok_ite (fun h1277 => ?_) (fun h1278 => ?_)
    · exact s_S_place_46 g1276
    · refine ok_if (by omega) ?_
      refine ok_ite (fun h1279 => ?_) (fun h1280 => ?_)
      · refine ok_gd (by omega) ?_
        refine ok_lw (fun u8 e1281 => ?_)
        have g1282 : G md_S_place w u8 := g_st g1276 e1281 rfl rfl (show (-2147483648 : Int) ≤ v1 ∧ v1 ≤ 2147483647 by omega)
        have : (0 : Int) ≤ (u8 28 7) ∧ (u8 28 7) ≤ 3000 := g1282.1 28 7
        have : (u8 28 7) = (u6 28 7) := (congrFun (congrFun e1281 28) 7).trans (st_c (by decide))
        refine ok_gd (by omega) ?_
        refine ok_lw (fun u9 e1283 => ?_)
        have g1284 : G md_S_place w u9 := g_st g1282 e1283 rfl rfl (show (-9223372036854775808 : Int) ≤ (0 : Int) ∧ (0 : Int) ≤ 9223372036854775807 by omega)
        refine ok_gd (by omega) ?_
        have : (0 : Int) ≤ (u9 28 7) ∧ (u9 28 7) ≤ 3000 := g1284.1 28 7
        have : (u9 28 7) = (u8 28 7) := (congrFun (congrFun e1283 28) 7).trans (st_c (by decide))
        refine ok_gd (by omega) ?_
        have : (-1 : Int) ≤ (u9 34 (r5).toNat) ∧ (u9 34 (r5).toNat) ≤ 2999 := g1284.1 34 (r5).toNat
        have : (u9 34 (r5).toNat) = (u8 34 (r5).toNat) := (congrFun (congrFun e1283 34) (r5).toNat).trans (st_c (by decide))
        have : (-1 : Int) ≤ (u8 34 (r5).toNat) ∧ (u8 34 (r5).toNat) ≤ 2999 := g1282.1 34 (r5).toNat
        have : (u8 34 (r5).toNat) = (u6 34 (r5).toNat) := (congrFun (congrFun e1281 34) (r5).toNat).trans (st_c (by decide))
        have : (-1 : Int) ≤ (u6 34 (r5).toNat) ∧ (u6 34 (r5).toNat) ≤ 2999 := g1276.1 34 (r5).toNat
        refine ok_lw (fun u10 e1285 => ?_)
        have g1286 : G md_S_place w u10 := g_st g1284 e1285 rfl rfl (show (-1 : Int) ≤ (u9 34 (r5).toNat) ∧ (u9 34 (r5).toNat) ≤ 2999 by omega)
        refine ok_gd (by omega) ?_
        have : (0 : Int) ≤ (u10 28 7) ∧ (u10 28 7) ≤ 3000 := g1286.1 28 7
        have : (u10 28 7) = (u9 28 7) := (congrFun (congrFun e1285 28) 7).trans (st_c (by decide))
        refine ok_lw (fun u11 e1287 => ?_)
        have g1288 : G md_S_place w u11 := g_st g1286 e1287 rfl rfl (show (-1 : Int) ≤ (u10 28 7) ∧ (u10 28 7) ≤ 2999 by omega)
        have : (0 : Int) ≤ (u11 28 7) ∧ (u11 28 7) ≤ 3000 := g1288.1 28 7
        have : (u11 28 7) = (u10 28 7) := (congrFun (congrFun e1287 28) 7).trans (st_c (by decide))
        have := w32_sp (((u11 28 7) + (1 : Int)))
        refine ok_lw (fun u12 e1289 => ?_)
        have g1290 : G md_S_place w u12 := g_st g1288 e1289 rfl rfl (show (0 : Int) ≤ (w32 ((u11 28 7) + (1 : Int))) ∧ (w32 ((u11 28 7) + (1 : Int))) ≤ 3000 by omega)
        refine ok_gd (by omega) ?_
        have : (0 : Int) ≤ (u12 28 7) ∧ (u12 28 7) ≤ 3000 := g1290.1 28 7
        have : (u12 28 7) = (w32 ((u11 28 7) + (1 : Int))) := (congrFun (congrFun e1289 28) 7).trans (st_eq _ _ _ _)
        refine ok_lw (fun u13 e1291 => ?_)
        have g1292 : G md_S_place w u13 := g_st g1290 e1291 rfl rfl (show (0 : Int) ≤ (u12 28 7) ∧ (u12 28 7) ≤ 3000 by omega)
        have : (0 : Int) ≤ (u13 29 (r1).toNat) ∧ (u13 29 (r1).toNat) ≤ 3000 := g1292.1 29 (r1).toNat
        have : (u13 29 (r1).toNat) = (u12 28 7) := (congrFun (congrFun e1291 29) (r1).toNat).trans (st_eq _ _ _ _)
        exact s_S_place_120 g1292 (by omega) (by omega) (by omega)
      · exact s_S_place_46 g1276
  · exact s_S_place_120 g1271 (by omega) (by omega) (by omega)
theorem s_S_guests {w : Wd} {v1 : Int} (hG : G md_S_guests w w) (i_v1 : ((0 : Int) ≤ v1 ∧ v1 ≤ 2999)) : OK (f_S_guests v1 w) (fun r u => ((0 : Int) ≤ r ∧ r ≤ 1023) ∧ G md_S_guests w u) := by
  unfold f_S_guests
  refine ok_if (by omega) ?_
  have : (0 : Int) ≤ (w 28 7) ∧ (w 28 7) ≤ 3000 := hG.1 28 7
  refine ok_ite (fun h1293 => ?_) (fun h1294 => ?_)
  · exact ok_some ⟨by omega, hG⟩
  · refine ok_gd (by omega) ?_
    have : (-2147483648 : Int) ≤ (w 30 (v1).toNat) ∧ (w 30 (v1).toNat) ≤ 2147483647 := hG.1 30 (v1).toNat
    refine ok_call (s_O_guests (g_self hG) (by omega)) (fun r1 u2 q => ?_)
    obtain ⟨i1295, g1296⟩ := q
    have g1297 : G md_S_guests w u2 := g_tr hG g1296 rfl
    exact ok_some ⟨by omega, g1297⟩
theorem s_S_goOn_52 {b : Wd} : ∀ (n : Nat) {w : Wd} {v1 v4 : Int}, ((257 : Int) - v4) < (n : Int) → G md_S_goOn b w → ((0 : Int) ≤ v1 ∧ v1 ≤ 2999) → ((0 : Int) ≤ v4 ∧ v4 ≤ 256) → OK (f_S_goOn_52 n v1 v4 w) (fun r u => ((0 : Int) ≤ r ∧ r ≤ 0) ∧ G md_S_goOn b u) := by
  intro n
  induction n with
  | zero =>
    intro w v1 v4 hm hG i_v1 i_v4
    exfalso
    omega
  | succ n ih =>
    intro w v1 v4 hm hG i_v1 i_v4
    rw [f_S_goOn_52]
    have : (0 : Int) ≤ (w 24 3) ∧ (w 24 3) ≤ 256 := hG.1 24 3
    refine ok_ite (fun h1298 => ?_) (fun h1299 => ?_)
    · exact ok_some ⟨by omega, hG⟩
    · have : (0 : Int) ≤ (w 28 10) ∧ (w 28 10) ≤ 1 := hG.1 28 10
      refine ok_ite (fun h1300 => ?_) (fun h1301 => ?_)
      · refine ok_gd (by omega) ?_
        refine ok_call (s_M_moversOf (g_self hG) (by omega)) (fun r5 u6 q => ?_)
        obtain ⟨i1302, g1303⟩ := q
        have g1304 : G md_S_goOn b u6 := g_tr hG g1303 rfl
        have : (-2147483648 : Int) ≤ (w 30 (v1).toNat) ∧ (w 30 (v1).toNat) ≤ 2147483647 := hG.1 30 (v1).toNat
        have : (0 : Int) ≤ (u6 5 7) ∧ (u6 5 7) ≤ 2147483647 := g1304.1 5 7
        have : (u6 5 7) = (w 5 7) := g1303.2.1 5 7 rfl
        have : (0 : Int) ≤ (w 5 7) ∧ (w 5 7) ≤ 2147483647 := hG.1 5 7
        have : (w 5 7) = (b 5 7) := hG.2.1 5 7 rfl
        refine ok_call (s_O_after (g_self g1304) (by omega) (by omega) (by omega)) (fun r7 u8 q => ?_)
        obtain ⟨i1305, g1306⟩ := q
        have g1307 : G md_S_goOn b u8 := g_tr g1304 g1306 rfl
        refine ok_gd (by omega) ?_
        have : (-9223372036854775808 : Int) ≤ (u8 31 (v1).toNat) ∧ (u8 31 (v1).toNat) ≤ 9223372036854775807 := g1307.1 31 (v1).toNat
        have := lshl_rg (u8 31 (v1).toNat) (1 : Int)
        have := land_rg (lshl (u8 31 (v1).toNat) (1 : Int)) (2305843009213693951 : Int)
        refine ok_call (s_S_place (g_self g1307) (by omega) (by omega)) (fun r9 u10 q => ?_)
        obtain ⟨i1308, g1309⟩ := q
        have g1310 : G md_S_goOn b u10 := g_tr g1307 g1309 rfl
        have := w32_sp ((v4 + (1 : Int)))
        refine ok_let (fun x11 e1311 => ?_)
        have : (1 : Int) ≤ x11 ∧ x11 ≤ 256 := by omega
        exact ih (by omega) g1310 (by omega) (by omega)
      · exact ok_some ⟨by omega, hG⟩
theorem s_S_goOn {w : Wd} {v1 : Int} (hG : G md_S_goOn w w) (i_v1 : ((0 : Int) ≤ v1 ∧ v1 ≤ 2999)) : OK (f_S_goOn v1 w) (fun r u => ((0 : Int) ≤ r ∧ r ≤ 0) ∧ G md_S_goOn w u) := by
  unfold f_S_goOn
  refine ok_call (s_S_guests (g_self hG) (by omega)) (fun r1 u2 q => ?_)
  obtain ⟨i1312, g1313⟩ := q
  have g1314 : G md_S_goOn w u2 := g_tr hG g1313 rfl
  refine ok_ite (fun h1315 => ?_) (fun h1316 => ?_)
  · refine ok_gd (by omega) ?_
    refine ok_gd (by omega) ?_
    refine ok_gd (by omega) ?_
    have : (-9223372036854775808 : Int) ≤ (u2 31 (v1).toNat) ∧ (u2 31 (v1).toNat) ≤ 9223372036854775807 := g1314.1 31 (v1).toNat
    have := w64_rg (-(u2 31 (v1).toNat))
    have := land_rg (u2 31 (v1).toNat) (w64 (-(u2 31 (v1).toNat)))
    have := w64_rg (-(land (u2 31 (v1).toNat) (w64 (-(u2 31 (v1).toNat)))))
    have := land_rg (w64 (-(land (u2 31 (v1).toNat) (w64 (-(u2 31 (v1).toNat)))))) (2305843009213693951 : Int)
    refine ok_lw (fun u12 e1317 => ?_)
    have g1318 : G md_S_goOn w u12 := g_st g1314 e1317 rfl rfl (show (-9223372036854775808 : Int) ≤ (land (w64 (-(land (u2 31 (v1).toNat) (w64 (-(u2 31 (v1).toNat)))))) (2305843009213693951 : Int)) ∧ (land (w64 (-(land (u2 31 (v1).toNat) (w64 (-(u2 31 (v1).toNat)))))) (2305843009213693951 : Int)) ≤ 9223372036854775807 by omega)
    exact ok_some ⟨by omega, g1318⟩
  · refine ok_gd (by omega) ?_
    have : (-2147483648 : Int) ≤ (u2 30 (v1).toNat) ∧ (u2 30 (v1).toNat) ≤ 2147483647 := g1314.1 30 (v1).toNat
    have : (0 : Int) ≤ (u2 5 8) ∧ (u2 5 8) ≤ 2147483647 := g1314.1 5 8
    have : (u2 5 8) = (w 5 8) := g1313.2.1 5 8 rfl
    have : (0 : Int) ≤ (w 5 8) ∧ (w 5 8) ≤ 2147483647 := hG.1 5 8
    refine ok_call (s_M_gather (g_self g1314) (by omega) (by omega)) (fun r3 u4 q => ?_)
    obtain ⟨i1319, g1320⟩ := q
    have g1321 : G md_S_goOn w u4 := g_tr g1314 g1320 rfl
    exact s_S_goOn_52 FU (by have := eqFU; omega) g1321 (by omega) (by omega)
theorem s_S_run_122 {b : Wd} {k35 : Int → Wd → Option (Int × Wd)} {Bk35 : Int} (hk35 : ∀ {w1 : Wd} {v3 : Int}, ((452 : Int) - v3) < Bk35 → G md_S_run b w1 → ((0 : Int) ≤ v3 ∧ v3 ≤ 451) → OK (k35 v3 w1) (fun r u => ((0 : Int) ≤ r ∧ r ≤ 1) ∧ G md_S_run b u)) {w : Wd} {v3 : Int} (hG : G md_S_run b w) (i_v3 : ((0 : Int) ≤ v3 ∧ v3 ≤ 450)) (hBk35 : ((452 : Int) - v3) ≤ Bk35) : OK (f_S_run_122 k35 v3 w) (fun r u => ((0 : Int) ≤ r ∧ r ≤ 1) ∧ G md_S_run b u) := by
  unfold f_S_run_122
  have := w32_sp ((v3 + (1 : Int)))
  refine ok_let (fun x5 e1322 => ?_)
  have : (1 : Int) ≤ x5 ∧ x5 ≤ 451 := by omega
  exact hk35 (by omega) hG (by omega)
theorem s_S_run_42 {b : Wd} {k35 : Int → Wd → Option (Int × Wd)} {Bk35 : Int} (hk35 : ∀ {w1 : Wd} {v3 : Int}, ((452 : Int) - v3) < Bk35 → G md_S_run b w1 → ((0 : Int) ≤ v3 ∧ v3 ≤ 451) → OK (k35 v3 w1) (fun r u => ((0 : Int) ≤ r ∧ r ≤ 1) ∧ G md_S_run b u)) : ∀ (n : Nat) {w : Wd} {v3 : Int}, ((3000 : Int) - (w 28 8)) < (n : Int) → G md_S_run b w → ((0 : Int) ≤ v3 ∧ v3 ≤ 450) → ((452 : Int) - v3) ≤ Bk35 → OK (f_S_run_42 k35 n v3 w) (fun r u => ((0 : Int) ≤ r ∧ r ≤ 1) ∧ G md_S_run b u) := by
  intro n
  induction n with
  | zero =>
    intro w v3 hm hG i_v3 hBk35
    exfalso
    have : (0 : Int) ≤ (w 28 8) ∧ (w 28 8) ≤ 3000 := hG.1 28 8
    omega
  | succ n ih =>
    intro w v3 hm hG i_v3 hBk35
    rw [f_S_run_42]
    have : (0 : Int) ≤ (w 28 8) ∧ (w 28 8) ≤ 3000 := hG.1 28 8
    refine ok_ite (fun h1323 => ?_) (fun h1324 => ?_)
    · exact s_S_run_122 hk35 hG (by omega) (by omega)
    · refine ok_gd (by omega) ?_
      have : (-1 : Int) ≤ (w 34 (v3).toNat) ∧ (w 34 (v3).toNat) ≤ 2999 := hG.1 34 (v3).toNat
      refine ok_ite (fun h1325 => ?_) (fun h1326 => ?_)
      · exact s_S_run_122 hk35 hG (by omega) (by omega)
      · have : (0 : Int) ≤ (w 28 10) ∧ (w 28 10) ≤ 1 := hG.1 28 10
        refine ok_ite (fun h1327 => ?_) (fun h1328 => ?_)
        · refine ok_gd (by omega) ?_
          refine ok_let (fun x6 e1329 => ?_)
          have : (0 : Int) ≤ x6 ∧ x6 ≤ 2999 := by omega
          refine ok_gd (by omega) ?_
          refine ok_gd (by omega) ?_
          have : (-1 : Int) ≤ (w 33 (x6).toNat) ∧ (w 33 (x6).toNat) ≤ 2999 := hG.1 33 (x6).toNat
          refine ok_lw (fun u7 e1330 => ?_)
          have g1331 : G md_S_run b u7 := g_st hG e1330 rfl rfl (show (-1 : Int) ≤ (w 33 (x6).toNat) ∧ (w 33 (x6).toNat) ≤ 2999 by omega)
          have : (0 : Int) ≤ (u7 28 8) ∧ (u7 28 8) ≤ 3000 := g1331.1 28 8
          have : (u7 28 8) = (w 28 8) := (congrFun (congrFun e1330 28) 8).trans (st_c (by decide))
          refine ok_gd (by omega) ?_
          refine ok_lw (fun u8 e1332 => ?_)
          have g1333 : G md_S_run b u8 := g_st g1331 e1332 rfl rfl (show (0 : Int) ≤ x6 ∧ x6 ≤ 2999 by omega)
          have : (0 : Int) ≤ (u8 28 8) ∧ (u8 28 8) ≤ 3000 := g1333.1 28 8
          have : (u8 28 8) = (u7 28 8) := (congrFun (congrFun e1332 28) 8).trans (st_c (by decide))
          have := w32_sp (((u8 28 8) + (1 : Int)))
          refine ok_lw (fun u9 e1334 => ?_)
          have g1335 : G md_S_run b u9 := g_st g1333 e1334 rfl rfl (show (0 : Int) ≤ (w32 ((u8 28 8) + (1 : Int))) ∧ (w32 ((u8 28 8) + (1 : Int))) ≤ 3000 by omega)
          refine ok_call (s_S_goOn (g_self g1335) (by omega)) (fun r10 u11 q => ?_)
          obtain ⟨i1336, g1337⟩ := q
          have g1338 : G md_S_run b u11 := g_tr g1335 g1337 rfl
          have : (0 : Int) ≤ (u11 28 8) ∧ (u11 28 8) ≤ 3000 := g1338.1 28 8
          have : (u11 28 8) = (u9 28 8) := g1337.2.1 28 8 rfl
          have : (0 : Int) ≤ (u9 28 8) ∧ (u9 28 8) ≤ 3000 := g1335.1 28 8
          have : (u9 28 8) = (w32 ((u8 28 8) + (1 : Int))) := (congrFun (congrFun e1334 28) 8).trans (st_eq _ _ _ _)
          exact ih (by omega) g1338 (by omega) (by omega)
        · exact s_S_run_122 hk35 hG (by omega) (by omega)
theorem s_S_run_35 {b : Wd} : ∀ (n : Nat) {w : Wd} {v3 : Int}, ((452 : Int) - v3) < (n : Int) → G md_S_run b w → ((0 : Int) ≤ v3 ∧ v3 ≤ 451) → OK (f_S_run_35 n v3 w) (fun r u => ((0 : Int) ≤ r ∧ r ≤ 1) ∧ G md_S_run b u) := by
  intro n
  induction n with
  | zero =>
    intro w v3 hm hG i_v3
    exfalso
    omega
  | succ n ih =>
    intro w v3 hm hG i_v3
    rw [f_S_run_35]
    refine ok_ite (fun h1339 => ?_) (fun h1340 => ?_)
    · have : (0 : Int) ≤ (w 28 10) ∧ (w 28 10) ≤ 1 := hG.1 28 10
      refine ok_ite (fun h1341 => ?_) (fun h1342 => ?_)
      · exact ok_some ⟨by omega, hG⟩
      · exact ok_some ⟨by omega, hG⟩
    · have : (0 : Int) ≤ (w 28 8) ∧ (w 28 8) ≤ 3000 := hG.1 28 8
      exact s_S_run_42 ih FU (by have := eqFU; omega) hG (by omega) (by omega)
theorem s_S_run {w : Wd} (hG : G md_S_run w w) : OK (f_S_run w) (fun r u => ((0 : Int) ≤ r ∧ r ≤ 1) ∧ G md_S_run w u) := by
  unfold f_S_run
  have : (0 : Int) ≤ (w 28 9) ∧ (w 28 9) ≤ 1 := hG.1 28 9
  refine ok_ite (fun h1343 => ?_) (fun h1344 => ?_)
  · refine ok_call (s_S_clear (g_self hG)) (fun r1 u2 q => ?_)
    obtain ⟨i1345, g1346⟩ := q
    have g1347 : G md_S_run w u2 := g_tr hG g1346 rfl
    have : (-2147483648 : Int) ≤ (u2 5 4) ∧ (u2 5 4) ≤ 2147483647 := g1347.1 5 4
    have : (u2 5 4) = (w 5 4) := g1346.2.1 5 4 rfl
    have : (-2147483648 : Int) ≤ (w 5 4) ∧ (w 5 4) ≤ 2147483647 := hG.1 5 4
    refine ok_call (s_S_place (g_self g1347) (by omega) (by omega)) (fun r3 u4 q => ?_)
    obtain ⟨i1348, g1349⟩ := q
    have g1350 : G md_S_run w u4 := g_tr g1347 g1349 rfl
    exact s_S_run_35 FU (by have := eqFU; omega) g1350 (by omega)
  · have : (0 : Int) ≤ (w 28 10) ∧ (w 28 10) ≤ 1 := hG.1 28 10
    refine ok_ite (fun h1351 => ?_) (fun h1352 => ?_)
    · exact ok_some ⟨by omega, hG⟩
    · exact ok_some ⟨by omega, hG⟩
theorem s_S_mostGuests_4 {b : Wd} : ∀ (n : Nat) {w : Wd} {v1 v2 : Int}, ((3001 : Int) - v2) < (n : Int) → G md_S_mostGuests b w → ((0 : Int) ≤ v1 ∧ v1 ≤ 63) → ((0 : Int) ≤ v2 ∧ v2 ≤ 3000) → OK (f_S_mostGuests_4 n v1 v2 w) (fun r u => ((0 : Int) ≤ r ∧ r ≤ 63) ∧ G md_S_mostGuests b u) := by
  intro n
  induction n with
  | zero =>
    intro w v1 v2 hm hG i_v1 i_v2
    exfalso
    omega
  | succ n ih =>
    intro w v1 v2 hm hG i_v1 i_v2
    rw [f_S_mostGuests_4]
    have : (0 : Int) ≤ (w 28 7) ∧ (w 28 7) ≤ 3000 := hG.1 28 7
    have : (w 28 7) = (b 28 7) := hG.2.1 28 7 rfl
    refine ok_ite (fun h1353 => ?_) (fun h1354 => ?_)
    · exact ok_some ⟨by omega, hG⟩
    · refine ok_call (s_S_guests (g_self hG) (by omega)) (fun r1 u2 q => ?_)
      obtain ⟨i1355, g1356⟩ := q
      have g1357 : G md_S_mostGuests b u2 := g_tr hG g1356 rfl
      refine ok_call (s_JI_bitCount (g_self g1357) (by omega)) (fun r3 u4 q => ?_)
      obtain ⟨i1358, g1359⟩ := q
      have g1360 : G md_S_mostGuests b u4 := g_tr g1357 g1359 rfl
      have := imax_sp v1 r3
      refine ok_let (fun x5 e1361 => ?_)
      have : (0 : Int) ≤ x5 ∧ x5 ≤ 63 := by omega
      have := w32_sp ((v2 + (1 : Int)))
      refine ok_let (fun x6 e1362 => ?_)
      have : (1 : Int) ≤ x6 ∧ x6 ≤ 3000 := by omega
      exact ih (by omega) g1360 (by omega) (by omega)
theorem s_S_mostGuests {w : Wd} (hG : G md_S_mostGuests w w) : OK (f_S_mostGuests w) (fun r u => ((0 : Int) ≤ r ∧ r ≤ 63) ∧ G md_S_mostGuests w u) := by
  unfold f_S_mostGuests
  exact s_S_mostGuests_4 FU (by have := eqFU; omega) hG (by omega) (by omega)
theorem s_E_states_53 {b : Wd} {k25 : Int → Int → Wd → Option (Int × Wd)} {Bk25 : Int} (hk25 : ∀ {w1 : Wd} {v1 v2 : Int}, ((3001 : Int) - v2) < Bk25 → G md_E_states b w1 → ((-2147483648 : Int) ≤ v1 ∧ v1 ≤ 2147483647) → ((0 : Int) ≤ v2 ∧ v2 ≤ 3000) → OK (k25 v1 v2 w1) (fun r u => ((-3 : Int) ≤ r ∧ r ≤ 3000) ∧ G md_E_states b u)) {w : Wd} {v2 s0 s1 : Int} (hG : G md_E_states b w) (i_v2 : ((0 : Int) ≤ v2 ∧ v2 ≤ 2999)) (i_s0 : ((-2147483648 : Int) ≤ s0 ∧ s0 ≤ 2147483647)) (i_s1 : ((0 : Int) ≤ s1 ∧ s1 ≤ 1)) (hBk25 : ((3001 : Int) - v2) ≤ Bk25) : OK (f_E_states_53 k25 v2 s0 s1 w) (fun r u => ((-3 : Int) ≤ r ∧ r ≤ 3000) ∧ G md_E_states b u) := by
  unfold f_E_states_53
  have := w32_sp ((s0 + s1))
  refine ok_let (fun x9 e1363 => ?_)
  have : (-2147483648 : Int) ≤ x9 ∧ x9 ≤ 2147483647 := by omega
  have := w32_sp ((v2 + (1 : Int)))
  refine ok_let (fun x10 e1364 => ?_)
  have : (1 : Int) ≤ x10 ∧ x10 ≤ 3000 := by omega
  exact hk25 (by omega) hG (by omega) (by omega)
theorem s_E_states_25 {b : Wd} : ∀ (n : Nat) {w : Wd} {v1 v2 : Int}, ((3001 : Int) - v2) < (n : Int) → G md_E_states b w → ((-2147483648 : Int) ≤ v1 ∧ v1 ≤ 2147483647) → ((0 : Int) ≤ v2 ∧ v2 ≤ 3000) → OK (f_E_states_25 n v1 v2 w) (fun r u => ((-3 : Int) ≤ r ∧ r ≤ 3000) ∧ G md_E_states b u) := by
  intro n
  induction n with
  | zero =>
    intro w v1 v2 hm hG i_v1 i_v2
    exfalso
    omega
  | succ n ih =>
    intro w v1 v2 hm hG i_v1 i_v2
    rw [f_E_states_25]
    have : (0 : Int) ≤ (w 28 7) ∧ (w 28 7) ≤ 3000 := hG.1 28 7
    refine ok_ite (fun h1365 => ?_) (fun h1366 => ?_)
    · refine ok_call (s_S_mostGuests (g_self hG)) (fun r3 u4 q => ?_)
      obtain ⟨i1367, g1368⟩ := q
      have g1369 : G md_E_states b u4 := g_tr hG g1368 rfl
      refine ok_call (s_N_tell2 (g_self g1369) (by omega) (by omega)) (fun r5 u6 q => ?_)
      obtain ⟨i1370, g1371⟩ := q
      have g1372 : G md_E_states b u6 := g_tr g1369 g1371 rfl
      have : (0 : Int) ≤ (u6 28 7) ∧ (u6 28 7) ≤ 3000 := g1372.1 28 7
      have : (u6 28 7) = (u4 28 7) := g1371.2.1 28 7 rfl
      have : (0 : Int) ≤ (u4 28 7) ∧ (u4 28 7) ≤ 3000 := g1369.1 28 7
      have : (u4 28 7) = (w 28 7) := g1368.2.1 28 7 rfl
      exact ok_some ⟨by omega, g1372⟩
    · refine ok_call (s_S_guests (g_self hG) (by omega)) (fun r7 u8 q => ?_)
      obtain ⟨i1373, g1374⟩ := q
      have g1375 : G md_E_states b u8 := g_tr hG g1374 rfl
      refine ok_ite (fun h1376 => ?_) (fun h1377 => ?_)
      · exact s_E_states_53 ih g1375 (by omega) (by omega) (by omega) (by omega)
      · exact s_E_states_53 ih g1375 (by omega) (by omega) (by omega) (by omega)
theorem s_E_states {w : Wd} (hG : G md_E_states w w) : OK (f_E_states w) (fun r u => ((-3 : Int) ≤ r ∧ r ≤ 3000) ∧ G md_E_states w u) := by
  unfold f_E_states
  refine ok_call (s_S_run (g_self hG)) (fun r1 u2 q => ?_)
  obtain ⟨i1378, g1379⟩ := q
  have g1380 : G md_E_states w u2 := g_tr hG g1379 rfl
  refine ok_ite (fun h1381 => ?_) (fun h1382 => ?_)
  · exact ok_some ⟨by omega, g1380⟩
  · exact s_E_states_25 FU (by have := eqFU; omega) g1380 (by omega) (by omega)
theorem s_S_weeksOf {w : Wd} {v1 : Int} (hG : G md_S_weeksOf w w) (i_v1 : ((0 : Int) ≤ v1 ∧ v1 ≤ 2999)) : OK (f_S_weeksOf v1 w) (fun r u => ((-9223372036854775808 : Int) ≤ r ∧ r ≤ 9223372036854775807) ∧ G md_S_weeksOf w u) := by
  unfold f_S_weeksOf
  refine ok_if (by omega) ?_
  have : (0 : Int) ≤ (w 28 7) ∧ (w 28 7) ≤ 3000 := hG.1 28 7
  refine ok_ite (fun h1383 => ?_) (fun h1384 => ?_)
  · exact ok_some ⟨by omega, hG⟩
  · refine ok_gd (by omega) ?_
    have : (-9223372036854775808 : Int) ≤ (w 31 (v1).toNat) ∧ (w 31 (v1).toNat) ≤ 9223372036854775807 := hG.1 31 (v1).toNat
    exact ok_some ⟨by omega, hG⟩
theorem s_S_canBe {w : Wd} {v1 v2 : Int} (hG : G md_S_canBe w w) (i_v1 : ((0 : Int) ≤ v1 ∧ v1 ≤ 2999)) (i_v2 : ((-1 : Int) ≤ v2 ∧ v2 ≤ 60)) : OK (f_S_canBe v1 v2 w) (fun r u => ((0 : Int) ≤ r ∧ r ≤ 1) ∧ G md_S_canBe w u) := by
  unfold f_S_canBe
  refine ok_call (s_S_weeksOf (g_self hG) (by omega)) (fun r1 u2 q => ?_)
  obtain ⟨i1385, g1386⟩ := q
  have g1387 : G md_S_canBe w u2 := g_tr hG g1386 rfl
  have := lshr_rg r1 v2
  have := land_rg (lshr r1 v2) (1 : Int)
  have := lcmp_rg (land (lshr r1 v2) (1 : Int)) (0 : Int)
  refine ok_ite (fun h1388 => ?_) (fun h1389 => ?_)
  · exact ok_some ⟨by omega, g1387⟩
  · exact ok_some ⟨by omega, g1387⟩
theorem s_E_most_82 {b : Wd} {k37 : Int → Int → Int → Int → Wd → Option (Int × Wd)} {Bk37 : Int} (hk37 : ∀ {w1 : Wd} {v1 v2 v3 v4 : Int}, ((3001 : Int) - v4) < Bk37 → G md_E_most b w1 → ((0 : Int) ≤ v1 ∧ v1 ≤ 60) → ((0 : Int) ≤ v2 ∧ v2 ≤ 63) → ((-2147483648 : Int) ≤ v3 ∧ v3 ≤ 2147483647) → ((0 : Int) ≤ v4 ∧ v4 ≤ 3000) → OK (k37 v1 v2 v3 v4 w1) (fun r u => ((-3 : Int) ≤ r ∧ r ≤ 63) ∧ G md_E_most b u)) {w : Wd} {v1 v2 v3 v4 : Int} (hG : G md_E_most b w) (i_v1 : ((0 : Int) ≤ v1 ∧ v1 ≤ 60)) (i_v2 : ((0 : Int) ≤ v2 ∧ v2 ≤ 63)) (i_v3 : ((-2147483648 : Int) ≤ v3 ∧ v3 ≤ 2147483647)) (i_v4 : ((0 : Int) ≤ v4 ∧ v4 ≤ 2999)) (hBk37 : ((3001 : Int) - v4) ≤ Bk37) : OK (f_E_most_82 k37 v1 v2 v3 v4 w) (fun r u => ((-3 : Int) ≤ r ∧ r ≤ 63) ∧ G md_E_most b u) := by
  unfold f_E_most_82
  have := w32_sp ((v4 + (1 : Int)))
  refine ok_let (fun x9 e1390 => ?_)
  have : (1 : Int) ≤ x9 ∧ x9 ≤ 3000 := by omega
  exact hk37 (by omega) hG (by omega) (by omega) (by omega) (by omega)
theorem s_E_most_37 {b : Wd} : ∀ (n : Nat) {w : Wd} {v1 v2 v3 v4 : Int}, ((3001 : Int) - v4) < (n : Int) → G md_E_most b w → ((0 : Int) ≤ v1 ∧ v1 ≤ 60) → ((0 : Int) ≤ v2 ∧ v2 ≤ 63) → ((-2147483648 : Int) ≤ v3 ∧ v3 ≤ 2147483647) → ((0 : Int) ≤ v4 ∧ v4 ≤ 3000) → OK (f_E_most_37 n v1 v2 v3 v4 w) (fun r u => ((-3 : Int) ≤ r ∧ r ≤ 63) ∧ G md_E_most b u) := by
  intro n
  induction n with
  | zero =>
    intro w v1 v2 v3 v4 hm hG i_v1 i_v2 i_v3 i_v4
    exfalso
    omega
  | succ n ih =>
    intro w v1 v2 v3 v4 hm hG i_v1 i_v2 i_v3 i_v4
    rw [f_E_most_37]
    have : (0 : Int) ≤ (w 28 7) ∧ (w 28 7) ≤ 3000 := hG.1 28 7
    refine ok_ite (fun h1391 => ?_) (fun h1392 => ?_)
    · refine ok_call (s_N_tell1 (g_self hG) (by omega)) (fun r5 u6 q => ?_)
      obtain ⟨i1393, g1394⟩ := q
      have g1395 : G md_E_most b u6 := g_tr hG g1394 rfl
      exact ok_some ⟨by omega, g1395⟩
    · refine ok_call (s_S_canBe (g_self hG) (by omega) (by omega)) (fun r7 u8 q => ?_)
      obtain ⟨i1396, g1397⟩ := q
      have g1398 : G md_E_most b u8 := g_tr hG g1397 rfl
      refine ok_ite (fun h1399 => ?_) (fun h1400 => ?_)
      · exact s_E_most_82 ih g1398 (by omega) (by omega) (by omega) (by omega) (by omega)
      · refine ok_call (s_S_guests (g_self g1398) (by omega)) (fun r10 u11 q => ?_)
        obtain ⟨i1401, g1402⟩ := q
        have g1403 : G md_E_most b u11 := g_tr g1398 g1402 rfl
        refine ok_call (s_JI_bitCount (g_self g1403) (by omega)) (fun r12 u13 q => ?_)
        obtain ⟨i1404, g1405⟩ := q
        have g1406 : G md_E_most b u13 := g_tr g1403 g1405 rfl
        have := imax_sp v2 r12
        refine ok_let (fun x14 e1407 => ?_)
        have : (0 : Int) ≤ x14 ∧ x14 ≤ 63 := by omega
        have := w32_sp ((v3 + (1 : Int)))
        refine ok_let (fun x15 e1408 => ?_)
        have : (-2147483648 : Int) ≤ x15 ∧ x15 ≤ 2147483647 := by omega
        exact s_E_most_82 ih g1406 (by omega) (by omega) (by omega) (by omega) (by omega)
theorem s_E_most {w : Wd} {v1 : Int} (hG : G md_E_most w w) (i_v1 : ((-2147483648 : Int) ≤ v1 ∧ v1 ≤ 2147483647)) : OK (f_E_most v1 w) (fun r u => ((-3 : Int) ≤ r ∧ r ≤ 63) ∧ G md_E_most w u) := by
  unfold f_E_most
  refine ok_jite (fun h1410 => ?_) (fun h1411 => ?_)
  · refine ok_jsome ?_
    refine ok_it (by decide) ?_
    exact ok_some ⟨by omega, hG⟩
  · refine ok_jite (fun h1412 => ?_) (fun h1413 => ?_)
    · refine ok_jsome ?_
      refine ok_it (by decide) ?_
      exact ok_some ⟨by omega, hG⟩
    · refine ok_jsome ?_
      refine ok_if (by decide) ?_
      refine ok_call (s_S_run (g_self hG)) (fun r3 u4 q => ?_)
      obtain ⟨i1414, g1415⟩ := q
      have g1416 : G md_E_most w u4 := g_tr hG g1415 rfl
      refine ok_ite (fun h1417 => ?_) (fun h1418 => ?_)
      · exact ok_some ⟨by omega, g1416⟩
      · exact s_E_most_37 FU (by have := eqFU; omega) g1416 (by omega) (by omega) (by omega) (by omega)
theorem s_E_reach_100 {b : Wd} {k39 : Int → Int → Int → Int → Wd → Option (Int × Wd)} {Bk39 : Int} (hk39 : ∀ {w1 : Wd} {v1 v2 v3 v4 : Int}, ((3001 : Int) - v4) < Bk39 → G md_E_reach b w1 → ((0 : Int) ≤ v1 ∧ v1 ≤ 60) → ((0 : Int) ≤ v2 ∧ v2 ≤ 1023) → ((0 : Int) ≤ v3 ∧ v3 ≤ 1023) → ((0 : Int) ≤ v4 ∧ v4 ≤ 3000) → OK (k39 v1 v2 v3 v4 w1) (fun r u => ((-3 : Int) ≤ r ∧ r ≤ 1023) ∧ G md_E_reach b u)) {w : Wd} {v1 v2 v3 v4 : Int} (hG : G md_E_reach b w) (i_v1 : ((0 : Int) ≤ v1 ∧ v1 ≤ 60)) (i_v2 : ((0 : Int) ≤ v2 ∧ v2 ≤ 1023)) (i_v3 : ((0 : Int) ≤ v3 ∧ v3 ≤ 1023)) (i_v4 : ((0 : Int) ≤ v4 ∧ v4 ≤ 2999)) (hBk39 : ((3001 : Int) - v4) ≤ Bk39) : OK (f_E_reach_100 k39 v1 v2 v3 v4 w) (fun r u => ((-3 : Int) ≤ r ∧ r ≤ 1023) ∧ G md_E_reach b u) := by
  unfold f_E_reach_100
  have := w32_sp ((v4 + (1 : Int)))
  refine ok_let (fun x9 e1419 => ?_)
  have : (1 : Int) ≤ x9 ∧ x9 ≤ 3000 := by omega
  exact hk39 (by omega) hG (by omega) (by omega) (by omega) (by omega)
theorem s_E_reach_39 {b : Wd} : ∀ (n : Nat) {w : Wd} {v1 v2 v3 v4 : Int}, ((3001 : Int) - v4) < (n : Int) → G md_E_reach b w → ((0 : Int) ≤ v1 ∧ v1 ≤ 60) → ((0 : Int) ≤ v2 ∧ v2 ≤ 1023) → ((0 : Int) ≤ v3 ∧ v3 ≤ 1023) → ((0 : Int) ≤ v4 ∧ v4 ≤ 3000) → OK (f_E_reach_39 n v1 v2 v3 v4 w) (fun r u => ((-3 : Int) ≤ r ∧ r ≤ 1023) ∧ G md_E_reach b u) := by
  intro n
  induction n with
  | zero =>
    intro w v1 v2 v3 v4 hm hG i_v1 i_v2 i_v3 i_v4
    exfalso
    omega
  | succ n ih =>
    intro w v1 v2 v3 v4 hm hG i_v1 i_v2 i_v3 i_v4
    rw [f_E_reach_39]
    have : (0 : Int) ≤ (w 28 7) ∧ (w 28 7) ≤ 3000 := hG.1 28 7
    refine ok_ite (fun h1420 => ?_) (fun h1421 => ?_)
    · have := iand_l (x := v2) (y := v3) (by omega)
      have := iand_r (x := v2) (y := v3) (by omega)
      refine ok_call (s_N_tell1 (g_self hG) (by omega)) (fun r5 u6 q => ?_)
      obtain ⟨i1422, g1423⟩ := q
      have g1424 : G md_E_reach b u6 := g_tr hG g1423 rfl
      exact ok_some ⟨by omega, g1424⟩
    · refine ok_call (s_S_canBe (g_self hG) (by omega) (by omega)) (fun r7 u8 q => ?_)
      obtain ⟨i1425, g1426⟩ := q
      have g1427 : G md_E_reach b u8 := g_tr hG g1426 rfl
      refine ok_ite (fun h1428 => ?_) (fun h1429 => ?_)
      · exact s_E_reach_100 ih g1427 (by omega) (by omega) (by omega) (by omega) (by omega)
      · refine ok_call (s_S_guests (g_self g1427) (by omega)) (fun r10 u11 q => ?_)
        obtain ⟨i1430, g1431⟩ := q
        have g1432 : G md_E_reach b u11 := g_tr g1427 g1431 rfl
        refine ok_ite (fun h1433 => ?_) (fun h1434 => ?_)
        · exact s_E_reach_100 ih g1432 (by omega) (by omega) (by omega) (by omega) (by omega)
        · refine ok_call (s_S_guests (g_self g1432) (by omega)) (fun r12 u13 q => ?_)
          obtain ⟨i1435, g1436⟩ := q
          have g1437 : G md_E_reach b u13 := g_tr g1432 g1436 rfl
          have := ior_n 10 (x := v2) (y := r12) (m := 1023) (by decide) (by decide) (by omega) (by omega)
          refine ok_let (fun x14 e1438 => ?_)
          have : (0 : Int) ≤ x14 ∧ x14 ≤ 1023 := by omega
          refine ok_call (s_S_guests (g_self g1437) (by omega)) (fun r15 u16 q => ?_)
          obtain ⟨i1439, g1440⟩ := q
          have g1441 : G md_E_reach b u16 := g_tr g1437 g1440 rfl
          have := iand_l (x := v3) (y := r15) (by omega)
          have := iand_r (x := v3) (y := r15) (by omega)
          refine ok_let (fun x17 e1442 => ?_)
          have : (0 : Int) ≤ x17 ∧ x17 ≤ 1023 := by omega
          exact s_E_reach_100 ih g1441 (by omega) (by omega) (by omega) (by omega) (by omega)
theorem s_E_reach {w : Wd} {v1 : Int} (hG : G md_E_reach w w) (i_v1 : ((-2147483648 : Int) ≤ v1 ∧ v1 ≤ 2147483647)) : OK (f_E_reach v1 w) (fun r u => ((-3 : Int) ≤ r ∧ r ≤ 1023) ∧ G md_E_reach w u) := by
  unfold f_E_reach
  refine ok_jite (fun h1444 => ?_) (fun h1445 => ?_)
  · refine ok_jsome ?_
    refine ok_it (by decide) ?_
    exact ok_some ⟨by omega, hG⟩
  · refine ok_jite (fun h1446 => ?_) (fun h1447 => ?_)
    · refine ok_jsome ?_
      refine ok_it (by decide) ?_
      exact ok_some ⟨by omega, hG⟩
    · refine ok_jsome ?_
      refine ok_if (by decide) ?_
      refine ok_call (s_S_run (g_self hG)) (fun r3 u4 q => ?_)
      obtain ⟨i1448, g1449⟩ := q
      have g1450 : G md_E_reach w u4 := g_tr hG g1449 rfl
      refine ok_ite (fun h1451 => ?_) (fun h1452 => ?_)
      · exact ok_some ⟨by omega, g1450⟩
      · exact s_E_reach_39 FU (by have := eqFU; omega) g1450 (by omega) (by omega) (by omega) (by omega)
theorem s_E_less_10 {b : Wd} {w : Wd} {v1 : Int} (hG : G md_E_less b w) (i_v1 : ((-2147483648 : Int) ≤ v1 ∧ v1 ≤ 2147483647)) : OK (f_E_less_10 v1 w) (fun r u => ((-2147483648 : Int) ≤ r ∧ r ≤ 2147483647) ∧ G md_E_less b u) := by
  unfold f_E_less_10
  exact ok_some ⟨by omega, hG⟩
theorem s_E_less {w : Wd} {v0 v1 : Int} (hG : G md_E_less w w) (i_v0 : ((-2147483648 : Int) ≤ v0 ∧ v0 ≤ 2147483647)) (i_v1 : ((-2147483648 : Int) ≤ v1 ∧ v1 ≤ 2147483647)) : OK (f_E_less v0 v1 w) (fun r u => ((-2147483648 : Int) ≤ r ∧ r ≤ 2147483647) ∧ G md_E_less w u) := by
  unfold f_E_less
  refine ok_ite (fun h1453 => ?_) (fun h1454 => ?_)
  · exact s_E_less_10 hG (by omega)
  · refine ok_ite (fun h1455 => ?_) (fun h1456 => ?_)
    · exact ok_some ⟨by omega, hG⟩
    · exact s_E_less_10 hG (by omega)
theorem s_S_fewestGuests_42 {b : Wd} {k4 : Int → Int → Int → Wd → Option (Int × Wd)} {Bk4 : Int} (hk4 : ∀ {w1 : Wd} {v1 v2 v3 : Int}, ((3001 : Int) - v3) < Bk4 → G md_S_fewestGuests b w1 → ((0 : Int) ≤ v1 ∧ v1 ≤ 60) → ((-2147483648 : Int) ≤ v2 ∧ v2 ≤ 2147483647) → ((0 : Int) ≤ v3 ∧ v3 ≤ 3000) → OK (k4 v1 v2 v3 w1) (fun r u => ((-2147483648 : Int) ≤ r ∧ r ≤ 2147483647) ∧ G md_S_fewestGuests b u)) {w : Wd} {v1 v2 v3 : Int} (hG : G md_S_fewestGuests b w) (i_v1 : ((0 : Int) ≤ v1 ∧ v1 ≤ 60)) (i_v2 : ((-2147483648 : Int) ≤ v2 ∧ v2 ≤ 2147483647)) (i_v3 : ((0 : Int) ≤ v3 ∧ v3 ≤ 2999)) (hBk4 : ((3001 : Int) - v3) ≤ Bk4) : OK (f_S_fewestGuests_42 k4 v1 v2 v3 w) (fun r u => ((-2147483648 : Int) ≤ r ∧ r ≤ 2147483647) ∧ G md_S_fewestGuests b u) := by
  unfold f_S_fewestGuests_42
  have := w32_sp ((v3 + (1 : Int)))
  refine ok_let (fun x3 e1457 => ?_)
  have : (1 : Int) ≤ x3 ∧ x3 ≤ 3000 := by omega
  exact hk4 (by omega) hG (by omega) (by omega) (by omega)
theorem s_S_fewestGuests_4 {b : Wd} : ∀ (n : Nat) {w : Wd} {v1 v2 v3 : Int}, ((3001 : Int) - v3) < (n : Int) → G md_S_fewestGuests b w → ((0 : Int) ≤ v1 ∧ v1 ≤ 60) → ((-2147483648 : Int) ≤ v2 ∧ v2 ≤ 2147483647) → ((0 : Int) ≤ v3 ∧ v3 ≤ 3000) → OK (f_S_fewestGuests_4 n v1 v2 v3 w) (fun r u => ((-2147483648 : Int) ≤ r ∧ r ≤ 2147483647) ∧ G md_S_fewestGuests b u) := by
  intro n
  induction n with
  | zero =>
    intro w v1 v2 v3 hm hG i_v1 i_v2 i_v3
    exfalso
    omega
  | succ n ih =>
    intro w v1 v2 v3 hm hG i_v1 i_v2 i_v3
    rw [f_S_fewestGuests_4]
    have : (0 : Int) ≤ (w 28 7) ∧ (w 28 7) ≤ 3000 := hG.1 28 7
    have : (w 28 7) = (b 28 7) := hG.2.1 28 7 rfl
    refine ok_ite (fun h1458 => ?_) (fun h1459 => ?_)
    · exact ok_some ⟨by omega, hG⟩
    · refine ok_call (s_S_canBe (g_self hG) (by omega) (by omega)) (fun r1 u2 q => ?_)
      obtain ⟨i1460, g1461⟩ := q
      have g1462 : G md_S_fewestGuests b u2 := g_tr hG g1461 rfl
      refine ok_ite (fun h1463 => ?_) (fun h1464 => ?_)
      · exact s_S_fewestGuests_42 ih g1462 (by omega) (by omega) (by omega) (by omega)
      · refine ok_call (s_S_guests (g_self g1462) (by omega)) (fun r4 u5 q => ?_)
        obtain ⟨i1465, g1466⟩ := q
        have g1467 : G md_S_fewestGuests b u5 := g_tr g1462 g1466 rfl
        refine ok_ite (fun h1468 => ?_) (fun h1469 => ?_)
        · exact s_S_fewestGuests_42 ih g1467 (by omega) (by omega) (by omega) (by omega)
        · refine ok_call (s_S_guests (g_self g1467) (by omega)) (fun r6 u7 q => ?_)
          obtain ⟨i1470, g1471⟩ := q
          have g1472 : G md_S_fewestGuests b u7 := g_tr g1467 g1471 rfl
          refine ok_call (s_JI_bitCount (g_self g1472) (by omega)) (fun r8 u9 q => ?_)
          obtain ⟨i1473, g1474⟩ := q
          have g1475 : G md_S_fewestGuests b u9 := g_tr g1472 g1474 rfl
          refine ok_call (s_E_less (g_self g1475) (by omega) (by omega)) (fun r10 u11 q => ?_)
          obtain ⟨i1476, g1477⟩ := q
          have g1478 : G md_S_fewestGuests b u11 := g_tr g1475 g1477 rfl
          exact s_S_fewestGuests_42 ih g1478 (by omega) (by omega) (by omega) (by omega)
theorem s_S_fewestGuests {w : Wd} {v1 : Int} (hG : G md_S_fewestGuests w w) (i_v1 : ((0 : Int) ≤ v1 ∧ v1 ≤ 60)) : OK (f_S_fewestGuests v1 w) (fun r u => ((-2147483648 : Int) ≤ r ∧ r ≤ 2147483647) ∧ G md_S_fewestGuests w u) := by
  unfold f_S_fewestGuests
  exact s_S_fewestGuests_4 FU (by have := eqFU; omega) hG (by omega) (by omega) (by omega)
theorem s_E_fewest {w : Wd} {v1 : Int} (hG : G md_E_fewest w w) (i_v1 : ((-2147483648 : Int) ≤ v1 ∧ v1 ≤ 2147483647)) : OK (f_E_fewest v1 w) (fun r u => ((-2147483648 : Int) ≤ r ∧ r ≤ 2147483647) ∧ G md_E_fewest w u) := by
  unfold f_E_fewest
  refine ok_jite (fun h1480 => ?_) (fun h1481 => ?_)
  · refine ok_jsome ?_
    refine ok_it (by decide) ?_
    exact ok_some ⟨by omega, hG⟩
  · refine ok_jite (fun h1482 => ?_) (fun h1483 => ?_)
    · refine ok_jsome ?_
      refine ok_it (by decide) ?_
      exact ok_some ⟨by omega, hG⟩
    · refine ok_jsome ?_
      refine ok_if (by decide) ?_
      refine ok_call (s_S_run (g_self hG)) (fun r3 u4 q => ?_)
      obtain ⟨i1484, g1485⟩ := q
      have g1486 : G md_E_fewest w u4 := g_tr hG g1485 rfl
      refine ok_ite (fun h1487 => ?_) (fun h1488 => ?_)
      · exact ok_some ⟨by omega, g1486⟩
      · refine ok_call (s_S_fewestGuests (g_self g1486) (by omega)) (fun r5 u6 q => ?_)
        obtain ⟨i1489, g1490⟩ := q
        have g1491 : G md_E_fewest w u6 := g_tr g1486 g1490 rfl
        refine ok_ite (fun h1492 => ?_) (fun h1493 => ?_)
        · exact ok_some ⟨by omega, g1491⟩
        · exact ok_some ⟨by omega, g1491⟩
theorem s_E_firstWeek_2 {b : Wd} : ∀ (n : Nat) {w : Wd} {v0 v2 : Int}, ((62 : Int) - v2) < (n : Int) → G md_E_firstWeek b w → ((-9223372036854775808 : Int) ≤ v0 ∧ v0 ≤ 9223372036854775807) → ((0 : Int) ≤ v2 ∧ v2 ≤ 61) → OK (f_E_firstWeek_2 n v0 v2 w) (fun r u => ((-1 : Int) ≤ r ∧ r ≤ 60) ∧ G md_E_firstWeek b u) := by
  intro n
  induction n with
  | zero =>
    intro w v0 v2 hm hG i_v0 i_v2
    exfalso
    omega
  | succ n ih =>
    intro w v0 v2 hm hG i_v0 i_v2
    rw [f_E_firstWeek_2]
    refine ok_ite (fun h1494 => ?_) (fun h1495 => ?_)
    · exact ok_some ⟨by omega, hG⟩
    · have := lshr_rg v0 v2
      have := land_rg (lshr v0 v2) (1 : Int)
      have := lcmp_rg (land (lshr v0 v2) (1 : Int)) (0 : Int)
      refine ok_ite (fun h1496 => ?_) (fun h1497 => ?_)
      · have := w32_sp ((v2 + (1 : Int)))
        refine ok_let (fun x1 e1498 => ?_)
        have : (1 : Int) ≤ x1 ∧ x1 ≤ 61 := by omega
        exact ih (by omega) hG (by omega) (by omega)
      · exact ok_some ⟨by omega, hG⟩
theorem s_E_firstWeek {w : Wd} {v0 : Int} (hG : G md_E_firstWeek w w) (i_v0 : ((-9223372036854775808 : Int) ≤ v0 ∧ v0 ≤ 9223372036854775807)) : OK (f_E_firstWeek v0 w) (fun r u => ((-1 : Int) ≤ r ∧ r ≤ 60) ∧ G md_E_firstWeek w u) := by
  unfold f_E_firstWeek
  exact s_E_firstWeek_2 FU (by have := eqFU; omega) hG (by omega) (by omega)
theorem s_S_paidFor {w : Wd} {v1 : Int} (hG : G md_S_paidFor w w) (i_v1 : ((0 : Int) ≤ v1 ∧ v1 ≤ 2999)) : OK (f_S_paidFor v1 w) (fun r u => ((-2147483648 : Int) ≤ r ∧ r ≤ 2147483647) ∧ G md_S_paidFor w u) := by
  unfold f_S_paidFor
  refine ok_if (by omega) ?_
  have : (0 : Int) ≤ (w 28 7) ∧ (w 28 7) ≤ 3000 := hG.1 28 7
  refine ok_ite (fun h1499 => ?_) (fun h1500 => ?_)
  · exact ok_some ⟨by omega, hG⟩
  · refine ok_call (s_F_strangers (g_self hG)) (fun r1 u2 q => ?_)
    obtain ⟨i1501, g1502⟩ := q
    have g1503 : G md_S_paidFor w u2 := g_tr hG g1502 rfl
    refine ok_gd (by omega) ?_
    have : (-2147483648 : Int) ≤ (u2 30 (v1).toNat) ∧ (u2 30 (v1).toNat) ≤ 2147483647 := g1503.1 30 (v1).toNat
    refine ok_call (s_O_known (g_self g1503) (by omega)) (fun r3 u4 q => ?_)
    obtain ⟨i1504, g1505⟩ := q
    have g1506 : G md_S_paidFor w u4 := g_tr g1503 g1505 rfl
    have := iand_l (x := r1) (y := r3) (by omega)
    have := iand_r (x := r1) (y := r3) (by omega)
    refine ok_call (s_F_pricesOf (g_self g1506) (by omega)) (fun r5 u6 q => ?_)
    obtain ⟨i1507, g1508⟩ := q
    have g1509 : G md_S_paidFor w u6 := g_tr g1506 g1508 rfl
    exact ok_some ⟨by omega, g1509⟩
theorem s_E_crowd_154 {b : Wd} {k92 : Int → Int → Int → Int → Wd → Option (Int × Wd)} {Bk92 : Int} (hk92 : ∀ {w1 : Wd} {v1 v4 v5 v6 : Int}, ((3001 : Int) - v6) < Bk92 → G md_E_crowd b w1 → ((0 : Int) ≤ v1 ∧ v1 ≤ 63) → ((-1 : Int) ≤ v4 ∧ v4 ≤ 60) → ((-2147483648 : Int) ≤ v5 ∧ v5 ≤ 2147483647) → ((0 : Int) ≤ v6 ∧ v6 ≤ 3000) → OK (k92 v1 v4 v5 v6 w1) (fun r u => ((-3 : Int) ≤ r ∧ r ≤ 60) ∧ G md_E_crowd b u)) {w : Wd} {v1 v4 v5 v6 : Int} (hG : G md_E_crowd b w) (i_v1 : ((0 : Int) ≤ v1 ∧ v1 ≤ 63)) (i_v4 : ((-1 : Int) ≤ v4 ∧ v4 ≤ 60)) (i_v5 : ((-2147483648 : Int) ≤ v5 ∧ v5 ≤ 2147483647)) (i_v6 : ((0 : Int) ≤ v6 ∧ v6 ≤ 2999)) (hBk92 : ((3001 : Int) - v6) ≤ Bk92) : OK (f_E_crowd_154 k92 v1 v4 v5 v6 w) (fun r u => ((-3 : Int) ≤ r ∧ r ≤ 60) ∧ G md_E_crowd b u) := by
  unfold f_E_crowd_154
  have := w32_sp ((v6 + (1 : Int)))
  refine ok_let (fun x13 e1510 => ?_)
  have : (1 : Int) ≤ x13 ∧ x13 ≤ 3000 := by omega
  exact hk92 (by omega) hG (by omega) (by omega) (by omega) (by omega)
theorem s_E_crowd_92 {b : Wd} : ∀ (n : Nat) {w : Wd} {v1 v4 v5 v6 : Int}, ((3001 : Int) - v6) < (n : Int) → G md_E_crowd b w → ((0 : Int) ≤ v1 ∧ v1 ≤ 63) → ((-1 : Int) ≤ v4 ∧ v4 ≤ 60) → ((-2147483648 : Int) ≤ v5 ∧ v5 ≤ 2147483647) → ((0 : Int) ≤ v6 ∧ v6 ≤ 3000) → OK (f_E_crowd_92 n v1 v4 v5 v6 w) (fun r u => ((-3 : Int) ≤ r ∧ r ≤ 60) ∧ G md_E_crowd b u) := by
  intro n
  induction n with
  | zero =>
    intro w v1 v4 v5 v6 hm hG i_v1 i_v4 i_v5 i_v6
    exfalso
    omega
  | succ n ih =>
    intro w v1 v4 v5 v6 hm hG i_v1 i_v4 i_v5 i_v6
    rw [f_E_crowd_92]
    have : (0 : Int) ≤ (w 28 7) ∧ (w 28 7) ≤ 3000 := hG.1 28 7
    refine ok_ite (fun h1511 => ?_) (fun h1512 => ?_)
    · refine ok_call (s_N_tell2 (g_self hG) (by omega) (by omega)) (fun r7 u8 q => ?_)
      obtain ⟨i1513, g1514⟩ := q
      have g1515 : G md_E_crowd b u8 := g_tr hG g1514 rfl
      exact ok_some ⟨by omega, g1515⟩
    · refine ok_call (s_S_guests (g_self hG) (by omega)) (fun r9 u10 q => ?_)
      obtain ⟨i1516, g1517⟩ := q
      have g1518 : G md_E_crowd b u10 := g_tr hG g1517 rfl
      refine ok_call (s_JI_bitCount (g_self g1518) (by omega)) (fun r11 u12 q => ?_)
      obtain ⟨i1519, g1520⟩ := q
      have g1521 : G md_E_crowd b u12 := g_tr g1518 g1520 rfl
      refine ok_ite (fun h1522 => ?_) (fun h1523 => ?_)
      · refine ok_call (s_S_canBe (g_self g1521) (by omega) (by omega)) (fun r14 u15 q => ?_)
        obtain ⟨i1524, g1525⟩ := q
        have g1526 : G md_E_crowd b u15 := g_tr g1521 g1525 rfl
        refine ok_ite (fun h1527 => ?_) (fun h1528 => ?_)
        · exact s_E_crowd_154 ih g1526 (by omega) (by omega) (by omega) (by omega) (by omega)
        · refine ok_call (s_S_paidFor (g_self g1526) (by omega)) (fun r16 u17 q => ?_)
          obtain ⟨i1529, g1530⟩ := q
          have g1531 : G md_E_crowd b u17 := g_tr g1526 g1530 rfl
          refine ok_call (s_E_less (g_self g1531) (by omega) (by omega)) (fun r18 u19 q => ?_)
          obtain ⟨i1532, g1533⟩ := q
          have g1534 : G md_E_crowd b u19 := g_tr g1531 g1533 rfl
          exact s_E_crowd_154 ih g1534 (by omega) (by omega) (by omega) (by omega) (by omega)
      · exact s_E_crowd_154 ih g1521 (by omega) (by omega) (by omega) (by omega) (by omega)
theorem s_E_crowd_74 {b : Wd} {k34 : Int → Int → Int → Wd → Option (Int × Wd)} {Bk34 : Int} (hk34 : ∀ {w1 : Wd} {v1 v2 v4 : Int}, ((3001 : Int) - v4) < Bk34 → G md_E_crowd b w1 → ((0 : Int) ≤ v1 ∧ v1 ≤ 63) → ((-9223372036854775808 : Int) ≤ v2 ∧ v2 ≤ 9223372036854775807) → ((0 : Int) ≤ v4 ∧ v4 ≤ 3000) → OK (k34 v1 v2 v4 w1) (fun r u => ((-3 : Int) ≤ r ∧ r ≤ 60) ∧ G md_E_crowd b u)) {w : Wd} {v1 v2 v4 : Int} (hG : G md_E_crowd b w) (i_v1 : ((0 : Int) ≤ v1 ∧ v1 ≤ 63)) (i_v2 : ((-9223372036854775808 : Int) ≤ v2 ∧ v2 ≤ 9223372036854775807)) (i_v4 : ((0 : Int) ≤ v4 ∧ v4 ≤ 2999)) (hBk34 : ((3001 : Int) - v4) ≤ Bk34) : OK (f_E_crowd_74 k34 v1 v2 v4 w) (fun r u => ((-3 : Int) ≤ r ∧ r ≤ 60) ∧ G md_E_crowd b u) := by
  unfold f_E_crowd_74
  have := w32_sp ((v4 + (1 : Int)))
  refine ok_let (fun x24 e1535 => ?_)
  have : (1 : Int) ≤ x24 ∧ x24 ≤ 3000 := by omega
  exact hk34 (by omega) hG (by omega) (by omega) (by omega)
theorem s_E_crowd_34 {b : Wd} : ∀ (n : Nat) {w : Wd} {v1 v2 v4 : Int}, ((3001 : Int) - v4) < (n : Int) → G md_E_crowd b w → ((0 : Int) ≤ v1 ∧ v1 ≤ 63) → ((-9223372036854775808 : Int) ≤ v2 ∧ v2 ≤ 9223372036854775807) → ((0 : Int) ≤ v4 ∧ v4 ≤ 3000) → OK (f_E_crowd_34 n v1 v2 v4 w) (fun r u => ((-3 : Int) ≤ r ∧ r ≤ 60) ∧ G md_E_crowd b u) := by
  intro n
  induction n with
  | zero =>
    intro w v1 v2 v4 hm hG i_v1 i_v2 i_v4
    exfalso
    omega
  | succ n ih =>
    intro w v1 v2 v4 hm hG i_v1 i_v2 i_v4
    rw [f_E_crowd_34]
    have : (0 : Int) ≤ (w 28 7) ∧ (w 28 7) ≤ 3000 := hG.1 28 7
    refine ok_ite (fun h1536 => ?_) (fun h1537 => ?_)
    · refine ok_call (s_E_firstWeek (g_self hG) (by omega)) (fun r5 u6 q => ?_)
      obtain ⟨i1538, g1539⟩ := q
      have g1540 : G md_E_crowd b u6 := g_tr hG g1539 rfl
      exact s_E_crowd_92 FU (by have := eqFU; omega) g1540 (by omega) (by omega) (by omega) (by omega)
    · refine ok_call (s_S_guests (g_self hG) (by omega)) (fun r20 u21 q => ?_)
      obtain ⟨i1541, g1542⟩ := q
      have g1543 : G md_E_crowd b u21 := g_tr hG g1542 rfl
      refine ok_call (s_JI_bitCount (g_self g1543) (by omega)) (fun r22 u23 q => ?_)
      obtain ⟨i1544, g1545⟩ := q
      have g1546 : G md_E_crowd b u23 := g_tr g1543 g1545 rfl
      refine ok_ite (fun h1547 => ?_) (fun h1548 => ?_)
      · refine ok_call (s_S_weeksOf (g_self g1546) (by omega)) (fun r25 u26 q => ?_)
        obtain ⟨i1549, g1550⟩ := q
        have g1551 : G md_E_crowd b u26 := g_tr g1546 g1550 rfl
        have := lor_rg v2 r25
        refine ok_let (fun x27 e1552 => ?_)
        have : (-9223372036854775808 : Int) ≤ x27 ∧ x27 ≤ 9223372036854775807 := by omega
        exact s_E_crowd_74 ih g1551 (by omega) (by omega) (by omega) (by omega)
      · exact s_E_crowd_74 ih g1546 (by omega) (by omega) (by omega) (by omega)
theorem s_E_crowd {w : Wd} (hG : G md_E_crowd w w) : OK (f_E_crowd w) (fun r u => ((-3 : Int) ≤ r ∧ r ≤ 60) ∧ G md_E_crowd w u) := by
  unfold f_E_crowd
  refine ok_call (s_S_run (g_self hG)) (fun r1 u2 q => ?_)
  obtain ⟨i1553, g1554⟩ := q
  have g1555 : G md_E_crowd w u2 := g_tr hG g1554 rfl
  refine ok_ite (fun h1556 => ?_) (fun h1557 => ?_)
  · exact ok_some ⟨by omega, g1555⟩
  · refine ok_call (s_S_mostGuests (g_self g1555)) (fun r3 u4 q => ?_)
    obtain ⟨i1558, g1559⟩ := q
    have g1560 : G md_E_crowd w u4 := g_tr g1555 g1559 rfl
    exact s_E_crowd_34 FU (by have := eqFU; omega) g1560 (by omega) (by omega) (by omega)
theorem s_S_leastPaid_61 {b : Wd} {k6 : Int → Int → Int → Int → Wd → Option (Int × Wd)} {Bk6 : Int} (hk6 : ∀ {w1 : Wd} {v1 v2 v4 v5 : Int}, ((3001 : Int) - v5) < Bk6 → G md_S_leastPaid b w1 → ((0 : Int) ≤ v1 ∧ v1 ≤ 1023) → ((0 : Int) ≤ v2 ∧ v2 ≤ 60) → ((-2147483648 : Int) ≤ v4 ∧ v4 ≤ 2147483647) → ((0 : Int) ≤ v5 ∧ v5 ≤ 3000) → OK (k6 v1 v2 v4 v5 w1) (fun r u => ((-2147483648 : Int) ≤ r ∧ r ≤ 2147483647) ∧ G md_S_leastPaid b u)) {w : Wd} {v1 v2 v4 v5 : Int} (hG : G md_S_leastPaid b w) (i_v1 : ((0 : Int) ≤ v1 ∧ v1 ≤ 1023)) (i_v2 : ((0 : Int) ≤ v2 ∧ v2 ≤ 60)) (i_v4 : ((-2147483648 : Int) ≤ v4 ∧ v4 ≤ 2147483647)) (i_v5 : ((0 : Int) ≤ v5 ∧ v5 ≤ 2999)) (hBk6 : ((3001 : Int) - v5) ≤ Bk6) : OK (f_S_leastPaid_61 k6 v1 v2 v4 v5 w) (fun r u => ((-2147483648 : Int) ≤ r ∧ r ≤ 2147483647) ∧ G md_S_leastPaid b u) := by
  unfold f_S_leastPaid_61
  have := w32_sp ((v5 + (1 : Int)))
  refine ok_let (fun x3 e1561 => ?_)
  have : (1 : Int) ≤ x3 ∧ x3 ≤ 3000 := by omega
  exact hk6 (by omega) hG (by omega) (by omega) (by omega) (by omega)
theorem s_S_leastPaid_6 {b : Wd} : ∀ (n : Nat) {w : Wd} {v1 v2 v4 v5 : Int}, ((3001 : Int) - v5) < (n : Int) → G md_S_leastPaid b w → ((0 : Int) ≤ v1 ∧ v1 ≤ 1023) → ((0 : Int) ≤ v2 ∧ v2 ≤ 60) → ((-2147483648 : Int) ≤ v4 ∧ v4 ≤ 2147483647) → ((0 : Int) ≤ v5 ∧ v5 ≤ 3000) → OK (f_S_leastPaid_6 n v1 v2 v4 v5 w) (fun r u => ((-2147483648 : Int) ≤ r ∧ r ≤ 2147483647) ∧ G md_S_leastPaid b u) := by
  intro n
  induction n with
  | zero =>
    intro w v1 v2 v4 v5 hm hG i_v1 i_v2 i_v4 i_v5
    exfalso
    omega
  | succ n ih =>
    intro w v1 v2 v4 v5 hm hG i_v1 i_v2 i_v4 i_v5
    rw [f_S_leastPaid_6]
    have : (0 : Int) ≤ (w 28 7) ∧ (w 28 7) ≤ 3000 := hG.1 28 7
    have : (w 28 7) = (b 28 7) := hG.2.1 28 7 rfl
    refine ok_ite (fun h1562 => ?_) (fun h1563 => ?_)
    · exact ok_some ⟨by omega, hG⟩
    · refine ok_call (s_S_canBe (g_self hG) (by omega) (by omega)) (fun r1 u2 q => ?_)
      obtain ⟨i1564, g1565⟩ := q
      have g1566 : G md_S_leastPaid b u2 := g_tr hG g1565 rfl
      refine ok_ite (fun h1567 => ?_) (fun h1568 => ?_)
      · exact s_S_leastPaid_61 ih g1566 (by omega) (by omega) (by omega) (by omega) (by omega)
      · refine ok_call (s_S_guests (g_self g1566) (by omega)) (fun r4 u5 q => ?_)
        obtain ⟨i1569, g1570⟩ := q
        have g1571 : G md_S_leastPaid b u5 := g_tr g1566 g1570 rfl
        refine ok_ite (fun h1572 => ?_) (fun h1573 => ?_)
        · exact s_S_leastPaid_61 ih g1571 (by omega) (by omega) (by omega) (by omega) (by omega)
        · refine ok_call (s_S_guests (g_self g1571) (by omega)) (fun r6 u7 q => ?_)
          obtain ⟨i1574, g1575⟩ := q
          have g1576 : G md_S_leastPaid b u7 := g_tr g1571 g1575 rfl
          have := ixor_m1 (x := r6) (by omega)
          have := iand_l (x := v1) (y := (ixor r6 (-1 : Int))) (by omega)
          refine ok_ite (fun h1577 => ?_) (fun h1578 => ?_)
          · refine ok_call (s_S_paidFor (g_self g1576) (by omega)) (fun r8 u9 q => ?_)
            obtain ⟨i1579, g1580⟩ := q
            have g1581 : G md_S_leastPaid b u9 := g_tr g1576 g1580 rfl
            refine ok_call (s_E_less (g_self g1581) (by omega) (by omega)) (fun r10 u11 q => ?_)
            obtain ⟨i1582, g1583⟩ := q
            have g1584 : G md_S_leastPaid b u11 := g_tr g1581 g1583 rfl
            exact s_S_leastPaid_61 ih g1584 (by omega) (by omega) (by omega) (by omega) (by omega)
          · exact s_S_leastPaid_61 ih g1576 (by omega) (by omega) (by omega) (by omega) (by omega)
theorem s_S_leastPaid {w : Wd} {v1 v2 : Int} (hG : G md_S_leastPaid w w) (i_v1 : ((0 : Int) ≤ v1 ∧ v1 ≤ 1023)) (i_v2 : ((0 : Int) ≤ v2 ∧ v2 ≤ 60)) : OK (f_S_leastPaid v1 v2 w) (fun r u => ((-2147483648 : Int) ≤ r ∧ r ≤ 2147483647) ∧ G md_S_leastPaid w u) := by
  unfold f_S_leastPaid
  exact s_S_leastPaid_6 FU (by have := eqFU; omega) hG (by omega) (by omega) (by omega) (by omega)
theorem s_E_both {w : Wd} {v1 v2 v3 : Int} (hG : G md_E_both w w) (i_v1 : ((-2147483648 : Int) ≤ v1 ∧ v1 ≤ 2147483647)) (i_v2 : ((-2147483648 : Int) ≤ v2 ∧ v2 ≤ 2147483647)) (i_v3 : ((-2147483648 : Int) ≤ v3 ∧ v3 ≤ 2147483647)) : OK (f_E_both v1 v2 v3 w) (fun r u => ((-2147483648 : Int) ≤ r ∧ r ≤ 2147483647) ∧ G md_E_both w u) := by
  unfold f_E_both
  refine ok_jite (fun h1586 => ?_) (fun h1587 => ?_)
  · refine ok_jsome ?_
    refine ok_it (by decide) ?_
    exact ok_some ⟨by omega, hG⟩
  · refine ok_jj ?_
    refine ok_jite (fun h1589 => ?_) (fun h1590 => ?_)
    · refine ok_jsome ?_
      refine ok_jit (by decide) ?_
      refine ok_jsome ?_
      refine ok_it (by decide) ?_
      exact ok_some ⟨by omega, hG⟩
    · have : (0 : Int) ≤ (w 5 3) ∧ (w 5 3) ≤ 10 := hG.1 5 3
      refine ok_jite (fun h1591 => ?_) (fun h1592 => ?_)
      · refine ok_jsome ?_
        refine ok_jit (by decide) ?_
        refine ok_jsome ?_
        refine ok_it (by decide) ?_
        exact ok_some ⟨by omega, hG⟩
      · refine ok_jsome ?_
        refine ok_jif (by decide) ?_
        refine ok_jj ?_
        refine ok_jite (fun h1594 => ?_) (fun h1595 => ?_)
        · refine ok_jsome ?_
          refine ok_jit (by decide) ?_
          refine ok_jsome ?_
          refine ok_it (by decide) ?_
          exact ok_some ⟨by omega, hG⟩
        · refine ok_jite (fun h1596 => ?_) (fun h1597 => ?_)
          · refine ok_jsome ?_
            refine ok_jit (by decide) ?_
            refine ok_jsome ?_
            refine ok_it (by decide) ?_
            exact ok_some ⟨by omega, hG⟩
          · refine ok_jsome ?_
            refine ok_jif (by decide) ?_
            refine ok_jsome ?_
            refine ok_if (by decide) ?_
            refine ok_jite (fun h1599 => ?_) (fun h1600 => ?_)
            · refine ok_jsome ?_
              refine ok_it (by decide) ?_
              exact ok_some ⟨by omega, hG⟩
            · refine ok_jite (fun h1601 => ?_) (fun h1602 => ?_)
              · refine ok_jsome ?_
                refine ok_it (by decide) ?_
                exact ok_some ⟨by omega, hG⟩
              · refine ok_jsome ?_
                refine ok_if (by decide) ?_
                refine ok_call (s_S_run (g_self hG)) (fun r5 u6 q => ?_)
                obtain ⟨i1603, g1604⟩ := q
                have g1605 : G md_E_both w u6 := g_tr hG g1604 rfl
                refine ok_ite (fun h1606 => ?_) (fun h1607 => ?_)
                · exact ok_some ⟨by omega, g1605⟩
                · have := ishl1_n 9 (i := v1) (j := 9) (m := 512) (by decide) (by decide) (by decide) (by omega)
                  have := ishl1_n 9 (i := v2) (j := 9) (m := 512) (by decide) (by decide) (by decide) (by omega)
                  have := ior_n 10 (x := (ishl (1 : Int) v1)) (y := (ishl (1 : Int) v2)) (m := 1023) (by decide) (by decide) (by omega) (by omega)
                  refine ok_call (s_S_leastPaid (g_self g1605) (by omega) (by omega)) (fun r7 u8 q => ?_)
                  obtain ⟨i1608, g1609⟩ := q
                  have g1610 : G md_E_both w u8 := g_tr g1605 g1609 rfl
                  refine ok_ite (fun h1611 => ?_) (fun h1612 => ?_)
                  · exact ok_some ⟨by omega, g1610⟩
                  · exact ok_some ⟨by omega, g1610⟩
theorem s_S_weeksWith_61 {b : Wd} {k5 : Int → Int → Int → Int → Wd → Option (Int × Wd)} {Bk5 : Int} (hk5 : ∀ {w1 : Wd} {v1 v2 v3 v5 : Int}, ((3001 : Int) - v5) < Bk5 → G md_S_weeksWith b w1 → ((0 : Int) ≤ v1 ∧ v1 ≤ 512) → ((0 : Int) ≤ v2 ∧ v2 ≤ 512) → ((-9223372036854775808 : Int) ≤ v3 ∧ v3 ≤ 9223372036854775807) → ((0 : Int) ≤ v5 ∧ v5 ≤ 3000) → OK (k5 v1 v2 v3 v5 w1) (fun r u => ((-9223372036854775808 : Int) ≤ r ∧ r ≤ 9223372036854775807) ∧ G md_S_weeksWith b u)) {w : Wd} {v1 v2 v3 v5 : Int} (hG : G md_S_weeksWith b w) (i_v1 : ((0 : Int) ≤ v1 ∧ v1 ≤ 512)) (i_v2 : ((0 : Int) ≤ v2 ∧ v2 ≤ 512)) (i_v3 : ((-9223372036854775808 : Int) ≤ v3 ∧ v3 ≤ 9223372036854775807)) (i_v5 : ((0 : Int) ≤ v5 ∧ v5 ≤ 2999)) (hBk5 : ((3001 : Int) - v5) ≤ Bk5) : OK (f_S_weeksWith_61 k5 v1 v2 v3 v5 w) (fun r u => ((-9223372036854775808 : Int) ≤ r ∧ r ≤ 9223372036854775807) ∧ G md_S_weeksWith b u) := by
  unfold f_S_weeksWith_61
  have := w32_sp ((v5 + (1 : Int)))
  refine ok_let (fun x3 e1613 => ?_)
  have : (1 : Int) ≤ x3 ∧ x3 ≤ 3000 := by omega
  exact hk5 (by omega) hG (by omega) (by omega) (by omega) (by omega)
theorem s_S_weeksWith_5 {b : Wd} : ∀ (n : Nat) {w : Wd} {v1 v2 v3 v5 : Int}, ((3001 : Int) - v5) < (n : Int) → G md_S_weeksWith b w → ((0 : Int) ≤ v1 ∧ v1 ≤ 512) → ((0 : Int) ≤ v2 ∧ v2 ≤ 512) → ((-9223372036854775808 : Int) ≤ v3 ∧ v3 ≤ 9223372036854775807) → ((0 : Int) ≤ v5 ∧ v5 ≤ 3000) → OK (f_S_weeksWith_5 n v1 v2 v3 v5 w) (fun r u => ((-9223372036854775808 : Int) ≤ r ∧ r ≤ 9223372036854775807) ∧ G md_S_weeksWith b u) := by
  intro n
  induction n with
  | zero =>
    intro w v1 v2 v3 v5 hm hG i_v1 i_v2 i_v3 i_v5
    exfalso
    omega
  | succ n ih =>
    intro w v1 v2 v3 v5 hm hG i_v1 i_v2 i_v3 i_v5
    rw [f_S_weeksWith_5]
    have : (0 : Int) ≤ (w 28 7) ∧ (w 28 7) ≤ 3000 := hG.1 28 7
    have : (w 28 7) = (b 28 7) := hG.2.1 28 7 rfl
    refine ok_ite (fun h1614 => ?_) (fun h1615 => ?_)
    · exact ok_some ⟨by omega, hG⟩
    · refine ok_call (s_S_guests (g_self hG) (by omega)) (fun r1 u2 q => ?_)
      obtain ⟨i1616, g1617⟩ := q
      have g1618 : G md_S_weeksWith b u2 := g_tr hG g1617 rfl
      refine ok_ite (fun h1619 => ?_) (fun h1620 => ?_)
      · exact s_S_weeksWith_61 ih g1618 (by omega) (by omega) (by omega) (by omega) (by omega)
      · refine ok_call (s_S_guests (g_self g1618) (by omega)) (fun r4 u5 q => ?_)
        obtain ⟨i1621, g1622⟩ := q
        have g1623 : G md_S_weeksWith b u5 := g_tr g1618 g1622 rfl
        have := ixor_m1 (x := r4) (by omega)
        have := iand_l (x := v1) (y := (ixor r4 (-1 : Int))) (by omega)
        refine ok_ite (fun h1624 => ?_) (fun h1625 => ?_)
        · refine ok_gd (by omega) ?_
          have : (-2147483648 : Int) ≤ (u5 30 (v5).toNat) ∧ (u5 30 (v5).toNat) ≤ 2147483647 := g1623.1 30 (v5).toNat
          refine ok_call (s_O_known (g_self g1623) (by omega)) (fun r6 u7 q => ?_)
          obtain ⟨i1626, g1627⟩ := q
          have g1628 : G md_S_weeksWith b u7 := g_tr g1623 g1627 rfl
          have := iand_l (x := r6) (y := v2) (by omega)
          have := iand_r (x := r6) (y := v2) (by omega)
          refine ok_ite (fun h1629 => ?_) (fun h1630 => ?_)
          · refine ok_gd (by omega) ?_
            have : (-9223372036854775808 : Int) ≤ (u7 31 (v5).toNat) ∧ (u7 31 (v5).toNat) ≤ 9223372036854775807 := g1628.1 31 (v5).toNat
            have := lor_rg v3 (u7 31 (v5).toNat)
            refine ok_let (fun x8 e1631 => ?_)
            have : (-9223372036854775808 : Int) ≤ x8 ∧ x8 ≤ 9223372036854775807 := by omega
            exact s_S_weeksWith_61 ih g1628 (by omega) (by omega) (by omega) (by omega) (by omega)
          · exact s_S_weeksWith_61 ih g1628 (by omega) (by omega) (by omega) (by omega) (by omega)
        · exact s_S_weeksWith_61 ih g1623 (by omega) (by omega) (by omega) (by omega) (by omega)
theorem s_S_weeksWith {w : Wd} {v1 v2 : Int} (hG : G md_S_weeksWith w w) (i_v1 : ((0 : Int) ≤ v1 ∧ v1 ≤ 512)) (i_v2 : ((0 : Int) ≤ v2 ∧ v2 ≤ 512)) : OK (f_S_weeksWith v1 v2 w) (fun r u => ((-9223372036854775808 : Int) ≤ r ∧ r ≤ 9223372036854775807) ∧ G md_S_weeksWith w u) := by
  unfold f_S_weeksWith
  exact s_S_weeksWith_5 FU (by have := eqFU; omega) hG (by omega) (by omega) (by omega) (by omega)
theorem s_S_lastWeek_11 {b : Wd} : ∀ (n : Nat) {w : Wd} {v3 v5 : Int}, (v5 + (2 : Int)) < (n : Int) → G md_S_lastWeek b w → ((-9223372036854775808 : Int) ≤ v3 ∧ v3 ≤ 9223372036854775807) → ((-1 : Int) ≤ v5 ∧ v5 ≤ 60) → OK (f_S_lastWeek_11 n v3 v5 w) (fun r u => ((-1 : Int) ≤ r ∧ r ≤ 60) ∧ G md_S_lastWeek b u) := by
  intro n
  induction n with
  | zero =>
    intro w v3 v5 hm hG i_v3 i_v5
    exfalso
    omega
  | succ n ih =>
    intro w v3 v5 hm hG i_v3 i_v5
    rw [f_S_lastWeek_11]
    refine ok_ite (fun h1632 => ?_) (fun h1633 => ?_)
    · exact ok_some ⟨by omega, hG⟩
    · have := lshr_rg v3 v5
      have := land_rg (lshr v3 v5) (1 : Int)
      have := lcmp_rg (land (lshr v3 v5) (1 : Int)) (0 : Int)
      refine ok_ite (fun h1634 => ?_) (fun h1635 => ?_)
      · have := w32_sp ((v5 + (-1 : Int)))
        refine ok_let (fun x3 e1636 => ?_)
        have : (-1 : Int) ≤ x3 ∧ x3 ≤ 59 := by omega
        exact ih (by omega) hG (by omega) (by omega)
      · exact ok_some ⟨by omega, hG⟩
theorem s_S_lastWeek {w : Wd} {v1 v2 : Int} (hG : G md_S_lastWeek w w) (i_v1 : ((0 : Int) ≤ v1 ∧ v1 ≤ 512)) (i_v2 : ((0 : Int) ≤ v2 ∧ v2 ≤ 512)) : OK (f_S_lastWeek v1 v2 w) (fun r u => ((-1 : Int) ≤ r ∧ r ≤ 60) ∧ G md_S_lastWeek w u) := by
  unfold f_S_lastWeek
  refine ok_call (s_S_weeksWith (g_self hG) (by omega) (by omega)) (fun r1 u2 q => ?_)
  obtain ⟨i1637, g1638⟩ := q
  have g1639 : G md_S_lastWeek w u2 := g_tr hG g1638 rfl
  exact s_S_lastWeek_11 FU (by have := eqFU; omega) g1639 (by omega) (by omega)
theorem s_E_last {w : Wd} (hG : G md_E_last w w) : OK (f_E_last w) (fun r u => ((-3 : Int) ≤ r ∧ r ≤ 60) ∧ G md_E_last w u) := by
  unfold f_E_last
  refine ok_call (s_S_run (g_self hG)) (fun r1 u2 q => ?_)
  obtain ⟨i1640, g1641⟩ := q
  have g1642 : G md_E_last w u2 := g_tr hG g1641 rfl
  refine ok_ite (fun h1643 => ?_) (fun h1644 => ?_)
  · exact ok_some ⟨by omega, g1642⟩
  · refine ok_call (s_S_lastWeek (g_self g1642) (by omega) (by omega)) (fun r3 u4 q => ?_)
    obtain ⟨i1645, g1646⟩ := q
    have g1647 : G md_E_last w u4 := g_tr g1642 g1646 rfl
    refine ok_ite (fun h1648 => ?_) (fun h1649 => ?_)
    · exact ok_some ⟨by omega, g1647⟩
    · refine ok_call (s_S_fewestGuests (g_self g1647) (by omega)) (fun r5 u6 q => ?_)
      obtain ⟨i1650, g1651⟩ := q
      have g1652 : G md_E_last w u6 := g_tr g1647 g1651 rfl
      refine ok_call (s_N_tell1 (g_self g1652) (by omega)) (fun r7 u8 q => ?_)
      obtain ⟨i1653, g1654⟩ := q
      have g1655 : G md_E_last w u8 := g_tr g1652 g1654 rfl
      exact ok_some ⟨by omega, g1655⟩
theorem s_S_leftOf {w : Wd} {v1 : Int} (hG : G md_S_leftOf w w) (i_v1 : ((-2147483648 : Int) ≤ v1 ∧ v1 ≤ 2147483647)) : OK (f_S_leftOf v1 w) (fun r u => ((-9223372036854775808 : Int) ≤ r ∧ r ≤ 9223372036854775807) ∧ G md_S_leftOf w u) := by
  unfold f_S_leftOf
  refine ok_call (s_S_slotOf (g_self hG) (by omega)) (fun r1 u2 q => ?_)
  obtain ⟨i1656, g1657⟩ := q
  have g1658 : G md_S_leftOf w u2 := g_tr hG g1657 rfl
  refine ok_gd (by omega) ?_
  have : (0 : Int) ≤ (u2 29 (r1).toNat) ∧ (u2 29 (r1).toNat) ≤ 3000 := g1658.1 29 (r1).toNat
  have := w32_sp (((u2 29 (r1).toNat) - (1 : Int)))
  refine ok_let (fun x3 e1659 => ?_)
  have : (-1 : Int) ≤ x3 ∧ x3 ≤ 2999 := by omega
  refine ok_ite (fun h1660 => ?_) (fun h1661 => ?_)
  · exact ok_some ⟨by omega, g1658⟩
  · have : (0 : Int) ≤ (u2 28 7) ∧ (u2 28 7) ≤ 3000 := g1658.1 28 7
    have : (u2 28 7) = (w 28 7) := g1657.2.1 28 7 rfl
    have : (0 : Int) ≤ (w 28 7) ∧ (w 28 7) ≤ 3000 := hG.1 28 7
    refine ok_ite (fun h1662 => ?_) (fun h1663 => ?_)
    · exact ok_some ⟨by omega, g1658⟩
    · refine ok_gd (by omega) ?_
      have : (-9223372036854775808 : Int) ≤ (u2 32 (x3).toNat) ∧ (u2 32 (x3).toNat) ≤ 9223372036854775807 := g1658.1 32 (x3).toNat
      exact ok_some ⟨by omega, g1658⟩
theorem s_S_leftBehind_29 {b : Wd} : ∀ (n : Nat) {w : Wd} {v1 v4 v6 : Int}, ((257 : Int) - v6) < (n : Int) → G md_S_leftBehind b w → ((0 : Int) ≤ v1 ∧ v1 ≤ 2999) → ((-9223372036854775808 : Int) ≤ v4 ∧ v4 ≤ 9223372036854775807) → ((0 : Int) ≤ v6 ∧ v6 ≤ 256) → OK (f_S_leftBehind_29 n v1 v4 v6 w) (fun r u => ((-9223372036854775808 : Int) ≤ r ∧ r ≤ 9223372036854775807) ∧ G md_S_leftBehind b u) := by
  intro n
  induction n with
  | zero =>
    intro w v1 v4 v6 hm hG i_v1 i_v4 i_v6
    exfalso
    omega
  | succ n ih =>
    intro w v1 v4 v6 hm hG i_v1 i_v4 i_v6
    rw [f_S_leftBehind_29]
    have : (0 : Int) ≤ (w 24 3) ∧ (w 24 3) ≤ 256 := hG.1 24 3
    refine ok_ite (fun h1664 => ?_) (fun h1665 => ?_)
    · exact ok_some ⟨by omega, hG⟩
    · refine ok_gd (by omega) ?_
      refine ok_call (s_M_moversOf (g_self hG) (by omega)) (fun r5 u6 q => ?_)
      obtain ⟨i1666, g1667⟩ := q
      have g1668 : G md_S_leftBehind b u6 := g_tr hG g1667 rfl
      have : (-2147483648 : Int) ≤ (w 30 (v1).toNat) ∧ (w 30 (v1).toNat) ≤ 2147483647 := hG.1 30 (v1).toNat
      have : (0 : Int) ≤ (u6 5 7) ∧ (u6 5 7) ≤ 2147483647 := g1668.1 5 7
      have : (u6 5 7) = (w 5 7) := g1667.2.1 5 7 rfl
      have : (0 : Int) ≤ (w 5 7) ∧ (w 5 7) ≤ 2147483647 := hG.1 5 7
      have : (w 5 7) = (b 5 7) := hG.2.1 5 7 rfl
      refine ok_call (s_O_after (g_self g1668) (by omega) (by omega) (by omega)) (fun r7 u8 q => ?_)
      obtain ⟨i1669, g1670⟩ := q
      have g1671 : G md_S_leftBehind b u8 := g_tr g1668 g1670 rfl
      refine ok_call (s_S_leftOf (g_self g1671) (by omega)) (fun r9 u10 q => ?_)
      obtain ⟨i1672, g1673⟩ := q
      have g1674 : G md_S_leftBehind b u10 := g_tr g1671 g1673 rfl
      have := lor_rg v4 r9
      refine ok_let (fun x11 e1675 => ?_)
      have : (-9223372036854775808 : Int) ≤ x11 ∧ x11 ≤ 9223372036854775807 := by omega
      have := w32_sp ((v6 + (1 : Int)))
      refine ok_let (fun x12 e1676 => ?_)
      have : (1 : Int) ≤ x12 ∧ x12 ≤ 256 := by omega
      exact ih (by omega) g1674 (by omega) (by omega) (by omega)
theorem s_S_leftBehind {w : Wd} {v1 : Int} (hG : G md_S_leftBehind w w) (i_v1 : ((0 : Int) ≤ v1 ∧ v1 ≤ 2999)) : OK (f_S_leftBehind v1 w) (fun r u => ((-9223372036854775808 : Int) ≤ r ∧ r ≤ 9223372036854775807) ∧ G md_S_leftBehind w u) := by
  unfold f_S_leftBehind
  refine ok_call (s_S_guests (g_self hG) (by omega)) (fun r1 u2 q => ?_)
  obtain ⟨i1677, g1678⟩ := q
  have g1679 : G md_S_leftBehind w u2 := g_tr hG g1678 rfl
  refine ok_ite (fun h1680 => ?_) (fun h1681 => ?_)
  · exact ok_some ⟨by omega, g1679⟩
  · refine ok_gd (by omega) ?_
    have : (-2147483648 : Int) ≤ (u2 30 (v1).toNat) ∧ (u2 30 (v1).toNat) ≤ 2147483647 := g1679.1 30 (v1).toNat
    have : (0 : Int) ≤ (u2 5 8) ∧ (u2 5 8) ≤ 2147483647 := g1679.1 5 8
    have : (u2 5 8) = (w 5 8) := g1678.2.1 5 8 rfl
    have : (0 : Int) ≤ (w 5 8) ∧ (w 5 8) ≤ 2147483647 := hG.1 5 8
    refine ok_call (s_M_gather (g_self g1679) (by omega) (by omega)) (fun r3 u4 q => ?_)
    obtain ⟨i1682, g1683⟩ := q
    have g1684 : G md_S_leftBehind w u4 := g_tr g1679 g1683 rfl
    exact s_S_leftBehind_29 FU (by have := eqFU; omega) g1684 (by omega) (by omega) (by omega)
theorem s_S_lookBack_79 {b : Wd} {k8 : Int → Int → Int → Wd → Option (Int × Wd)} {Bk8 : Int} (hk8 : ∀ {w1 : Wd} {v3 v4 v5 : Int}, (v5 + (2 : Int)) < Bk8 → G md_S_lookBack b w1 → ((0 : Int) ≤ v3 ∧ v3 ≤ 512) → ((-2147483648 : Int) ≤ v4 ∧ v4 ≤ 2147483647) → ((-1 : Int) ≤ v5 ∧ v5 ≤ 2999) → OK (k8 v3 v4 v5 w1) (fun r u => ((0 : Int) ≤ r ∧ r ≤ 0) ∧ G md_S_lookBack b u)) {w : Wd} {v3 v4 v5 v6 s0 : Int} (hG : G md_S_lookBack b w) (i_v3 : ((0 : Int) ≤ v3 ∧ v3 ≤ 512)) (i_v4 : ((-2147483648 : Int) ≤ v4 ∧ v4 ≤ 2147483647)) (i_v5 : ((0 : Int) ≤ v5 ∧ v5 ≤ 2999)) (i_v6 : ((0 : Int) ≤ v6 ∧ v6 ≤ 2999)) (i_s0 : ((0 : Int) ≤ s0 ∧ s0 ≤ 1)) (hBk8 : (v5 + (2 : Int)) ≤ Bk8) : OK (f_S_lookBack_79 k8 v3 v4 v5 v6 s0 w) (fun r u => ((0 : Int) ≤ r ∧ r ≤ 0) ∧ G md_S_lookBack b u) := by
  unfold f_S_lookBack_79
  refine ok_call (s_S_leftBehind (g_self hG) (by omega)) (fun r5 u6 q => ?_)
  obtain ⟨i1685, g1686⟩ := q
  have g1687 : G md_S_lookBack b u6 := g_tr hG g1686 rfl
  refine ok_gd (by omega) ?_
  have := lshl_rg r5 (1 : Int)
  have := lor_rg s0 (lshl r5 (1 : Int))
  refine ok_lw (fun u7 e1688 => ?_)
  have g1689 : G md_S_lookBack b u7 := g_st g1687 e1688 rfl rfl (show (-9223372036854775808 : Int) ≤ (lor s0 (lshl r5 (1 : Int))) ∧ (lor s0 (lshl r5 (1 : Int))) ≤ 9223372036854775807 by omega)
  have := w32_sp ((v5 + (-1 : Int)))
  refine ok_let (fun x8 e1690 => ?_)
  have : (-1 : Int) ≤ x8 ∧ x8 ≤ 2998 := by omega
  exact hk8 (by omega) g1689 (by omega) (by omega) (by omega)
theorem s_S_lookBack_78 {b : Wd} {k8 : Int → Int → Int → Wd → Option (Int × Wd)} {Bk8 : Int} (hk8 : ∀ {w1 : Wd} {v3 v4 v5 : Int}, (v5 + (2 : Int)) < Bk8 → G md_S_lookBack b w1 → ((0 : Int) ≤ v3 ∧ v3 ≤ 512) → ((-2147483648 : Int) ≤ v4 ∧ v4 ≤ 2147483647) → ((-1 : Int) ≤ v5 ∧ v5 ≤ 2999) → OK (k8 v3 v4 v5 w1) (fun r u => ((0 : Int) ≤ r ∧ r ≤ 0) ∧ G md_S_lookBack b u)) {w : Wd} {v3 v4 v5 v6 : Int} (hG : G md_S_lookBack b w) (i_v3 : ((0 : Int) ≤ v3 ∧ v3 ≤ 512)) (i_v4 : ((-2147483648 : Int) ≤ v4 ∧ v4 ≤ 2147483647)) (i_v5 : ((0 : Int) ≤ v5 ∧ v5 ≤ 2999)) (i_v6 : ((0 : Int) ≤ v6 ∧ v6 ≤ 2999)) (hBk8 : (v5 + (2 : Int)) ≤ Bk8) : OK (f_S_lookBack_78 k8 v3 v4 v5 v6 w) (fun r u => ((0 : Int) ≤ r ∧ r ≤ 0) ∧ G md_S_lookBack b u) := by
  unfold f_S_lookBack_78
  exact s_S_lookBack_79 hk8 hG (by omega) (by omega) (by omega) (by omega) (by omega) (by omega)
theorem s_S_lookBack_74 {b : Wd} {k8 : Int → Int → Int → Wd → Option (Int × Wd)} {Bk8 : Int} (hk8 : ∀ {w1 : Wd} {v3 v4 v5 : Int}, (v5 + (2 : Int)) < Bk8 → G md_S_lookBack b w1 → ((0 : Int) ≤ v3 ∧ v3 ≤ 512) → ((-2147483648 : Int) ≤ v4 ∧ v4 ≤ 2147483647) → ((-1 : Int) ≤ v5 ∧ v5 ≤ 2999) → OK (k8 v3 v4 v5 w1) (fun r u => ((0 : Int) ≤ r ∧ r ≤ 0) ∧ G md_S_lookBack b u)) {w : Wd} {v3 v4 v5 v6 : Int} (hG : G md_S_lookBack b w) (i_v3 : ((0 : Int) ≤ v3 ∧ v3 ≤ 512)) (i_v4 : ((-2147483648 : Int) ≤ v4 ∧ v4 ≤ 2147483647)) (i_v5 : ((0 : Int) ≤ v5 ∧ v5 ≤ 2999)) (i_v6 : ((0 : Int) ≤ v6 ∧ v6 ≤ 2999)) (hBk8 : (v5 + (2 : Int)) ≤ Bk8) : OK (f_S_lookBack_74 k8 v3 v4 v5 v6 w) (fun r u => ((0 : Int) ≤ r ∧ r ≤ 0) ∧ G md_S_lookBack b u) := by
  unfold f_S_lookBack_74
  exact s_S_lookBack_79 hk8 hG (by omega) (by omega) (by omega) (by omega) (by omega) (by omega)
theorem s_S_lookBack_49 {b : Wd} {k8 : Int → Int → Int → Wd → Option (Int × Wd)} {Bk8 : Int} (hk8 : ∀ {w1 : Wd} {v3 v4 v5 : Int}, (v5 + (2 : Int)) < Bk8 → G md_S_lookBack b w1 → ((0 : Int) ≤ v3 ∧ v3 ≤ 512) → ((-2147483648 : Int) ≤ v4 ∧ v4 ≤ 2147483647) → ((-1 : Int) ≤ v5 ∧ v5 ≤ 2999) → OK (k8 v3 v4 v5 w1) (fun r u => ((0 : Int) ≤ r ∧ r ≤ 0) ∧ G md_S_lookBack b u)) {w : Wd} {v3 v4 v5 v6 s0 : Int} (hG : G md_S_lookBack b w) (i_v3 : ((0 : Int) ≤ v3 ∧ v3 ≤ 512)) (i_v4 : ((-2147483648 : Int) ≤ v4 ∧ v4 ≤ 2147483647)) (i_v5 : ((0 : Int) ≤ v5 ∧ v5 ≤ 2999)) (i_v6 : ((0 : Int) ≤ v6 ∧ v6 ≤ 2999)) (i_s0 : ((0 : Int) ≤ s0 ∧ s0 ≤ 1)) (hBk8 : (v5 + (2 : Int)) ≤ Bk8) : OK (f_S_lookBack_49 k8 v3 v4 v5 v6 s0 w) (fun r u => ((0 : Int) ≤ r ∧ r ≤ 0) ∧ G md_S_lookBack b u) := by
  unfold f_S_lookBack_49
  refine ok_ite (fun h1691 => ?_) (fun h1692 => ?_)
  · exact s_S_lookBack_78 hk8 hG (by omega) (by omega) (by omega) (by omega) (by omega)
  · refine ok_ite (fun h1693 => ?_) (fun h1694 => ?_)
    · exact s_S_lookBack_74 hk8 hG (by omega) (by omega) (by omega) (by omega) (by omega)
    · refine ok_call (s_S_paidFor (g_self hG) (by omega)) (fun r9 u10 q => ?_)
      obtain ⟨i1695, g1696⟩ := q
      have g1697 : G md_S_lookBack b u10 := g_tr hG g1696 rfl
      refine ok_ite (fun h1698 => ?_) (fun h1699 => ?_)
      · exact s_S_lookBack_74 hk8 g1697 (by omega) (by omega) (by omega) (by omega) (by omega)
      · exact s_S_lookBack_78 hk8 g1697 (by omega) (by omega) (by omega) (by omega) (by omega)
theorem s_S_lookBack_48 {b : Wd} {k8 : Int → Int → Int → Wd → Option (Int × Wd)} {Bk8 : Int} (hk8 : ∀ {w1 : Wd} {v3 v4 v5 : Int}, (v5 + (2 : Int)) < Bk8 → G md_S_lookBack b w1 → ((0 : Int) ≤ v3 ∧ v3 ≤ 512) → ((-2147483648 : Int) ≤ v4 ∧ v4 ≤ 2147483647) → ((-1 : Int) ≤ v5 ∧ v5 ≤ 2999) → OK (k8 v3 v4 v5 w1) (fun r u => ((0 : Int) ≤ r ∧ r ≤ 0) ∧ G md_S_lookBack b u)) {w : Wd} {v3 v4 v5 v6 : Int} (hG : G md_S_lookBack b w) (i_v3 : ((0 : Int) ≤ v3 ∧ v3 ≤ 512)) (i_v4 : ((-2147483648 : Int) ≤ v4 ∧ v4 ≤ 2147483647)) (i_v5 : ((0 : Int) ≤ v5 ∧ v5 ≤ 2999)) (i_v6 : ((0 : Int) ≤ v6 ∧ v6 ≤ 2999)) (hBk8 : (v5 + (2 : Int)) ≤ Bk8) : OK (f_S_lookBack_48 k8 v3 v4 v5 v6 w) (fun r u => ((0 : Int) ≤ r ∧ r ≤ 0) ∧ G md_S_lookBack b u) := by
  unfold f_S_lookBack_48
  exact s_S_lookBack_49 hk8 hG (by omega) (by omega) (by omega) (by omega) (by omega) (by omega)
theorem s_S_lookBack_8 {b : Wd} : ∀ (n : Nat) {w : Wd} {v3 v4 v5 : Int}, (v5 + (2 : Int)) < (n : Int) → G md_S_lookBack b w → ((0 : Int) ≤ v3 ∧ v3 ≤ 512) → ((-2147483648 : Int) ≤ v4 ∧ v4 ≤ 2147483647) → ((-1 : Int) ≤ v5 ∧ v5 ≤ 2999) → OK (f_S_lookBack_8 n v3 v4 v5 w) (fun r u => ((0 : Int) ≤ r ∧ r ≤ 0) ∧ G md_S_lookBack b u) := by
  intro n
  induction n with
  | zero =>
    intro w v3 v4 v5 hm hG i_v3 i_v4 i_v5
    exfalso
    omega
  | succ n ih =>
    intro w v3 v4 v5 hm hG i_v3 i_v4 i_v5
    rw [f_S_lookBack_8]
    refine ok_ite (fun h1700 => ?_) (fun h1701 => ?_)
    · exact ok_some ⟨by omega, hG⟩
    · refine ok_gd (by omega) ?_
      have : (0 : Int) ≤ (w 35 (v5).toNat) ∧ (w 35 (v5).toNat) ≤ 2999 := hG.1 35 (v5).toNat
      refine ok_let (fun x2 e1702 => ?_)
      have : (0 : Int) ≤ x2 ∧ x2 ≤ 2999 := by omega
      refine ok_call (s_S_guests (g_self hG) (by omega)) (fun r3 u4 q => ?_)
      obtain ⟨i1703, g1704⟩ := q
      have g1705 : G md_S_lookBack b u4 := g_tr hG g1704 rfl
      refine ok_ite (fun h1706 => ?_) (fun h1707 => ?_)
      · exact s_S_lookBack_48 ih g1705 (by omega) (by omega) (by omega) (by omega) (by omega)
      · refine ok_call (s_S_guests (g_self g1705) (by omega)) (fun r11 u12 q => ?_)
        obtain ⟨i1708, g1709⟩ := q
        have g1710 : G md_S_lookBack b u12 := g_tr g1705 g1709 rfl
        have := ixor_m1 (x := r11) (by omega)
        have := iand_l (x := v3) (y := (ixor r11 (-1 : Int))) (by omega)
        refine ok_ite (fun h1711 => ?_) (fun h1712 => ?_)
        · exact s_S_lookBack_49 ih g1710 (by omega) (by omega) (by omega) (by omega) (by omega) (by omega)
        · exact s_S_lookBack_48 ih g1710 (by omega) (by omega) (by omega) (by omega) (by omega)
theorem s_S_lookBack {w : Wd} {v3 v4 : Int} (hG : G md_S_lookBack w w) (i_v3 : ((0 : Int) ≤ v3 ∧ v3 ≤ 512)) (i_v4 : ((-2147483648 : Int) ≤ v4 ∧ v4 ≤ 2147483647)) : OK (f_S_lookBack v3 v4 w) (fun r u => ((0 : Int) ≤ r ∧ r ≤ 0) ∧ G md_S_lookBack w u) := by
  unfold f_S_lookBack
  have : (0 : Int) ≤ (w 28 8) ∧ (w 28 8) ≤ 3000 := hG.1 28 8
  have := w32_sp (((w 28 8) - (1 : Int)))
  refine ok_let (fun x1 e1713 => ?_)
  have : (-1 : Int) ≤ x1 ∧ x1 ≤ 2999 := by omega
  exact s_S_lookBack_8 FU (by have := eqFU; omega) hG (by omega) (by omega) (by omega)
theorem s_S_leads {w : Wd} {v1 v2 : Int} (hG : G md_S_leads w w) (i_v1 : ((-2147483648 : Int) ≤ v1 ∧ v1 ≤ 2147483647)) (i_v2 : ((0 : Int) ≤ v2 ∧ v2 ≤ 59)) : OK (f_S_leads v1 v2 w) (fun r u => ((0 : Int) ≤ r ∧ r ≤ 1) ∧ G md_S_leads w u) := by
  unfold f_S_leads
  refine ok_call (s_S_leftOf (g_self hG) (by omega)) (fun r1 u2 q => ?_)
  obtain ⟨i1714, g1715⟩ := q
  have g1716 : G md_S_leads w u2 := g_tr hG g1715 rfl
  have := lshr_rg r1 v2
  have := land_rg (lshr r1 v2) (1 : Int)
  have := lcmp_rg (land (lshr r1 v2) (1 : Int)) (0 : Int)
  refine ok_ite (fun h1717 => ?_) (fun h1718 => ?_)
  · exact ok_some ⟨by omega, g1716⟩
  · exact ok_some ⟨by omega, g1716⟩
theorem s_E_firstThatLeads_2 {b : Wd} : ∀ (n : Nat) {w : Wd} {v1 v2 : Int}, ((257 : Int) - v2) < (n : Int) → G md_E_firstThatLeads b w → ((1 : Int) ≤ v1 ∧ v1 ≤ 60) → ((0 : Int) ≤ v2 ∧ v2 ≤ 256) → OK (f_E_firstThatLeads_2 n v1 v2 w) (fun r u => ((-1 : Int) ≤ r ∧ r ≤ 255) ∧ G md_E_firstThatLeads b u) := by
  intro n
  induction n with
  | zero =>
    intro w v1 v2 hm hG i_v1 i_v2
    exfalso
    omega
  | succ n ih =>
    intro w v1 v2 hm hG i_v1 i_v2
    rw [f_E_firstThatLeads_2]
    have : (0 : Int) ≤ (w 24 3) ∧ (w 24 3) ≤ 256 := hG.1 24 3
    have : (w 24 3) = (b 24 3) := hG.2.1 24 3 rfl
    refine ok_ite (fun h1719 => ?_) (fun h1720 => ?_)
    · exact ok_some ⟨by omega, hG⟩
    · refine ok_call (s_M_moversOf (g_self hG) (by omega)) (fun r1 u2 q => ?_)
      obtain ⟨i1721, g1722⟩ := q
      have g1723 : G md_E_firstThatLeads b u2 := g_tr hG g1722 rfl
      have : (-2147483648 : Int) ≤ (w 5 4) ∧ (w 5 4) ≤ 2147483647 := hG.1 5 4
      have : (w 5 4) = (b 5 4) := hG.2.1 5 4 rfl
      have : (0 : Int) ≤ (u2 5 7) ∧ (u2 5 7) ≤ 2147483647 := g1723.1 5 7
      have : (u2 5 7) = (w 5 7) := g1722.2.1 5 7 rfl
      have : (0 : Int) ≤ (w 5 7) ∧ (w 5 7) ≤ 2147483647 := hG.1 5 7
      have : (w 5 7) = (b 5 7) := hG.2.1 5 7 rfl
      refine ok_call (s_O_after (g_self g1723) (by omega) (by omega) (by omega)) (fun r3 u4 q => ?_)
      obtain ⟨i1724, g1725⟩ := q
      have g1726 : G md_E_firstThatLeads b u4 := g_tr g1723 g1725 rfl
      have := w32_sp ((v1 - (1 : Int)))
      refine ok_call (s_S_leads (g_self g1726) (by omega) (by omega)) (fun r5 u6 q => ?_)
      obtain ⟨i1727, g1728⟩ := q
      have g1729 : G md_E_firstThatLeads b u6 := g_tr g1726 g1728 rfl
      refine ok_ite (fun h1730 => ?_) (fun h1731 => ?_)
      · have := w32_sp ((v2 + (1 : Int)))
        refine ok_let (fun x7 e1732 => ?_)
        have : (1 : Int) ≤ x7 ∧ x7 ≤ 256 := by omega
        exact ih (by omega) g1729 (by omega) (by omega)
      · exact ok_some ⟨by omega, g1729⟩
theorem s_E_firstThatLeads {w : Wd} {v1 : Int} (hG : G md_E_firstThatLeads w w) (i_v1 : ((1 : Int) ≤ v1 ∧ v1 ≤ 60)) : OK (f_E_firstThatLeads v1 w) (fun r u => ((-1 : Int) ≤ r ∧ r ≤ 255) ∧ G md_E_firstThatLeads w u) := by
  unfold f_E_firstThatLeads
  exact s_E_firstThatLeads_2 FU (by have := eqFU; omega) hG (by omega) (by omega)
theorem s_E_tellFirstWeek {w : Wd} {v1 : Int} (hG : G md_E_tellFirstWeek w w) (i_v1 : ((1 : Int) ≤ v1 ∧ v1 ≤ 60)) : OK (f_E_tellFirstWeek v1 w) (fun r u => ((0 : Int) ≤ r ∧ r ≤ 0) ∧ G md_E_tellFirstWeek w u) := by
  unfold f_E_tellFirstWeek
  have : (-2147483648 : Int) ≤ (w 5 4) ∧ (w 5 4) ≤ 2147483647 := hG.1 5 4
  have : (0 : Int) ≤ (w 5 8) ∧ (w 5 8) ≤ 2147483647 := hG.1 5 8
  refine ok_call (s_M_gather (g_self hG) (by omega) (by omega)) (fun r1 u2 q => ?_)
  obtain ⟨i1733, g1734⟩ := q
  have g1735 : G md_E_tellFirstWeek w u2 := g_tr hG g1734 rfl
  refine ok_call (s_E_firstThatLeads (g_self g1735) (by omega)) (fun r3 u4 q => ?_)
  obtain ⟨i1736, g1737⟩ := q
  have g1738 : G md_E_tellFirstWeek w u4 := g_tr g1735 g1737 rfl
  refine ok_ite (fun h1739 => ?_) (fun h1740 => ?_)
  · exact ok_some ⟨by omega, g1738⟩
  · refine ok_call (s_M_tellPairs (g_self g1738) (by omega)) (fun r5 u6 q => ?_)
    obtain ⟨i1741, g1742⟩ := q
    have g1743 : G md_E_tellFirstWeek w u6 := g_tr g1738 g1742 rfl
    exact ok_some ⟨by omega, g1743⟩
theorem s_E_begin {w : Wd} (hG : G md_E_begin w w) : OK (f_E_begin w) (fun r u => ((-3 : Int) ≤ r ∧ r ≤ 20) ∧ G md_E_begin w u) := by
  unfold f_E_begin
  refine ok_call (s_S_run (g_self hG)) (fun r1 u2 q => ?_)
  obtain ⟨i1744, g1745⟩ := q
  have g1746 : G md_E_begin w u2 := g_tr hG g1745 rfl
  refine ok_ite (fun h1747 => ?_) (fun h1748 => ?_)
  · exact ok_some ⟨by omega, g1746⟩
  · refine ok_call (s_S_lastWeek (g_self g1746) (by omega) (by omega)) (fun r3 u4 q => ?_)
    obtain ⟨i1749, g1750⟩ := q
    have g1751 : G md_E_begin w u4 := g_tr g1746 g1750 rfl
    refine ok_ite (fun h1752 => ?_) (fun h1753 => ?_)
    · refine ok_call (s_S_lookBack (g_self g1751) (by omega) (by omega)) (fun r5 u6 q => ?_)
      obtain ⟨i1754, g1755⟩ := q
      have g1756 : G md_E_begin w u6 := g_tr g1751 g1755 rfl
      refine ok_call (s_E_tellFirstWeek (g_self g1756) (by omega)) (fun r7 u8 q => ?_)
      obtain ⟨i1757, g1758⟩ := q
      have g1759 : G md_E_begin w u8 := g_tr g1756 g1758 rfl
      have : (0 : Int) ≤ (u8 3 1) ∧ (u8 3 1) ≤ 20 := g1759.1 3 1
      exact ok_some ⟨by omega, g1759⟩
    · exact ok_some ⟨by omega, g1751⟩
theorem s_E_cheap {w : Wd} {v1 : Int} (hG : G md_E_cheap w w) (i_v1 : ((-2147483648 : Int) ≤ v1 ∧ v1 ≤ 2147483647)) : OK (f_E_cheap v1 w) (fun r u => ((-2147483648 : Int) ≤ r ∧ r ≤ 2147483647) ∧ G md_E_cheap w u) := by
  unfold f_E_cheap
  refine ok_jite (fun h1761 => ?_) (fun h1762 => ?_)
  · refine ok_jsome ?_
    refine ok_it (by decide) ?_
    exact ok_some ⟨by omega, hG⟩
  · refine ok_jite (fun h1763 => ?_) (fun h1764 => ?_)
    · refine ok_jsome ?_
      refine ok_it (by decide) ?_
      exact ok_some ⟨by omega, hG⟩
    · refine ok_jsome ?_
      refine ok_if (by decide) ?_
      refine ok_call (s_S_run (g_self hG)) (fun r3 u4 q => ?_)
      obtain ⟨i1765, g1766⟩ := q
      have g1767 : G md_E_cheap w u4 := g_tr hG g1766 rfl
      refine ok_ite (fun h1768 => ?_) (fun h1769 => ?_)
      · exact ok_some ⟨by omega, g1767⟩
      · refine ok_call (s_S_leastPaid (g_self g1767) (by omega) (by omega)) (fun r5 u6 q => ?_)
        obtain ⟨i1770, g1771⟩ := q
        have g1772 : G md_E_cheap w u6 := g_tr g1767 g1771 rfl
        refine ok_ite (fun h1773 => ?_) (fun h1774 => ?_)
        · exact ok_some ⟨by omega, g1772⟩
        · refine ok_ite (fun h1775 => ?_) (fun h1776 => ?_)
          · refine ok_call (s_N_clear (g_self g1772)) (fun r11 u12 q => ?_)
            obtain ⟨i1777, g1778⟩ := q
            have g1779 : G md_E_cheap w u12 := g_tr g1772 g1778 rfl
            exact ok_some ⟨by omega, g1779⟩
          · refine ok_call (s_S_lookBack (g_self g1772) (by omega) (by omega)) (fun r7 u8 q => ?_)
            obtain ⟨i1780, g1781⟩ := q
            have g1782 : G md_E_cheap w u8 := g_tr g1772 g1781 rfl
            refine ok_call (s_E_tellFirstWeek (g_self g1782) (by omega)) (fun r9 u10 q => ?_)
            obtain ⟨i1783, g1784⟩ := q
            have g1785 : G md_E_cheap w u10 := g_tr g1782 g1784 rfl
            exact ok_some ⟨by omega, g1785⟩
theorem s_M_gatherBehind_34 {b : Wd} {w : Wd} {v3 : Int} (hG : G md_M_gatherBehind b w) (i_v3 : ((0 : Int) ≤ v3 ∧ v3 ≤ 1023)) (a_0 : ((w 24 5) = (6 : Int))) : OK (f_M_gatherBehind_34 v3 w) (fun r u => ((0 : Int) ≤ r ∧ r ≤ 0) ∧ G md_M_gatherBehind b u) := by
  unfold f_M_gatherBehind_34
  have : (0 : Int) ≤ (w 24 5) ∧ (w 24 5) ≤ 6 := hG.1 24 5
  refine ok_call (s_M_spread 16 (by omega) (g_self hG) (by omega) (by omega) (by omega) (by omega)) (fun r3 u4 q => ?_)
  obtain ⟨i1786, g1787, p1789⟩ := q
  have g1788 : G md_M_gatherBehind b u4 := g_tr hG g1787 rfl
  have : (0 : Int) ≤ (u4 24 5) ∧ (u4 24 5) ≤ 6 := g1788.1 24 5
  have : (u4 24 5) = (w 24 5) := g1787.2.1 24 5 rfl
  exact ok_some ⟨by omega, g1788⟩
theorem s_M_gatherBehind {w : Wd} {v2 v3 : Int} (hG : G md_M_gatherBehind w w) (i_v2 : ((0 : Int) ≤ v2 ∧ v2 ≤ 1023)) (i_v3 : ((0 : Int) ≤ v3 ∧ v3 ≤ 1023)) : OK (f_M_gatherBehind v2 v3 w) (fun r u => ((0 : Int) ≤ r ∧ r ≤ 0) ∧ G md_M_gatherBehind w u) := by
  unfold f_M_gatherBehind
  have : (-2147483648 : Int) ≤ (w 5 4) ∧ (w 5 4) ≤ 2147483647 := hG.1 5 4
  have : (0 : Int) ≤ (w 5 8) ∧ (w 5 8) ≤ 2147483647 := hG.1 5 8
  refine ok_call (s_M_prepare (g_self hG) (by omega) (by omega) (by omega)) (fun r1 u2 q => ?_)
  obtain ⟨i1790, g1791, p1793⟩ := q
  have g1792 : G md_M_gatherBehind w u2 := g_tr hG g1791 rfl
  have : (0 : Int) ≤ (u2 24 5) ∧ (u2 24 5) ≤ 6 := g1792.1 24 5
  refine ok_ite (fun h1794 => ?_) (fun h1795 => ?_)
  · exact s_M_gatherBehind_34 g1792 (by omega) (by omega)
  · have : (0 : Int) ≤ (u2 24 8) ∧ (u2 24 8) ≤ 1023 := g1792.1 24 8
    have := ior_n 10 (x := (u2 24 8)) (y := v3) (m := 1023) (by decide) (by decide) (by omega) (by omega)
    refine ok_call (s_JI_bitCount (g_self g1792) (by omega)) (fun r5 u6 q => ?_)
    obtain ⟨i1796, g1797⟩ := q
    have g1798 : G md_M_gatherBehind w u6 := g_tr g1792 g1797 rfl
    have : (0 : Int) ≤ (u6 24 9) ∧ (u6 24 9) ≤ 2147483647 := g1798.1 24 9
    have : (u6 24 9) = (u2 24 9) := g1797.2.1 24 9 rfl
    have : (0 : Int) ≤ (u2 24 9) ∧ (u2 24 9) ≤ 2147483647 := g1792.1 24 9
    refine ok_ite (fun h1799 => ?_) (fun h1800 => ?_)
    · exact ok_some ⟨by omega, g1798⟩
    · have : (0 : Int) ≤ (u6 24 5) ∧ (u6 24 5) ≤ 6 := g1798.1 24 5
      have : (u6 24 5) = (u2 24 5) := g1797.2.1 24 5 rfl
      exact s_M_gatherBehind_34 g1798 (by omega) (by omega)
theorem s_E_firstToBring_111 {b : Wd} {k41 : Int → Int → Int → Int → Wd → Option (Int × Wd)} {Bk41 : Int} (hk41 : ∀ {w1 : Wd} {v1 v2 v3 v4 : Int}, ((11 : Int) - v4) < Bk41 → G md_E_firstToBring b w1 → ((0 : Int) ≤ v1 ∧ v1 ≤ 9) → ((1 : Int) ≤ v2 ∧ v2 ≤ 60) → ((0 : Int) ≤ v3 ∧ v3 ≤ 1023) → ((0 : Int) ≤ v4 ∧ v4 ≤ 10) → OK (k41 v1 v2 v3 v4 w1) (fun r u => ((-1 : Int) ≤ r ∧ r ≤ 9) ∧ G md_E_firstToBring b u)) {w : Wd} {v1 v2 v3 v4 : Int} (hG : G md_E_firstToBring b w) (i_v1 : ((0 : Int) ≤ v1 ∧ v1 ≤ 9)) (i_v2 : ((1 : Int) ≤ v2 ∧ v2 ≤ 60)) (i_v3 : ((0 : Int) ≤ v3 ∧ v3 ≤ 1023)) (i_v4 : ((0 : Int) ≤ v4 ∧ v4 ≤ 9)) (hBk41 : ((11 : Int) - v4) ≤ Bk41) : OK (f_E_firstToBring_111 k41 v1 v2 v3 v4 w) (fun r u => ((-1 : Int) ≤ r ∧ r ≤ 9) ∧ G md_E_firstToBring b u) := by
  unfold f_E_firstToBring_111
  have := w32_sp ((v4 + (1 : Int)))
  refine ok_let (fun x14 e1801 => ?_)
  have : (1 : Int) ≤ x14 ∧ x14 ≤ 10 := by omega
  exact hk41 (by omega) hG (by omega) (by omega) (by omega) (by omega)
theorem s_E_firstToBring_41 {b : Wd} : ∀ (n : Nat) {w : Wd} {v1 v2 v3 v4 : Int}, ((11 : Int) - v4) < (n : Int) → G md_E_firstToBring b w → ((0 : Int) ≤ v1 ∧ v1 ≤ 9) → ((1 : Int) ≤ v2 ∧ v2 ≤ 60) → ((0 : Int) ≤ v3 ∧ v3 ≤ 1023) → ((0 : Int) ≤ v4 ∧ v4 ≤ 10) → OK (f_E_firstToBring_41 n v1 v2 v3 v4 w) (fun r u => ((-1 : Int) ≤ r ∧ r ≤ 9) ∧ G md_E_firstToBring b u) := by
  intro n
  induction n with
  | zero =>
    intro w v1 v2 v3 v4 hm hG i_v1 i_v2 i_v3 i_v4
    exfalso
    omega
  | succ n ih =>
    intro w v1 v2 v3 v4 hm hG i_v1 i_v2 i_v3 i_v4
    rw [f_E_firstToBring_41]
    have : (0 : Int) ≤ (w 5 3) ∧ (w 5 3) ≤ 10 := hG.1 5 3
    have : (w 5 3) = (b 5 3) := hG.2.1 5 3 rfl
    refine ok_ite (fun h1802 => ?_) (fun h1803 => ?_)
    · exact ok_some ⟨by omega, hG⟩
    · have := ishl1_n 9 (i := v1) (j := 9) (m := 512) (by decide) (by decide) (by decide) (by omega)
      refine ok_call (s_F_knownBy (g_self hG) (by omega)) (fun r8 u9 q => ?_)
      obtain ⟨i1804, g1805⟩ := q
      have g1806 : G md_E_firstToBring b u9 := g_tr hG g1805 rfl
      refine ok_call (s_F_free (g_self g1806)) (fun r10 u11 q => ?_)
      obtain ⟨i1807, g1808⟩ := q
      have g1809 : G md_E_firstToBring b u11 := g_tr g1806 g1808 rfl
      refine ok_jif (by omega) ?_
      refine ok_jif (by omega) ?_
      have := iand_r (x := r8) (y := r10) (by omega)
      have := ishr_nn (x := (iand r8 r10)) (y := v4) (by omega)
      have := iand_l (x := (ishr (iand r8 r10) v4)) (y := (1 : Int)) (by omega)
      have := iand_r (x := (ishr (iand r8 r10) v4)) (y := (1 : Int)) (by omega)
      refine ok_jite (fun h1811 => ?_) (fun h1812 => ?_)
      · refine ok_jsome ?_
        refine ok_it (by decide) ?_
        exact s_E_firstToBring_111 ih g1809 (by omega) (by omega) (by omega) (by omega) (by omega)
      · refine ok_jsome ?_
        refine ok_if (by decide) ?_
        have := ishl1_n 9 (i := v4) (j := 9) (m := 512) (by decide) (by decide) (by decide) (by omega)
        have := ior_n 10 (x := (ishl (1 : Int) v1)) (y := (ishl (1 : Int) v4)) (m := 1023) (by decide) (by decide) (by omega) (by omega)
        refine ok_call (s_M_gatherBehind (g_self g1809) (by omega) (by omega)) (fun r15 u16 q => ?_)
        obtain ⟨i1813, g1814⟩ := q
        have g1815 : G md_E_firstToBring b u16 := g_tr g1809 g1814 rfl
        refine ok_call (s_E_firstThatLeads (g_self g1815) (by omega)) (fun r17 u18 q => ?_)
        obtain ⟨i1816, g1817⟩ := q
        have g1818 : G md_E_firstToBring b u18 := g_tr g1815 g1817 rfl
        refine ok_ite (fun h1819 => ?_) (fun h1820 => ?_)
        · exact s_E_firstToBring_111 ih g1818 (by omega) (by omega) (by omega) (by omega) (by omega)
        · exact ok_some ⟨by omega, g1818⟩
theorem s_E_firstToBring {w : Wd} {v1 v2 : Int} (hG : G md_E_firstToBring w w) (i_v1 : ((0 : Int) ≤ v1 ∧ v1 ≤ 9)) (i_v2 : ((1 : Int) ≤ v2 ∧ v2 ≤ 60)) : OK (f_E_firstToBring v1 v2 w) (fun r u => ((-1 : Int) ≤ r ∧ r ≤ 9) ∧ G md_E_firstToBring w u) := by
  unfold f_E_firstToBring
  refine ok_call (s_F_guests (g_self hG)) (fun r1 u2 q => ?_)
  obtain ⟨i1821, g1822⟩ := q
  have g1823 : G md_E_firstToBring w u2 := g_tr hG g1822 rfl
  have := ishl1_n 9 (i := v1) (j := 9) (m := 512) (by decide) (by decide) (by decide) (by omega)
  have := ixor_m1 (x := (ishl (1 : Int) v1)) (by omega)
  have := iand_l (x := r1) (y := (ixor (ishl (1 : Int) v1) (-1 : Int))) (by omega)
  refine ok_let (fun x3 e1824 => ?_)
  have : (0 : Int) ≤ x3 ∧ x3 ≤ 1023 := by omega
  refine ok_call (s_M_gatherBehind (g_self g1823) (by omega) (by omega)) (fun r4 u5 q => ?_)
  obtain ⟨i1825, g1826⟩ := q
  have g1827 : G md_E_firstToBring w u5 := g_tr g1823 g1826 rfl
  refine ok_call (s_E_firstThatLeads (g_self g1827) (by omega)) (fun r6 u7 q => ?_)
  obtain ⟨i1828, g1829⟩ := q
  have g1830 : G md_E_firstToBring w u7 := g_tr g1827 g1829 rfl
  refine ok_ite (fun h1831 => ?_) (fun h1832 => ?_)
  · exact s_E_firstToBring_41 FU (by have := eqFU; omega) g1830 (by omega) (by omega) (by omega) (by omega)
  · exact ok_some ⟨by omega, g1830⟩
theorem s_E_stays_95 {b : Wd} {w : Wd} {v2 v3 : Int} (hG : G md_E_stays b w) (i_v2 : ((-1 : Int) ≤ v2 ∧ v2 ≤ 60)) (i_v3 : ((-1 : Int) ≤ v3 ∧ v3 ≤ 9)) : OK (f_E_stays_95 v2 v3 w) (fun r u => ((-3 : Int) ≤ r ∧ r ≤ 60) ∧ G md_E_stays b u) := by
  unfold f_E_stays_95
  refine ok_call (s_N_tell1 (g_self hG) (by omega)) (fun r11 u12 q => ?_)
  obtain ⟨i1833, g1834⟩ := q
  have g1835 : G md_E_stays b u12 := g_tr hG g1834 rfl
  exact ok_some ⟨by omega, g1835⟩
theorem s_E_stays {w : Wd} {v1 : Int} (hG : G md_E_stays w w) (i_v1 : ((-2147483648 : Int) ≤ v1 ∧ v1 ≤ 2147483647)) : OK (f_E_stays v1 w) (fun r u => ((-3 : Int) ≤ r ∧ r ≤ 60) ∧ G md_E_stays w u) := by
  unfold f_E_stays
  refine ok_jite (fun h1837 => ?_) (fun h1838 => ?_)
  · refine ok_jsome ?_
    refine ok_it (by decide) ?_
    exact ok_some ⟨by omega, hG⟩
  · have : (0 : Int) ≤ (w 5 3) ∧ (w 5 3) ≤ 10 := hG.1 5 3
    refine ok_jite (fun h1839 => ?_) (fun h1840 => ?_)
    · refine ok_jsome ?_
      refine ok_it (by decide) ?_
      exact ok_some ⟨by omega, hG⟩
    · refine ok_jsome ?_
      refine ok_if (by decide) ?_
      refine ok_call (s_S_run (g_self hG)) (fun r3 u4 q => ?_)
      obtain ⟨i1841, g1842⟩ := q
      have g1843 : G md_E_stays w u4 := g_tr hG g1842 rfl
      refine ok_ite (fun h1844 => ?_) (fun h1845 => ?_)
      · exact ok_some ⟨by omega, g1843⟩
      · refine ok_call (s_F_guests (g_self g1843)) (fun r5 u6 q => ?_)
        obtain ⟨i1846, g1847⟩ := q
        have g1848 : G md_E_stays w u6 := g_tr g1843 g1847 rfl
        refine ok_jif (by omega) ?_
        refine ok_jif (by omega) ?_
        have := ishr_nn (x := r5) (y := v1) (by omega)
        have := iand_l (x := (ishr r5 v1)) (y := (1 : Int)) (by omega)
        have := iand_r (x := (ishr r5 v1)) (y := (1 : Int)) (by omega)
        refine ok_jite (fun h1850 => ?_) (fun h1851 => ?_)
        · refine ok_jsome ?_
          refine ok_it (by decide) ?_
          exact ok_some ⟨by omega, g1848⟩
        · refine ok_jsome ?_
          refine ok_if (by decide) ?_
          have := ishl1_n 9 (i := v1) (j := 9) (m := 512) (by decide) (by decide) (by decide) (by omega)
          refine ok_call (s_S_lastWeek (g_self g1848) (by omega) (by omega)) (fun r9 u10 q => ?_)
          obtain ⟨i1852, g1853⟩ := q
          have g1854 : G md_E_stays w u10 := g_tr g1848 g1853 rfl
          refine ok_ite (fun h1855 => ?_) (fun h1856 => ?_)
          · exact s_E_stays_95 g1854 (by omega) (by omega)
          · refine ok_call (s_S_lookBack (g_self g1854) (by omega) (by omega)) (fun r13 u14 q => ?_)
            obtain ⟨i1857, g1858⟩ := q
            have g1859 : G md_E_stays w u14 := g_tr g1854 g1858 rfl
            refine ok_call (s_E_firstToBring (g_self g1859) (by omega) (by omega)) (fun r15 u16 q => ?_)
            obtain ⟨i1860, g1861⟩ := q
            have g1862 : G md_E_stays w u16 := g_tr g1859 g1861 rfl
            exact s_E_stays_95 g1862 (by omega) (by omega)
theorem s_E_soonest {w : Wd} {v1 : Int} (hG : G md_E_soonest w w) (i_v1 : ((-2147483648 : Int) ≤ v1 ∧ v1 ≤ 2147483647)) : OK (f_E_soonest v1 w) (fun r u => ((-3 : Int) ≤ r ∧ r ≤ 60) ∧ G md_E_soonest w u) := by
  unfold f_E_soonest
  refine ok_jite (fun h1864 => ?_) (fun h1865 => ?_)
  · refine ok_jsome ?_
    refine ok_it (by decide) ?_
    exact ok_some ⟨by omega, hG⟩
  · have : (0 : Int) ≤ (w 5 3) ∧ (w 5 3) ≤ 10 := hG.1 5 3
    refine ok_jite (fun h1866 => ?_) (fun h1867 => ?_)
    · refine ok_jsome ?_
      refine ok_it (by decide) ?_
      exact ok_some ⟨by omega, hG⟩
    · refine ok_jsome ?_
      refine ok_if (by decide) ?_
      refine ok_call (s_S_run (g_self hG)) (fun r3 u4 q => ?_)
      obtain ⟨i1868, g1869⟩ := q
      have g1870 : G md_E_soonest w u4 := g_tr hG g1869 rfl
      refine ok_ite (fun h1871 => ?_) (fun h1872 => ?_)
      · exact ok_some ⟨by omega, g1870⟩
      · have := ishl1_n 9 (i := v1) (j := 9) (m := 512) (by decide) (by decide) (by decide) (by omega)
        refine ok_call (s_S_weeksWith (g_self g1870) (by omega) (by omega)) (fun r5 u6 q => ?_)
        obtain ⟨i1873, g1874⟩ := q
        have g1875 : G md_E_soonest w u6 := g_tr g1870 g1874 rfl
        refine ok_call (s_E_firstWeek (g_self g1875) (by omega)) (fun r7 u8 q => ?_)
        obtain ⟨i1876, g1877⟩ := q
        have g1878 : G md_E_soonest w u8 := g_tr g1875 g1877 rfl
        refine ok_ite (fun h1879 => ?_) (fun h1880 => ?_)
        · exact ok_some ⟨by omega, g1878⟩
        · exact ok_some ⟨by omega, g1878⟩
theorem s_E_worth {w : Wd} {v1 : Int} (hG : G md_E_worth w w) (i_v1 : ((-2147483648 : Int) ≤ v1 ∧ v1 ≤ 2147483647)) : OK (f_E_worth v1 w) (fun r u => ((-81 : Int) ≤ r ∧ r ≤ 61) ∧ G md_E_worth w u) := by
  unfold f_E_worth
  refine ok_call (s_F_free (g_self hG)) (fun r1 u2 q => ?_)
  obtain ⟨i1881, g1882⟩ := q
  have g1883 : G md_E_worth w u2 := g_tr hG g1882 rfl
  refine ok_jite (fun h1885 => ?_) (fun h1886 => ?_)
  · refine ok_jsome ?_
    refine ok_it (by decide) ?_
    exact ok_some ⟨by omega, g1883⟩
  · refine ok_jite (fun h1887 => ?_) (fun h1888 => ?_)
    · refine ok_jsome ?_
      refine ok_it (by decide) ?_
      exact ok_some ⟨by omega, g1883⟩
    · have := ishr_nn (x := r1) (y := v1) (by omega)
      have := iand_l (x := (ishr r1 v1)) (y := (1 : Int)) (by omega)
      have := iand_r (x := (ishr r1 v1)) (y := (1 : Int)) (by omega)
      refine ok_jite (fun h1889 => ?_) (fun h1890 => ?_)
      · refine ok_jsome ?_
        refine ok_it (by decide) ?_
        exact ok_some ⟨by omega, g1883⟩
      · refine ok_jsome ?_
        refine ok_if (by decide) ?_
        refine ok_call (s_S_run (g_self g1883)) (fun r5 u6 q => ?_)
        obtain ⟨i1891, g1892⟩ := q
        have g1893 : G md_E_worth w u6 := g_tr g1883 g1892 rfl
        refine ok_ite (fun h1894 => ?_) (fun h1895 => ?_)
        · exact ok_some ⟨by omega, g1893⟩
        · refine ok_call (s_S_lastWeek (g_self g1893) (by omega) (by omega)) (fun r7 u8 q => ?_)
          obtain ⟨i1896, g1897⟩ := q
          have g1898 : G md_E_worth w u8 := g_tr g1893 g1897 rfl
          refine ok_ite (fun h1899 => ?_) (fun h1900 => ?_)
          · exact ok_some ⟨by omega, g1898⟩
          · have := ishl1_n 9 (i := v1) (j := 9) (m := 512) (by decide) (by decide) (by decide) (by omega)
            refine ok_call (s_S_lastWeek (g_self g1898) (by omega) (by omega)) (fun r9 u10 q => ?_)
            obtain ⟨i1901, g1902⟩ := q
            have g1903 : G md_E_worth w u10 := g_tr g1898 g1902 rfl
            have := w32_sp ((r7 - r9))
            exact ok_some ⟨by omega, g1903⟩
theorem s_E_needed_89 {b : Wd} {k43 : Int → Int → Int → Wd → Option (Int × Wd)} {Bk43 : Int} (hk43 : ∀ {w1 : Wd} {v1 v2 v3 : Int}, ((11 : Int) - v3) < Bk43 → G md_E_needed b w1 → ((0 : Int) ≤ v1 ∧ v1 ≤ 60) → ((0 : Int) ≤ v2 ∧ v2 ≤ 1023) → ((0 : Int) ≤ v3 ∧ v3 ≤ 10) → OK (k43 v1 v2 v3 w1) (fun r u => ((-3 : Int) ≤ r ∧ r ≤ 1023) ∧ G md_E_needed b u)) {w : Wd} {v1 v2 v3 : Int} (hG : G md_E_needed b w) (i_v1 : ((0 : Int) ≤ v1 ∧ v1 ≤ 60)) (i_v2 : ((0 : Int) ≤ v2 ∧ v2 ≤ 1023)) (i_v3 : ((0 : Int) ≤ v3 ∧ v3 ≤ 9)) (hBk43 : ((11 : Int) - v3) ≤ Bk43) : OK (f_E_needed_89 k43 v1 v2 v3 w) (fun r u => ((-3 : Int) ≤ r ∧ r ≤ 1023) ∧ G md_E_needed b u) := by
  unfold f_E_needed_89
  have := w32_sp ((v3 + (1 : Int)))
  refine ok_let (fun x9 e1904 => ?_)
  have : (1 : Int) ≤ x9 ∧ x9 ≤ 10 := by omega
  exact hk43 (by omega) hG (by omega) (by omega) (by omega)
theorem s_E_needed_43 {b : Wd} : ∀ (n : Nat) {w : Wd} {v1 v2 v3 : Int}, ((11 : Int) - v3) < (n : Int) → G md_E_needed b w → ((0 : Int) ≤ v1 ∧ v1 ≤ 60) → ((0 : Int) ≤ v2 ∧ v2 ≤ 1023) → ((0 : Int) ≤ v3 ∧ v3 ≤ 10) → OK (f_E_needed_43 n v1 v2 v3 w) (fun r u => ((-3 : Int) ≤ r ∧ r ≤ 1023) ∧ G md_E_needed b u) := by
  intro n
  induction n with
  | zero =>
    intro w v1 v2 v3 hm hG i_v1 i_v2 i_v3
    exfalso
    omega
  | succ n ih =>
    intro w v1 v2 v3 hm hG i_v1 i_v2 i_v3
    rw [f_E_needed_43]
    have : (0 : Int) ≤ (w 5 3) ∧ (w 5 3) ≤ 10 := hG.1 5 3
    have : (w 5 3) = (b 5 3) := hG.2.1 5 3 rfl
    refine ok_ite (fun h1905 => ?_) (fun h1906 => ?_)
    · exact ok_some ⟨by omega, hG⟩
    · refine ok_call (s_F_free (g_self hG)) (fun r5 u6 q => ?_)
      obtain ⟨i1907, g1908⟩ := q
      have g1909 : G md_E_needed b u6 := g_tr hG g1908 rfl
      refine ok_jif (by omega) ?_
      refine ok_jif (by omega) ?_
      have := ishr_nn (x := r5) (y := v3) (by omega)
      have := iand_l (x := (ishr r5 v3)) (y := (1 : Int)) (by omega)
      have := iand_r (x := (ishr r5 v3)) (y := (1 : Int)) (by omega)
      refine ok_jite (fun h1911 => ?_) (fun h1912 => ?_)
      · refine ok_jsome ?_
        refine ok_it (by decide) ?_
        exact s_E_needed_89 ih g1909 (by omega) (by omega) (by omega) (by omega)
      · refine ok_jsome ?_
        refine ok_if (by decide) ?_
        have := ishl1_n 9 (i := v3) (j := 9) (m := 512) (by decide) (by decide) (by decide) (by omega)
        refine ok_call (s_S_lastWeek (g_self g1909) (by omega) (by omega)) (fun r10 u11 q => ?_)
        obtain ⟨i1913, g1914⟩ := q
        have g1915 : G md_E_needed b u11 := g_tr g1909 g1914 rfl
        refine ok_ite (fun h1916 => ?_) (fun h1917 => ?_)
        · exact s_E_needed_89 ih g1915 (by omega) (by omega) (by omega) (by omega)
        · have := ior_n 10 (x := v2) (y := (ishl (1 : Int) v3)) (m := 1023) (by decide) (by decide) (by omega) (by omega)
          refine ok_let (fun x12 e1918 => ?_)
          have : (0 : Int) ≤ x12 ∧ x12 ≤ 1023 := by omega
          exact s_E_needed_89 ih g1915 (by omega) (by omega) (by omega) (by omega)
theorem s_E_needed {w : Wd} (hG : G md_E_needed w w) : OK (f_E_needed w) (fun r u => ((-3 : Int) ≤ r ∧ r ≤ 1023) ∧ G md_E_needed w u) := by
  unfold f_E_needed
  refine ok_call (s_S_run (g_self hG)) (fun r1 u2 q => ?_)
  obtain ⟨i1919, g1920⟩ := q
  have g1921 : G md_E_needed w u2 := g_tr hG g1920 rfl
  refine ok_ite (fun h1922 => ?_) (fun h1923 => ?_)
  · exact ok_some ⟨by omega, g1921⟩
  · refine ok_call (s_S_lastWeek (g_self g1921) (by omega) (by omega)) (fun r3 u4 q => ?_)
    obtain ⟨i1924, g1925⟩ := q
    have g1926 : G md_E_needed w u4 := g_tr g1921 g1925 rfl
    refine ok_ite (fun h1927 => ?_) (fun h1928 => ?_)
    · exact ok_some ⟨by omega, g1926⟩
    · exact s_E_needed_43 FU (by have := eqFU; omega) g1926 (by omega) (by omega) (by omega)
theorem s_E_never_25 {b : Wd} : ∀ (n : Nat) {w : Wd} {v1 v2 : Int}, ((3001 : Int) - v2) < (n : Int) → G md_E_never b w → ((0 : Int) ≤ v1 ∧ v1 ≤ 1023) → ((0 : Int) ≤ v2 ∧ v2 ≤ 3000) → OK (f_E_never_25 n v1 v2 w) (fun r u => ((-3 : Int) ≤ r ∧ r ≤ 1023) ∧ G md_E_never b u) := by
  intro n
  induction n with
  | zero =>
    intro w v1 v2 hm hG i_v1 i_v2
    exfalso
    omega
  | succ n ih =>
    intro w v1 v2 hm hG i_v1 i_v2
    rw [f_E_never_25]
    have : (0 : Int) ≤ (w 28 7) ∧ (w 28 7) ≤ 3000 := hG.1 28 7
    refine ok_ite (fun h1929 => ?_) (fun h1930 => ?_)
    · refine ok_call (s_F_strangers (g_self hG)) (fun r3 u4 q => ?_)
      obtain ⟨i1931, g1932⟩ := q
      have g1933 : G md_E_never b u4 := g_tr hG g1932 rfl
      have := ixor_m1 (x := v1) (by omega)
      have := iand_l (x := r3) (y := (ixor v1 (-1 : Int))) (by omega)
      exact ok_some ⟨by omega, g1933⟩
    · refine ok_call (s_S_guests (g_self hG) (by omega)) (fun r5 u6 q => ?_)
      obtain ⟨i1934, g1935⟩ := q
      have g1936 : G md_E_never b u6 := g_tr hG g1935 rfl
      have := ior_n 10 (x := v1) (y := r5) (m := 1023) (by decide) (by decide) (by omega) (by omega)
      refine ok_let (fun x7 e1937 => ?_)
      have : (0 : Int) ≤ x7 ∧ x7 ≤ 1023 := by omega
      have := w32_sp ((v2 + (1 : Int)))
      refine ok_let (fun x8 e1938 => ?_)
      have : (1 : Int) ≤ x8 ∧ x8 ≤ 3000 := by omega
      exact ih (by omega) g1936 (by omega) (by omega)
theorem s_E_never {w : Wd} (hG : G md_E_never w w) : OK (f_E_never w) (fun r u => ((-3 : Int) ≤ r ∧ r ≤ 1023) ∧ G md_E_never w u) := by
  unfold f_E_never
  refine ok_call (s_S_run (g_self hG)) (fun r1 u2 q => ?_)
  obtain ⟨i1939, g1940⟩ := q
  have g1941 : G md_E_never w u2 := g_tr hG g1940 rfl
  refine ok_ite (fun h1942 => ?_) (fun h1943 => ?_)
  · exact ok_some ⟨by omega, g1941⟩
  · exact s_E_never_25 FU (by have := eqFU; omega) g1941 (by omega) (by omega)
theorem s_E_bound_93 {b : Wd} {k55 : Int → Int → Int → Int → Wd → Option (Int × Wd)} {Bk55 : Int} (hk55 : ∀ {w1 : Wd} {v1 v2 v3 v4 : Int}, ((11 : Int) - v4) < Bk55 → G md_E_bound b w1 → ((1 : Int) ≤ v1 ∧ v1 ≤ 1023) → ((0 : Int) ≤ v2 ∧ v2 ≤ 1023) → ((-1 : Int) ≤ v3 ∧ v3 ≤ 3) → ((0 : Int) ≤ v4 ∧ v4 ≤ 10) → OK (k55 v1 v2 v3 v4 w1) (fun r u => ((-2147483648 : Int) ≤ r ∧ r ≤ 2147483647) ∧ G md_E_bound b u)) {w : Wd} {v1 v2 v3 v4 : Int} (hG : G md_E_bound b w) (i_v1 : ((1 : Int) ≤ v1 ∧ v1 ≤ 1023)) (i_v2 : ((0 : Int) ≤ v2 ∧ v2 ≤ 1023)) (i_v3 : ((-1 : Int) ≤ v3 ∧ v3 ≤ 3)) (i_v4 : ((0 : Int) ≤ v4 ∧ v4 ≤ 9)) (hBk55 : ((11 : Int) - v4) ≤ Bk55) : OK (f_E_bound_93 k55 v1 v2 v3 v4 w) (fun r u => ((-2147483648 : Int) ≤ r ∧ r ≤ 2147483647) ∧ G md_E_bound b u) := by
  unfold f_E_bound_93
  have := w32_sp ((v4 + (1 : Int)))
  refine ok_let (fun x7 e1944 => ?_)
  have : (1 : Int) ≤ x7 ∧ x7 ≤ 10 := by omega
  exact hk55 (by omega) hG (by omega) (by omega) (by omega) (by omega)
theorem s_E_bound_55 {b : Wd} : ∀ (n : Nat) {w : Wd} {v1 v2 v3 v4 : Int}, ((11 : Int) - v4) < (n : Int) → G md_E_bound b w → ((1 : Int) ≤ v1 ∧ v1 ≤ 1023) → ((0 : Int) ≤ v2 ∧ v2 ≤ 1023) → ((-1 : Int) ≤ v3 ∧ v3 ≤ 3) → ((0 : Int) ≤ v4 ∧ v4 ≤ 10) → OK (f_E_bound_55 n v1 v2 v3 v4 w) (fun r u => ((-2147483648 : Int) ≤ r ∧ r ≤ 2147483647) ∧ G md_E_bound b u) := by
  intro n
  induction n with
  | zero =>
    intro w v1 v2 v3 v4 hm hG i_v1 i_v2 i_v3 i_v4
    exfalso
    omega
  | succ n ih =>
    intro w v1 v2 v3 v4 hm hG i_v1 i_v2 i_v3 i_v4
    rw [f_E_bound_55]
    have : (0 : Int) ≤ (w 5 3) ∧ (w 5 3) ≤ 10 := hG.1 5 3
    have : (w 5 3) = (b 5 3) := hG.2.1 5 3 rfl
    refine ok_ite (fun h1945 => ?_) (fun h1946 => ?_)
    · have := ixor_m1 (x := v1) (by omega)
      have := iand_l (x := v2) (y := (ixor v1 (-1 : Int))) (by omega)
      refine ok_call (s_JI_bitCount (g_self hG) (by omega)) (fun r3 u4 q => ?_)
      obtain ⟨i1947, g1948⟩ := q
      have g1949 : G md_E_bound b u4 := g_tr hG g1948 rfl
      have : (0 : Int) ≤ (w 5 7) ∧ (w 5 7) ≤ 2147483647 := hG.1 5 7
      have : (w 5 7) = (b 5 7) := hG.2.1 5 7 rfl
      have := w32_sp (((w 5 7) * r3))
      have : (0 : Int) ≤ (u4 5 7) ∧ (u4 5 7) ≤ 2147483647 := g1949.1 5 7
      have : (u4 5 7) = (w 5 7) := g1948.2.1 5 7 rfl
      have := w32_sp (((u4 5 7) - v3))
      have := imax_sp (1 : Int) (w32 ((u4 5 7) - v3))
      have := w32_sp (((w32 ((w 5 7) * r3)) + (imax (1 : Int) (w32 ((u4 5 7) - v3)))))
      have := w32_sp (((w32 ((w32 ((w 5 7) * r3)) + (imax (1 : Int) (w32 ((u4 5 7) - v3))))) - (1 : Int)))
      exact ok_some ⟨by omega, g1949⟩
    · refine ok_jif (by omega) ?_
      refine ok_jif (by omega) ?_
      have := ishr_nn (x := v1) (y := v4) (by omega)
      have := iand_l (x := (ishr v1 v4)) (y := (1 : Int)) (by omega)
      have := iand_r (x := (ishr v1 v4)) (y := (1 : Int)) (by omega)
      refine ok_jite (fun h1951 => ?_) (fun h1952 => ?_)
      · refine ok_jsome ?_
        refine ok_it (by decide) ?_
        exact s_E_bound_93 ih hG (by omega) (by omega) (by omega) (by omega) (by omega)
      · refine ok_jsome ?_
        refine ok_if (by decide) ?_
        have : (-2147483648 : Int) ≤ (w 5 4) ∧ (w 5 4) ≤ 2147483647 := hG.1 5 4
        have : (w 5 4) = (b 5 4) := hG.2.1 5 4 rfl
        refine ok_call (s_O_late (g_self hG) (by omega) (by omega)) (fun r8 u9 q => ?_)
        obtain ⟨i1953, g1954⟩ := q
        have g1955 : G md_E_bound b u9 := g_tr hG g1954 rfl
        have := imin_sp v3 r8
        refine ok_let (fun x10 e1956 => ?_)
        have : (-1 : Int) ≤ x10 ∧ x10 ≤ 2 := by omega
        exact s_E_bound_93 ih g1955 (by omega) (by omega) (by omega) (by omega) (by omega)
theorem s_E_bound_19 {b : Wd} : ∀ (n : Nat) {w : Wd} {v1 v2 v3 : Int}, ((11 : Int) - v3) < (n : Int) → G md_E_bound b w → ((1 : Int) ≤ v1 ∧ v1 ≤ 1023) → ((0 : Int) ≤ v2 ∧ v2 ≤ 1023) → ((0 : Int) ≤ v3 ∧ v3 ≤ 10) → OK (f_E_bound_19 n v1 v2 v3 w) (fun r u => ((-2147483648 : Int) ≤ r ∧ r ≤ 2147483647) ∧ G md_E_bound b u) := by
  intro n
  induction n with
  | zero =>
    intro w v1 v2 v3 hm hG i_v1 i_v2 i_v3
    exfalso
    omega
  | succ n ih =>
    intro w v1 v2 v3 hm hG i_v1 i_v2 i_v3
    rw [f_E_bound_19]
    refine ok_ite (fun h1957 => ?_) (fun h1958 => ?_)
    · exact s_E_bound_55 FU (by have := eqFU; omega) hG (by omega) (by omega) (by omega) (by omega)
    · refine ok_call (s_F_knownBy (g_self hG) (by omega)) (fun r11 u12 q => ?_)
      obtain ⟨i1959, g1960⟩ := q
      have g1961 : G md_E_bound b u12 := g_tr hG g1960 rfl
      refine ok_call (s_F_free (g_self g1961)) (fun r13 u14 q => ?_)
      obtain ⟨i1962, g1963⟩ := q
      have g1964 : G md_E_bound b u14 := g_tr g1961 g1963 rfl
      have := iand_r (x := r11) (y := r13) (by omega)
      have := ior_n 10 (x := v2) (y := (iand r11 r13)) (m := 1023) (by decide) (by decide) (by omega) (by omega)
      refine ok_let (fun x15 e1965 => ?_)
      have : (0 : Int) ≤ x15 ∧ x15 ≤ 1023 := by omega
      have := w32_sp ((v3 + (1 : Int)))
      refine ok_let (fun x16 e1966 => ?_)
      have : (1 : Int) ≤ x16 ∧ x16 ≤ 10 := by omega
      exact ih (by omega) g1964 (by omega) (by omega) (by omega)
theorem s_E_bound {w : Wd} (hG : G md_E_bound w w) : OK (f_E_bound w) (fun r u => ((-2147483648 : Int) ≤ r ∧ r ≤ 2147483647) ∧ G md_E_bound w u) := by
  unfold f_E_bound
  refine ok_call (s_F_guests (g_self hG)) (fun r1 u2 q => ?_)
  obtain ⟨i1967, g1968⟩ := q
  have g1969 : G md_E_bound w u2 := g_tr hG g1968 rfl
  refine ok_ite (fun h1970 => ?_) (fun h1971 => ?_)
  · exact ok_some ⟨by omega, g1969⟩
  · exact s_E_bound_19 FU (by have := eqFU; omega) g1969 (by omega) (by omega) (by omega)
theorem s_F_within_12 {b : Wd} : ∀ (n : Nat) {w : Wd} {v2 v3 v4 : Int}, ((10 : Int) - v4) < (n : Int) → G md_F_within b w → ((0 : Int) ≤ v2 ∧ v2 ≤ 9) → ((0 : Int) ≤ v3 ∧ v3 ≤ 1023) → ((0 : Int) ≤ v4 ∧ v4 ≤ 9) → OK (f_F_within_12 n v2 v3 v4 w) (fun r u => ((0 : Int) ≤ r ∧ r ≤ 1023) ∧ G md_F_within b u) := by
  intro n
  induction n with
  | zero =>
    intro w v2 v3 v4 hm hG i_v2 i_v3 i_v4
    exfalso
    omega
  | succ n ih =>
    intro w v2 v3 v4 hm hG i_v2 i_v3 i_v4
    rw [f_F_within_12]
    refine ok_ite (fun h1972 => ?_) (fun h1973 => ?_)
    · exact ok_some ⟨by omega, hG⟩
    · refine ok_call (s_F_knownBy (g_self hG) (by omega)) (fun r4 u5 q => ?_)
      obtain ⟨i1974, g1975⟩ := q
      have g1976 : G md_F_within b u5 := g_tr hG g1975 rfl
      refine ok_call (s_F_free (g_self g1976)) (fun r6 u7 q => ?_)
      obtain ⟨i1977, g1978⟩ := q
      have g1979 : G md_F_within b u7 := g_tr g1976 g1978 rfl
      have := iand_r (x := r4) (y := r6) (by omega)
      have := ior_n 10 (x := v3) (y := (iand r4 r6)) (m := 1023) (by decide) (by decide) (by omega) (by omega)
      refine ok_let (fun x8 e1980 => ?_)
      have : (0 : Int) ≤ x8 ∧ x8 ≤ 1023 := by omega
      have := w32_sp ((v4 + (1 : Int)))
      refine ok_let (fun x9 e1981 => ?_)
      have : (1 : Int) ≤ x9 ∧ x9 ≤ 9 := by omega
      exact ih (by omega) g1979 (by omega) (by omega) (by omega)
theorem s_F_within {w : Wd} {v1 v2 : Int} (hG : G md_F_within w w) (i_v1 : ((0 : Int) ≤ v1 ∧ v1 ≤ 9)) (i_v2 : ((0 : Int) ≤ v2 ∧ v2 ≤ 9)) : OK (f_F_within v1 v2 w) (fun r u => ((0 : Int) ≤ r ∧ r ≤ 1023) ∧ G md_F_within w u) := by
  unfold f_F_within
  refine ok_call (s_F_free (g_self hG)) (fun r1 u2 q => ?_)
  obtain ⟨i1982, g1983⟩ := q
  have g1984 : G md_F_within w u2 := g_tr hG g1983 rfl
  have := ishl1_n 9 (i := v1) (j := 9) (m := 512) (by decide) (by decide) (by decide) (by omega)
  have := iand_l (x := (ishl (1 : Int) v1)) (y := r1) (by omega)
  have := iand_r (x := (ishl (1 : Int) v1)) (y := r1) (by omega)
  refine ok_let (fun x3 e1985 => ?_)
  have : (0 : Int) ≤ x3 ∧ x3 ≤ 512 := by omega
  exact s_F_within_12 FU (by have := eqFU; omega) g1984 (by omega) (by omega) (by omega)
theorem s_E_tellWay_13 {b : Wd} : ∀ (n : Nat) {w : Wd} {v1 v4 v5 : Int}, (v5 + (1 : Int)) < (n : Int) → G md_E_tellWay b w → ((0 : Int) ≤ v1 ∧ v1 ≤ 9) → ((-2147483648 : Int) ≤ v4 ∧ v4 ≤ 2147483647) → ((0 : Int) ≤ v5 ∧ v5 ≤ 9) → OK (f_E_tellWay_13 n v1 v4 v5 w) (fun r u => ((0 : Int) ≤ r ∧ r ≤ 0) ∧ G md_E_tellWay b u) := by
  intro n
  induction n with
  | zero =>
    intro w v1 v4 v5 hm hG i_v1 i_v4 i_v5
    exfalso
    omega
  | succ n ih =>
    intro w v1 v4 v5 hm hG i_v1 i_v4 i_v5
    rw [f_E_tellWay_13]
    refine ok_ite (fun h1986 => ?_) (fun h1987 => ?_)
    · exact ok_some ⟨by omega, hG⟩
    · refine ok_call (s_F_within (g_self hG) (by omega) (by omega)) (fun r3 u4 q => ?_)
      obtain ⟨i1988, g1989⟩ := q
      have g1990 : G md_E_tellWay b u4 := g_tr hG g1989 rfl
      have := iand_r (x := v4) (y := r3) (by omega)
      refine ok_call (s_E_lowest (g_self g1990) (by omega)) (fun r5 u6 q => ?_)
      obtain ⟨i1991, g1992⟩ := q
      have g1993 : G md_E_tellWay b u6 := g_tr g1990 g1992 rfl
      refine ok_call (s_N_put (g_self g1993) (by omega)) (fun r7 u8 q => ?_)
      obtain ⟨i1994, g1995⟩ := q
      have g1996 : G md_E_tellWay b u8 := g_tr g1993 g1995 rfl
      have := ishl_rg (1 : Int) r5
      refine ok_call (s_F_knownBy (g_self g1996) (by omega)) (fun r9 u10 q => ?_)
      obtain ⟨i1997, g1998⟩ := q
      have g1999 : G md_E_tellWay b u10 := g_tr g1996 g1998 rfl
      have := w32_sp ((v5 + (-1 : Int)))
      refine ok_let (fun x11 e2000 => ?_)
      have : (0 : Int) ≤ x11 ∧ x11 ≤ 8 := by omega
      exact ih (by omega) g1999 (by omega) (by omega) (by omega)
theorem s_E_tellWay {w : Wd} {v1 v2 v3 : Int} (hG : G md_E_tellWay w w) (i_v1 : ((0 : Int) ≤ v1 ∧ v1 ≤ 9)) (i_v2 : ((0 : Int) ≤ v2 ∧ v2 ≤ 9)) (i_v3 : ((-2147483648 : Int) ≤ v3 ∧ v3 ≤ 2147483647)) : OK (f_E_tellWay v1 v2 v3 w) (fun r u => ((0 : Int) ≤ r ∧ r ≤ 0) ∧ G md_E_tellWay w u) := by
  unfold f_E_tellWay
  refine ok_call (s_N_clear (g_self hG)) (fun r1 u2 q => ?_)
  obtain ⟨i2001, g2002⟩ := q
  have g2003 : G md_E_tellWay w u2 := g_tr hG g2002 rfl
  exact s_E_tellWay_13 FU (by have := eqFU; omega) g2003 (by omega) (by omega) (by omega)
theorem s_E_far_118 {b : Wd} {w : Wd} {v1 v2 v3 : Int} (hG : G md_E_far b w) (i_v1 : ((0 : Int) ≤ v1 ∧ v1 ≤ 9)) (i_v2 : ((-2147483648 : Int) ≤ v2 ∧ v2 ≤ 2147483647)) (i_v3 : ((-1 : Int) ≤ v3 ∧ v3 ≤ 9)) : OK (f_E_far_118 v1 v2 v3 w) (fun r u => ((-2 : Int) ≤ r ∧ r ≤ 10) ∧ G md_E_far b u) := by
  unfold f_E_far_118
  refine ok_ite (fun h2004 => ?_) (fun h2005 => ?_)
  · exact ok_some ⟨by omega, hG⟩
  · refine ok_call (s_E_tellWay (g_self hG) (by omega) (by omega) (by omega)) (fun r15 u16 q => ?_)
    obtain ⟨i2006, g2007⟩ := q
    have g2008 : G md_E_far b u16 := g_tr hG g2007 rfl
    have := w32_sp ((v3 + (1 : Int)))
    exact ok_some ⟨by omega, g2008⟩
theorem s_E_far_111 {b : Wd} {k73 : Int → Int → Int → Int → Wd → Option (Int × Wd)} {Bk73 : Int} (hk73 : ∀ {w1 : Wd} {v1 v2 v3 v4 : Int}, ((11 : Int) - v4) < Bk73 → G md_E_far b w1 → ((0 : Int) ≤ v1 ∧ v1 ≤ 9) → ((-2147483648 : Int) ≤ v2 ∧ v2 ≤ 2147483647) → ((-1 : Int) ≤ v3 ∧ v3 ≤ 9) → ((0 : Int) ≤ v4 ∧ v4 ≤ 10) → OK (k73 v1 v2 v3 v4 w1) (fun r u => ((-2 : Int) ≤ r ∧ r ≤ 10) ∧ G md_E_far b u)) {w : Wd} {v1 v2 v4 s0 : Int} (hG : G md_E_far b w) (i_v1 : ((0 : Int) ≤ v1 ∧ v1 ≤ 9)) (i_v2 : ((-2147483648 : Int) ≤ v2 ∧ v2 ≤ 2147483647)) (i_v4 : ((0 : Int) ≤ v4 ∧ v4 ≤ 9)) (i_s0 : ((-1 : Int) ≤ s0 ∧ s0 ≤ 9)) (hBk73 : ((11 : Int) - v4) ≤ Bk73) : OK (f_E_far_111 k73 v1 v2 v4 s0 w) (fun r u => ((-2 : Int) ≤ r ∧ r ≤ 10) ∧ G md_E_far b u) := by
  unfold f_E_far_111
  have := w32_sp ((v4 + (1 : Int)))
  refine ok_let (fun x19 e2009 => ?_)
  have : (1 : Int) ≤ x19 ∧ x19 ≤ 10 := by omega
  exact hk73 (by omega) hG (by omega) (by omega) (by omega) (by omega)
theorem s_E_far_73 {b : Wd} : ∀ (n : Nat) {w : Wd} {v1 v2 v3 v4 : Int}, ((11 : Int) - v4) < (n : Int) → G md_E_far b w → ((0 : Int) ≤ v1 ∧ v1 ≤ 9) → ((-2147483648 : Int) ≤ v2 ∧ v2 ≤ 2147483647) → ((-1 : Int) ≤ v3 ∧ v3 ≤ 9) → ((0 : Int) ≤ v4 ∧ v4 ≤ 10) → OK (f_E_far_73 n v1 v2 v3 v4 w) (fun r u => ((-2 : Int) ≤ r ∧ r ≤ 10) ∧ G md_E_far b u) := by
  intro n
  induction n with
  | zero =>
    intro w v1 v2 v3 v4 hm hG i_v1 i_v2 i_v3 i_v4
    exfalso
    omega
  | succ n ih =>
    intro w v1 v2 v3 v4 hm hG i_v1 i_v2 i_v3 i_v4
    rw [f_E_far_73]
    have : (0 : Int) ≤ (w 5 3) ∧ (w 5 3) ≤ 10 := hG.1 5 3
    have : (w 5 3) = (b 5 3) := hG.2.1 5 3 rfl
    refine ok_ite (fun h2010 => ?_) (fun h2011 => ?_)
    · exact s_E_far_118 hG (by omega) (by omega) (by omega)
    · refine ok_ite (fun h2012 => ?_) (fun h2013 => ?_)
      · refine ok_call (s_F_within (g_self hG) (by omega) (by omega)) (fun r17 u18 q => ?_)
        obtain ⟨i2014, g2015⟩ := q
        have g2016 : G md_E_far b u18 := g_tr hG g2015 rfl
        have := iand_l (x := r17) (y := v2) (by omega)
        refine ok_ite (fun h2017 => ?_) (fun h2018 => ?_)
        · exact s_E_far_111 ih g2016 (by omega) (by omega) (by omega) (by omega) (by omega)
        · exact s_E_far_111 ih g2016 (by omega) (by omega) (by omega) (by omega) (by omega)
      · exact s_E_far_118 hG (by omega) (by omega) (by omega)
theorem s_E_far {w : Wd} {v1 : Int} (hG : G md_E_far w w) (i_v1 : ((-2147483648 : Int) ≤ v1 ∧ v1 ≤ 2147483647)) : OK (f_E_far v1 w) (fun r u => ((-2 : Int) ≤ r ∧ r ≤ 10) ∧ G md_E_far w u) := by
  unfold f_E_far
  refine ok_jite (fun h2020 => ?_) (fun h2021 => ?_)
  · refine ok_jsome ?_
    refine ok_it (by decide) ?_
    exact ok_some ⟨by omega, hG⟩
  · have : (0 : Int) ≤ (w 5 3) ∧ (w 5 3) ≤ 10 := hG.1 5 3
    refine ok_jite (fun h2022 => ?_) (fun h2023 => ?_)
    · refine ok_jsome ?_
      refine ok_it (by decide) ?_
      exact ok_some ⟨by omega, hG⟩
    · refine ok_jsome ?_
      refine ok_if (by decide) ?_
      refine ok_call (s_F_guests (g_self hG)) (fun r3 u4 q => ?_)
      obtain ⟨i2024, g2025⟩ := q
      have g2026 : G md_E_far w u4 := g_tr hG g2025 rfl
      refine ok_jif (by omega) ?_
      refine ok_jif (by omega) ?_
      have := ishr_nn (x := r3) (y := v1) (by omega)
      have := iand_l (x := (ishr r3 v1)) (y := (1 : Int)) (by omega)
      have := iand_r (x := (ishr r3 v1)) (y := (1 : Int)) (by omega)
      refine ok_jite (fun h2028 => ?_) (fun h2029 => ?_)
      · refine ok_jsome ?_
        refine ok_it (by decide) ?_
        refine ok_call (s_F_free (g_self g2026)) (fun r7 u8 q => ?_)
        obtain ⟨i2030, g2031⟩ := q
        have g2032 : G md_E_far w u8 := g_tr g2026 g2031 rfl
        refine ok_jif (by omega) ?_
        refine ok_jif (by omega) ?_
        have := ishr_nn (x := r7) (y := v1) (by omega)
        have := iand_l (x := (ishr r7 v1)) (y := (1 : Int)) (by omega)
        have := iand_r (x := (ishr r7 v1)) (y := (1 : Int)) (by omega)
        refine ok_jite (fun h2034 => ?_) (fun h2035 => ?_)
        · refine ok_jsome ?_
          refine ok_it (by decide) ?_
          exact ok_some ⟨by omega, g2032⟩
        · refine ok_jsome ?_
          refine ok_if (by decide) ?_
          refine ok_call (s_F_guests (g_self g2032)) (fun r11 u12 q => ?_)
          obtain ⟨i2036, g2037⟩ := q
          have g2038 : G md_E_far w u12 := g_tr g2032 g2037 rfl
          refine ok_call (s_F_knownBy (g_self g2038) (by omega)) (fun r13 u14 q => ?_)
          obtain ⟨i2039, g2040⟩ := q
          have g2041 : G md_E_far w u14 := g_tr g2038 g2040 rfl
          exact s_E_far_73 FU (by have := eqFU; omega) g2041 (by omega) (by omega) (by omega) (by omega)
      · refine ok_jsome ?_
        refine ok_if (by decide) ?_
        refine ok_call (s_N_clear (g_self g2026)) (fun r20 u21 q => ?_)
        obtain ⟨i2042, g2043⟩ := q
        have g2044 : G md_E_far w u21 := g_tr g2026 g2043 rfl
        exact ok_some ⟨by omega, g2044⟩
theorem s_F_broughtBy {w : Wd} {v1 : Int} (hG : G md_F_broughtBy w w) (i_v1 : ((0 : Int) ≤ v1 ∧ v1 ≤ 9)) : OK (f_F_broughtBy v1 w) (fun r u => ((-1 : Int) ≤ r ∧ r ≤ 9) ∧ G md_F_broughtBy w u) := by
  unfold f_F_broughtBy
  refine ok_jif (by omega) ?_
  have : (0 : Int) ≤ (w 5 3) ∧ (w 5 3) ≤ 10 := hG.1 5 3
  refine ok_jite (fun h2046 => ?_) (fun h2047 => ?_)
  · refine ok_jsome ?_
    refine ok_it (by decide) ?_
    exact ok_some ⟨by omega, hG⟩
  · refine ok_jsome ?_
    refine ok_if (by decide) ?_
    refine ok_gd (by omega) ?_
    have : (-1 : Int) ≤ (w 8 (v1).toNat) ∧ (w 8 (v1).toNat) ≤ 9 := hG.1 8 (v1).toNat
    exact ok_some ⟨by omega, hG⟩
theorem s_E_line_70 {b : Wd} {w : Wd} (hG : G md_E_line b w) : OK (f_E_line_70 w) (fun r u => ((-1 : Int) ≤ r ∧ r ≤ 20) ∧ G md_E_line b u) := by
  unfold f_E_line_70
  have : (0 : Int) ≤ (w 3 1) ∧ (w 3 1) ≤ 20 := hG.1 3 1
  exact ok_some ⟨by omega, hG⟩
theorem s_E_line_31 {b : Wd} : ∀ (n : Nat) {w : Wd} {v2 v3 : Int}, ((11 : Int) - v3) < (n : Int) → G md_E_line b w → ((-1 : Int) ≤ v2 ∧ v2 ≤ 9) → ((0 : Int) ≤ v3 ∧ v3 ≤ 10) → OK (f_E_line_31 n v2 v3 w) (fun r u => ((-1 : Int) ≤ r ∧ r ≤ 20) ∧ G md_E_line b u) := by
  intro n
  induction n with
  | zero =>
    intro w v2 v3 hm hG i_v2 i_v3
    exfalso
    omega
  | succ n ih =>
    intro w v2 v3 hm hG i_v2 i_v3
    rw [f_E_line_31]
    have : (0 : Int) ≤ (w 5 3) ∧ (w 5 3) ≤ 10 := hG.1 5 3
    have : (w 5 3) = (b 5 3) := hG.2.1 5 3 rfl
    refine ok_ite (fun h2048 => ?_) (fun h2049 => ?_)
    · exact s_E_line_70 hG
    · refine ok_ite (fun h2050 => ?_) (fun h2051 => ?_)
      · exact s_E_line_70 hG
      · refine ok_call (s_N_putFirst (g_self hG) (by omega)) (fun r7 u8 q => ?_)
        obtain ⟨i2052, g2053⟩ := q
        have g2054 : G md_E_line b u8 := g_tr hG g2053 rfl
        refine ok_call (s_F_broughtBy (g_self g2054) (by omega)) (fun r9 u10 q => ?_)
        obtain ⟨i2055, g2056⟩ := q
        have g2057 : G md_E_line b u10 := g_tr g2054 g2056 rfl
        have := w32_sp ((v3 + (1 : Int)))
        refine ok_let (fun x11 e2058 => ?_)
        have : (1 : Int) ≤ x11 ∧ x11 ≤ 10 := by omega
        exact ih (by omega) g2057 (by omega) (by omega)
theorem s_E_line {w : Wd} {v1 : Int} (hG : G md_E_line w w) (i_v1 : ((-2147483648 : Int) ≤ v1 ∧ v1 ≤ 2147483647)) : OK (f_E_line v1 w) (fun r u => ((-1 : Int) ≤ r ∧ r ≤ 20) ∧ G md_E_line w u) := by
  unfold f_E_line
  refine ok_jite (fun h2060 => ?_) (fun h2061 => ?_)
  · refine ok_jsome ?_
    refine ok_it (by decide) ?_
    exact ok_some ⟨by omega, hG⟩
  · have : (0 : Int) ≤ (w 5 3) ∧ (w 5 3) ≤ 10 := hG.1 5 3
    refine ok_jite (fun h2062 => ?_) (fun h2063 => ?_)
    · refine ok_jsome ?_
      refine ok_it (by decide) ?_
      exact ok_some ⟨by omega, hG⟩
    · refine ok_jsome ?_
      refine ok_if (by decide) ?_
      refine ok_call (s_N_clear (g_self hG)) (fun r3 u4 q => ?_)
      obtain ⟨i2064, g2065⟩ := q
      have g2066 : G md_E_line w u4 := g_tr hG g2065 rfl
      refine ok_call (s_F_broughtBy (g_self g2066) (by omega)) (fun r5 u6 q => ?_)
      obtain ⟨i2067, g2068⟩ := q
      have g2069 : G md_E_line w u6 := g_tr g2066 g2068 rfl
      exact s_E_line_31 FU (by have := eqFU; omega) g2069 (by omega) (by omega)
theorem s_F_stepsUp_5 {b : Wd} : ∀ (n : Nat) {w : Wd} {v2 v3 v4 : Int}, ((11 : Int) - v4) < (n : Int) → G md_F_stepsUp b w → ((0 : Int) ≤ v2 ∧ v2 ≤ 9) → ((-1 : Int) ≤ v3 ∧ v3 ≤ 9) → ((0 : Int) ≤ v4 ∧ v4 ≤ 10) → OK (f_F_stepsUp_5 n v2 v3 v4 w) (fun r u => ((-1 : Int) ≤ r ∧ r ≤ 9) ∧ G md_F_stepsUp b u) := by
  intro n
  induction n with
  | zero =>
    intro w v2 v3 v4 hm hG i_v2 i_v3 i_v4
    exfalso
    omega
  | succ n ih =>
    intro w v2 v3 v4 hm hG i_v2 i_v3 i_v4
    rw [f_F_stepsUp_5]
    have : (0 : Int) ≤ (w 5 3) ∧ (w 5 3) ≤ 10 := hG.1 5 3
    have : (w 5 3) = (b 5 3) := hG.2.1 5 3 rfl
    refine ok_ite (fun h2070 => ?_) (fun h2071 => ?_)
    · exact ok_some ⟨by omega, hG⟩
    · refine ok_ite (fun h2072 => ?_) (fun h2073 => ?_)
      · exact ok_some ⟨by omega, hG⟩
      · refine ok_ite (fun h2074 => ?_) (fun h2075 => ?_)
        · exact ok_some ⟨by omega, hG⟩
        · refine ok_call (s_F_broughtBy (g_self hG) (by omega)) (fun r1 u2 q => ?_)
          obtain ⟨i2076, g2077⟩ := q
          have g2078 : G md_F_stepsUp b u2 := g_tr hG g2077 rfl
          have := w32_sp ((v4 + (1 : Int)))
          refine ok_let (fun x3 e2079 => ?_)
          have : (1 : Int) ≤ x3 ∧ x3 ≤ 10 := by omega
          exact ih (by omega) g2078 (by omega) (by omega) (by omega)
theorem s_F_stepsUp {w : Wd} {v1 v2 : Int} (hG : G md_F_stepsUp w w) (i_v1 : ((0 : Int) ≤ v1 ∧ v1 ≤ 9)) (i_v2 : ((0 : Int) ≤ v2 ∧ v2 ≤ 9)) : OK (f_F_stepsUp v1 v2 w) (fun r u => ((-1 : Int) ≤ r ∧ r ≤ 9) ∧ G md_F_stepsUp w u) := by
  unfold f_F_stepsUp
  exact s_F_stepsUp_5 FU (by have := eqFU; omega) hG (by omega) (by omega) (by omega)
theorem s_F_ledBy_29 {b : Wd} {k4 : Int → Int → Int → Wd → Option (Int × Wd)} {Bk4 : Int} (hk4 : ∀ {w1 : Wd} {v1 v2 v3 : Int}, ((11 : Int) - v3) < Bk4 → G md_F_ledBy b w1 → ((0 : Int) ≤ v1 ∧ v1 ≤ 9) → ((0 : Int) ≤ v2 ∧ v2 ≤ 1023) → ((0 : Int) ≤ v3 ∧ v3 ≤ 10) → OK (k4 v1 v2 v3 w1) (fun r u => ((0 : Int) ≤ r ∧ r ≤ 1023) ∧ G md_F_ledBy b u)) {w : Wd} {v1 v3 s0 s1 : Int} (hG : G md_F_ledBy b w) (i_v1 : ((0 : Int) ≤ v1 ∧ v1 ≤ 9)) (i_v3 : ((0 : Int) ≤ v3 ∧ v3 ≤ 9)) (i_s0 : ((0 : Int) ≤ s0 ∧ s0 ≤ 1023)) (i_s1 : ((0 : Int) ≤ s1 ∧ s1 ≤ 512)) (hBk4 : ((11 : Int) - v3) ≤ Bk4) : OK (f_F_ledBy_29 k4 v1 v3 s0 s1 w) (fun r u => ((0 : Int) ≤ r ∧ r ≤ 1023) ∧ G md_F_ledBy b u) := by
  unfold f_F_ledBy_29
  have := ior_n 10 (x := s0) (y := s1) (m := 1023) (by decide) (by decide) (by omega) (by omega)
  refine ok_let (fun x3 e2080 => ?_)
  have : (0 : Int) ≤ x3 ∧ x3 ≤ 1023 := by omega
  have := w32_sp ((v3 + (1 : Int)))
  refine ok_let (fun x4 e2081 => ?_)
  have : (1 : Int) ≤ x4 ∧ x4 ≤ 10 := by omega
  exact hk4 (by omega) hG (by omega) (by omega) (by omega)
theorem s_F_ledBy_4 {b : Wd} : ∀ (n : Nat) {w : Wd} {v1 v2 v3 : Int}, ((11 : Int) - v3) < (n : Int) → G md_F_ledBy b w → ((0 : Int) ≤ v1 ∧ v1 ≤ 9) → ((0 : Int) ≤ v2 ∧ v2 ≤ 1023) → ((0 : Int) ≤ v3 ∧ v3 ≤ 10) → OK (f_F_ledBy_4 n v1 v2 v3 w) (fun r u => ((0 : Int) ≤ r ∧ r ≤ 1023) ∧ G md_F_ledBy b u) := by
  intro n
  induction n with
  | zero =>
    intro w v1 v2 v3 hm hG i_v1 i_v2 i_v3
    exfalso
    omega
  | succ n ih =>
    intro w v1 v2 v3 hm hG i_v1 i_v2 i_v3
    rw [f_F_ledBy_4]
    have : (0 : Int) ≤ (w 5 3) ∧ (w 5 3) ≤ 10 := hG.1 5 3
    have : (w 5 3) = (b 5 3) := hG.2.1 5 3 rfl
    refine ok_ite (fun h2082 => ?_) (fun h2083 => ?_)
    · exact ok_some ⟨by omega, hG⟩
    · refine ok_call (s_F_stepsUp (g_self hG) (by omega) (by omega)) (fun r1 u2 q => ?_)
      obtain ⟨i2084, g2085⟩ := q
      have g2086 : G md_F_ledBy b u2 := g_tr hG g2085 rfl
      refine ok_ite (fun h2087 => ?_) (fun h2088 => ?_)
      · exact s_F_ledBy_29 ih g2086 (by omega) (by omega) (by omega) (by omega) (by omega)
      · have := ishl1_n 9 (i := v3) (j := 9) (m := 512) (by decide) (by decide) (by decide) (by omega)
        exact s_F_ledBy_29 ih g2086 (by omega) (by omega) (by omega) (by omega) (by omega)
theorem s_F_ledBy {w : Wd} {v1 : Int} (hG : G md_F_ledBy w w) (i_v1 : ((0 : Int) ≤ v1 ∧ v1 ≤ 9)) : OK (f_F_ledBy v1 w) (fun r u => ((0 : Int) ≤ r ∧ r ≤ 1023) ∧ G md_F_ledBy w u) := by
  unfold f_F_ledBy
  exact s_F_ledBy_4 FU (by have := eqFU; omega) hG (by omega) (by omega) (by omega)
theorem s_E_led_51 {b : Wd} {k20 : Int → Int → Int → Int → Wd → Option (Int × Wd)} {Bk20 : Int} (hk20 : ∀ {w1 : Wd} {v1 v2 v3 v4 : Int}, ((11 : Int) - v4) < Bk20 → G md_E_led b w1 → ((0 : Int) ≤ v1 ∧ v1 ≤ 9) → ((-2147483648 : Int) ≤ v2 ∧ v2 ≤ 2147483647) → ((0 : Int) ≤ v3 ∧ v3 ≤ 9) → ((0 : Int) ≤ v4 ∧ v4 ≤ 10) → OK (k20 v1 v2 v3 v4 w1) (fun r u => ((-1 : Int) ≤ r ∧ r ≤ 1023) ∧ G md_E_led b u)) {w : Wd} {v1 v3 v4 s0 s1 : Int} (hG : G md_E_led b w) (i_v1 : ((0 : Int) ≤ v1 ∧ v1 ≤ 9)) (i_v3 : ((0 : Int) ≤ v3 ∧ v3 ≤ 9)) (i_v4 : ((0 : Int) ≤ v4 ∧ v4 ≤ 9)) (i_s0 : ((-2147483648 : Int) ≤ s0 ∧ s0 ≤ 2147483647)) (i_s1 : ((0 : Int) ≤ s1 ∧ s1 ≤ 1)) (hBk20 : ((11 : Int) - v4) ≤ Bk20) : OK (f_E_led_51 k20 v1 v3 v4 s0 s1 w) (fun r u => ((-1 : Int) ≤ r ∧ r ≤ 1023) ∧ G md_E_led b u) := by
  unfold f_E_led_51
  have := w32_sp ((s0 + s1))
  refine ok_let (fun x9 e2089 => ?_)
  have : (-2147483648 : Int) ≤ x9 ∧ x9 ≤ 2147483647 := by omega
  refine ok_call (s_F_stepsUp (g_self hG) (by omega) (by omega)) (fun r10 u11 q => ?_)
  obtain ⟨i2090, g2091⟩ := q
  have g2092 : G md_E_led b u11 := g_tr hG g2091 rfl
  have := imax_sp v3 r10
  refine ok_let (fun x12 e2093 => ?_)
  have : (0 : Int) ≤ x12 ∧ x12 ≤ 9 := by omega
  have := w32_sp ((v4 + (1 : Int)))
  refine ok_let (fun x13 e2094 => ?_)
  have : (1 : Int) ≤ x13 ∧ x13 ≤ 10 := by omega
  exact hk20 (by omega) g2092 (by omega) (by omega) (by omega) (by omega)
theorem s_E_led_20 {b : Wd} : ∀ (n : Nat) {w : Wd} {v1 v2 v3 v4 : Int}, ((11 : Int) - v4) < (n : Int) → G md_E_led b w → ((0 : Int) ≤ v1 ∧ v1 ≤ 9) → ((-2147483648 : Int) ≤ v2 ∧ v2 ≤ 2147483647) → ((0 : Int) ≤ v3 ∧ v3 ≤ 9) → ((0 : Int) ≤ v4 ∧ v4 ≤ 10) → OK (f_E_led_20 n v1 v2 v3 v4 w) (fun r u => ((-1 : Int) ≤ r ∧ r ≤ 1023) ∧ G md_E_led b u) := by
  intro n
  induction n with
  | zero =>
    intro w v1 v2 v3 v4 hm hG i_v1 i_v2 i_v3 i_v4
    exfalso
    omega
  | succ n ih =>
    intro w v1 v2 v3 v4 hm hG i_v1 i_v2 i_v3 i_v4
    rw [f_E_led_20]
    have : (0 : Int) ≤ (w 5 3) ∧ (w 5 3) ≤ 10 := hG.1 5 3
    have : (w 5 3) = (b 5 3) := hG.2.1 5 3 rfl
    refine ok_ite (fun h2095 => ?_) (fun h2096 => ?_)
    · refine ok_call (s_N_tell2 (g_self hG) (by omega) (by omega)) (fun r3 u4 q => ?_)
      obtain ⟨i2097, g2098⟩ := q
      have g2099 : G md_E_led b u4 := g_tr hG g2098 rfl
      refine ok_call (s_F_ledBy (g_self g2099) (by omega)) (fun r5 u6 q => ?_)
      obtain ⟨i2100, g2101⟩ := q
      have g2102 : G md_E_led b u6 := g_tr g2099 g2101 rfl
      exact ok_some ⟨by omega, g2102⟩
    · refine ok_call (s_F_broughtBy (g_self hG) (by omega)) (fun r7 u8 q => ?_)
      obtain ⟨i2103, g2104⟩ := q
      have g2105 : G md_E_led b u8 := g_tr hG g2104 rfl
      refine ok_ite (fun h2106 => ?_) (fun h2107 => ?_)
      · exact s_E_led_51 ih g2105 (by omega) (by omega) (by omega) (by omega) (by omega) (by omega)
      · exact s_E_led_51 ih g2105 (by omega) (by omega) (by omega) (by omega) (by omega) (by omega)
theorem s_E_led {w : Wd} {v1 : Int} (hG : G md_E_led w w) (i_v1 : ((-2147483648 : Int) ≤ v1 ∧ v1 ≤ 2147483647)) : OK (f_E_led v1 w) (fun r u => ((-1 : Int) ≤ r ∧ r ≤ 1023) ∧ G md_E_led w u) := by
  unfold f_E_led
  refine ok_jite (fun h2109 => ?_) (fun h2110 => ?_)
  · refine ok_jsome ?_
    refine ok_it (by decide) ?_
    exact ok_some ⟨by omega, hG⟩
  · have : (0 : Int) ≤ (w 5 3) ∧ (w 5 3) ≤ 10 := hG.1 5 3
    refine ok_jite (fun h2111 => ?_) (fun h2112 => ?_)
    · refine ok_jsome ?_
      refine ok_it (by decide) ?_
      exact ok_some ⟨by omega, hG⟩
    · refine ok_jsome ?_
      refine ok_if (by decide) ?_
      exact s_E_led_20 FU (by have := eqFU; omega) hG (by omega) (by omega) (by omega) (by omega)
theorem s_E_was_15 {b : Wd} {w : Wd} (hG : G md_E_was b w) : OK (f_E_was_15 w) (fun r u => ((-1 : Int) ≤ r ∧ r ≤ 1023) ∧ G md_E_was b u) := by
  unfold f_E_was_15
  exact ok_some ⟨by omega, hG⟩
theorem s_E_was {w : Wd} {v1 : Int} (hG : G md_E_was w w) (i_v1 : ((-2147483648 : Int) ≤ v1 ∧ v1 ≤ 2147483647)) : OK (f_E_was v1 w) (fun r u => ((-1 : Int) ≤ r ∧ r ≤ 1023) ∧ G md_E_was w u) := by
  unfold f_E_was
  refine ok_ite (fun h2113 => ?_) (fun h2114 => ?_)
  · exact s_E_was_15 hG
  · have : (0 : Int) ≤ (w 15 3) ∧ (w 15 3) ≤ 60 := hG.1 15 3
    refine ok_ite (fun h2115 => ?_) (fun h2116 => ?_)
    · refine ok_call (s_D_guestsBehind (g_self hG) (by omega)) (fun r1 u2 q => ?_)
      obtain ⟨i2117, g2118⟩ := q
      have g2119 : G md_E_was w u2 := g_tr hG g2118 rfl
      exact ok_some ⟨by omega, g2119⟩
    · exact s_E_was_15 hG
theorem s_E_common_16 {b : Wd} : ∀ (n : Nat) {w : Wd} {v2 v3 v4 : Int}, ((11 : Int) - v4) < (n : Int) → G md_E_common b w → ((0 : Int) ≤ v2 ∧ v2 ≤ 9) → ((-1 : Int) ≤ v3 ∧ v3 ≤ 9) → ((0 : Int) ≤ v4 ∧ v4 ≤ 10) → OK (f_E_common_16 n v2 v3 v4 w) (fun r u => ((-2 : Int) ≤ r ∧ r ≤ 9) ∧ G md_E_common b u) := by
  intro n
  induction n with
  | zero =>
    intro w v2 v3 v4 hm hG i_v2 i_v3 i_v4
    exfalso
    omega
  | succ n ih =>
    intro w v2 v3 v4 hm hG i_v2 i_v3 i_v4
    rw [f_E_common_16]
    have : (0 : Int) ≤ (w 5 3) ∧ (w 5 3) ≤ 10 := hG.1 5 3
    have : (w 5 3) = (b 5 3) := hG.2.1 5 3 rfl
    refine ok_ite (fun h2120 => ?_) (fun h2121 => ?_)
    · exact ok_some ⟨by omega, hG⟩
    · refine ok_ite (fun h2122 => ?_) (fun h2123 => ?_)
      · exact ok_some ⟨by omega, hG⟩
      · refine ok_call (s_F_stepsUp (g_self hG) (by omega) (by omega)) (fun r3 u4 q => ?_)
        obtain ⟨i2124, g2125⟩ := q
        have g2126 : G md_E_common b u4 := g_tr hG g2125 rfl
        refine ok_ite (fun h2127 => ?_) (fun h2128 => ?_)
        · refine ok_call (s_F_broughtBy (g_self g2126) (by omega)) (fun r5 u6 q => ?_)
          obtain ⟨i2129, g2130⟩ := q
          have g2131 : G md_E_common b u6 := g_tr g2126 g2130 rfl
          have := w32_sp ((v4 + (1 : Int)))
          refine ok_let (fun x7 e2132 => ?_)
          have : (1 : Int) ≤ x7 ∧ x7 ≤ 10 := by omega
          exact ih (by omega) g2131 (by omega) (by omega) (by omega)
        · exact ok_some ⟨by omega, g2126⟩
theorem s_E_common {w : Wd} {v1 v2 : Int} (hG : G md_E_common w w) (i_v1 : ((-2147483648 : Int) ≤ v1 ∧ v1 ≤ 2147483647)) (i_v2 : ((-2147483648 : Int) ≤ v2 ∧ v2 ≤ 2147483647)) : OK (f_E_common v1 v2 w) (fun r u => ((-2 : Int) ≤ r ∧ r ≤ 9) ∧ G md_E_common w u) := by
  unfold f_E_common
  refine ok_jite (fun h2134 => ?_) (fun h2135 => ?_)
  · refine ok_jsome ?_
    refine ok_it (by decide) ?_
    exact ok_some ⟨by omega, hG⟩
  · refine ok_jj ?_
    refine ok_jite (fun h2137 => ?_) (fun h2138 => ?_)
    · refine ok_jsome ?_
      refine ok_jit (by decide) ?_
      refine ok_jsome ?_
      refine ok_it (by decide) ?_
      exact ok_some ⟨by omega, hG⟩
    · have : (0 : Int) ≤ (w 5 3) ∧ (w 5 3) ≤ 10 := hG.1 5 3
      refine ok_jite (fun h2139 => ?_) (fun h2140 => ?_)
      · refine ok_jsome ?_
        refine ok_jit (by decide) ?_
        refine ok_jsome ?_
        refine ok_it (by decide) ?_
        exact ok_some ⟨by omega, hG⟩
      · refine ok_jsome ?_
        refine ok_jif (by decide) ?_
        refine ok_jj ?_
        refine ok_jite (fun h2142 => ?_) (fun h2143 => ?_)
        · refine ok_jsome ?_
          refine ok_jit (by decide) ?_
          refine ok_jsome ?_
          refine ok_it (by decide) ?_
          exact ok_some ⟨by omega, hG⟩
        · refine ok_jite (fun h2144 => ?_) (fun h2145 => ?_)
          · refine ok_jsome ?_
            refine ok_jit (by decide) ?_
            refine ok_jsome ?_
            refine ok_it (by decide) ?_
            exact ok_some ⟨by omega, hG⟩
          · refine ok_jsome ?_
            refine ok_jif (by decide) ?_
            refine ok_jsome ?_
            refine ok_if (by decide) ?_
            exact s_E_common_16 FU (by have := eqFU; omega) hG (by omega) (by omega) (by omega)
theorem s_E_father_41 {b : Wd} {k6 : Int → Int → Int → Wd → Option (Int × Wd)} {Bk6 : Int} (hk6 : ∀ {w1 : Wd} {v1 v2 v3 : Int}, ((11 : Int) - v3) < Bk6 → G md_E_father b w1 → ((-1 : Int) ≤ v1 ∧ v1 ≤ 9) → ((0 : Int) ≤ v2 ∧ v2 ≤ 63) → ((0 : Int) ≤ v3 ∧ v3 ≤ 10) → OK (k6 v1 v2 v3 w1) (fun r u => ((-2 : Int) ≤ r ∧ r ≤ 9) ∧ G md_E_father b u)) {w : Wd} {v1 v2 v3 : Int} (hG : G md_E_father b w) (i_v1 : ((-1 : Int) ≤ v1 ∧ v1 ≤ 9)) (i_v2 : ((0 : Int) ≤ v2 ∧ v2 ≤ 63)) (i_v3 : ((0 : Int) ≤ v3 ∧ v3 ≤ 9)) (hBk6 : ((11 : Int) - v3) ≤ Bk6) : OK (f_E_father_41 k6 v1 v2 v3 w) (fun r u => ((-2 : Int) ≤ r ∧ r ≤ 9) ∧ G md_E_father b u) := by
  unfold f_E_father_41
  have := w32_sp ((v3 + (1 : Int)))
  refine ok_let (fun x7 e2146 => ?_)
  have : (1 : Int) ≤ x7 ∧ x7 ≤ 10 := by omega
  exact hk6 (by omega) hG (by omega) (by omega) (by omega)
theorem s_E_father_6 {b : Wd} : ∀ (n : Nat) {w : Wd} {v1 v2 v3 : Int}, ((11 : Int) - v3) < (n : Int) → G md_E_father b w → ((-1 : Int) ≤ v1 ∧ v1 ≤ 9) → ((0 : Int) ≤ v2 ∧ v2 ≤ 63) → ((0 : Int) ≤ v3 ∧ v3 ≤ 10) → OK (f_E_father_6 n v1 v2 v3 w) (fun r u => ((-2 : Int) ≤ r ∧ r ≤ 9) ∧ G md_E_father b u) := by
  intro n
  induction n with
  | zero =>
    intro w v1 v2 v3 hm hG i_v1 i_v2 i_v3
    exfalso
    omega
  | succ n ih =>
    intro w v1 v2 v3 hm hG i_v1 i_v2 i_v3
    rw [f_E_father_6]
    have : (0 : Int) ≤ (w 5 3) ∧ (w 5 3) ≤ 10 := hG.1 5 3
    have : (w 5 3) = (b 5 3) := hG.2.1 5 3 rfl
    refine ok_ite (fun h2147 => ?_) (fun h2148 => ?_)
    · refine ok_ite (fun h2149 => ?_) (fun h2150 => ?_)
      · exact ok_some ⟨by omega, hG⟩
      · refine ok_call (s_N_tell1 (g_self hG) (by omega)) (fun r1 u2 q => ?_)
        obtain ⟨i2151, g2152⟩ := q
        have g2153 : G md_E_father b u2 := g_tr hG g2152 rfl
        exact ok_some ⟨by omega, g2153⟩
    · refine ok_call (s_F_ledBy (g_self hG) (by omega)) (fun r3 u4 q => ?_)
      obtain ⟨i2154, g2155⟩ := q
      have g2156 : G md_E_father b u4 := g_tr hG g2155 rfl
      refine ok_call (s_JI_bitCount (g_self g2156) (by omega)) (fun r5 u6 q => ?_)
      obtain ⟨i2157, g2158⟩ := q
      have g2159 : G md_E_father b u6 := g_tr g2156 g2158 rfl
      refine ok_ite (fun h2160 => ?_) (fun h2161 => ?_)
      · exact s_E_father_41 ih g2159 (by omega) (by omega) (by omega) (by omega)
      · exact s_E_father_41 ih g2159 (by omega) (by omega) (by omega) (by omega)
theorem s_E_father {w : Wd} (hG : G md_E_father w w) : OK (f_E_father w) (fun r u => ((-2 : Int) ≤ r ∧ r ≤ 9) ∧ G md_E_father w u) := by
  unfold f_E_father
  exact s_E_father_6 FU (by have := eqFU; omega) hG (by omega) (by omega) (by omega)
theorem s_K_take {w : Wd} (hG : G md_K_take w w) : OK (f_K_take w) (fun r u => ((0 : Int) ≤ r ∧ r ≤ 0) ∧ G md_K_take w u) := by
  unfold f_K_take
  refine ok_lw (fun u1 e2162 => ?_)
  have g2163 : G md_K_take w u1 := g_st hG e2162 rfl rfl (show (0 : Int) ≤ (1 : Int) ∧ (1 : Int) ≤ 1 by omega)
  have : (0 : Int) ≤ (u1 5 3) ∧ (u1 5 3) ≤ 10 := g2163.1 5 3
  have : (u1 5 3) = (w 5 3) := (congrFun (congrFun e2162 5) 3).trans (st_c (by decide))
  have : (0 : Int) ≤ (w 5 3) ∧ (w 5 3) ≤ 10 := hG.1 5 3
  refine ok_lw (fun u2 e2164 => ?_)
  have g2165 : G md_K_take w u2 := g_st g2163 e2164 rfl rfl (show (0 : Int) ≤ (u1 5 3) ∧ (u1 5 3) ≤ 10 by omega)
  have : (-2147483648 : Int) ≤ (u2 5 4) ∧ (u2 5 4) ≤ 2147483647 := g2165.1 5 4
  have : (u2 5 4) = (u1 5 4) := (congrFun (congrFun e2164 5) 4).trans (st_c (by decide))
  have : (-2147483648 : Int) ≤ (u1 5 4) ∧ (u1 5 4) ≤ 2147483647 := g2163.1 5 4
  have : (u1 5 4) = (w 5 4) := (congrFun (congrFun e2162 5) 4).trans (st_c (by decide))
  have : (-2147483648 : Int) ≤ (w 5 4) ∧ (w 5 4) ≤ 2147483647 := hG.1 5 4
  refine ok_lw (fun u3 e2166 => ?_)
  have g2167 : G md_K_take w u3 := g_st g2165 e2166 rfl rfl (show (-2147483648 : Int) ≤ (u2 5 4) ∧ (u2 5 4) ≤ 2147483647 by omega)
  have : (-2147483648 : Int) ≤ (u3 5 5) ∧ (u3 5 5) ≤ 2147483647 := g2167.1 5 5
  have : (u3 5 5) = (u2 5 5) := (congrFun (congrFun e2166 5) 5).trans (st_c (by decide))
  have : (-2147483648 : Int) ≤ (u2 5 5) ∧ (u2 5 5) ≤ 2147483647 := g2165.1 5 5
  have : (u2 5 5) = (u1 5 5) := (congrFun (congrFun e2164 5) 5).trans (st_c (by decide))
  have : (-2147483648 : Int) ≤ (u1 5 5) ∧ (u1 5 5) ≤ 2147483647 := g2163.1 5 5
  have : (u1 5 5) = (w 5 5) := (congrFun (congrFun e2162 5) 5).trans (st_c (by decide))
  have : (-2147483648 : Int) ≤ (w 5 5) ∧ (w 5 5) ≤ 2147483647 := hG.1 5 5
  refine ok_lw (fun u4 e2168 => ?_)
  have g2169 : G md_K_take w u4 := g_st g2167 e2168 rfl rfl (show (-2147483648 : Int) ≤ (u3 5 5) ∧ (u3 5 5) ≤ 2147483647 by omega)
  have : (-2147483648 : Int) ≤ (u4 5 6) ∧ (u4 5 6) ≤ 2147483647 := g2169.1 5 6
  have : (u4 5 6) = (u3 5 6) := (congrFun (congrFun e2168 5) 6).trans (st_c (by decide))
  have : (-2147483648 : Int) ≤ (u3 5 6) ∧ (u3 5 6) ≤ 2147483647 := g2167.1 5 6
  have : (u3 5 6) = (u2 5 6) := (congrFun (congrFun e2166 5) 6).trans (st_c (by decide))
  have : (-2147483648 : Int) ≤ (u2 5 6) ∧ (u2 5 6) ≤ 2147483647 := g2165.1 5 6
  have : (u2 5 6) = (u1 5 6) := (congrFun (congrFun e2164 5) 6).trans (st_c (by decide))
  have : (-2147483648 : Int) ≤ (u1 5 6) ∧ (u1 5 6) ≤ 2147483647 := g2163.1 5 6
  have : (u1 5 6) = (w 5 6) := (congrFun (congrFun e2162 5) 6).trans (st_c (by decide))
  have : (-2147483648 : Int) ≤ (w 5 6) ∧ (w 5 6) ≤ 2147483647 := hG.1 5 6
  refine ok_lw (fun u5 e2170 => ?_)
  have g2171 : G md_K_take w u5 := g_st g2169 e2170 rfl rfl (show (-2147483648 : Int) ≤ (u4 5 6) ∧ (u4 5 6) ≤ 2147483647 by omega)
  have : (0 : Int) ≤ (u5 5 7) ∧ (u5 5 7) ≤ 2147483647 := g2171.1 5 7
  have : (u5 5 7) = (u4 5 7) := (congrFun (congrFun e2170 5) 7).trans (st_c (by decide))
  have : (0 : Int) ≤ (u4 5 7) ∧ (u4 5 7) ≤ 2147483647 := g2169.1 5 7
  have : (u4 5 7) = (u3 5 7) := (congrFun (congrFun e2168 5) 7).trans (st_c (by decide))
  have : (0 : Int) ≤ (u3 5 7) ∧ (u3 5 7) ≤ 2147483647 := g2167.1 5 7
  have : (u3 5 7) = (u2 5 7) := (congrFun (congrFun e2166 5) 7).trans (st_c (by decide))
  have : (0 : Int) ≤ (u2 5 7) ∧ (u2 5 7) ≤ 2147483647 := g2165.1 5 7
  have : (u2 5 7) = (u1 5 7) := (congrFun (congrFun e2164 5) 7).trans (st_c (by decide))
  have : (0 : Int) ≤ (u1 5 7) ∧ (u1 5 7) ≤ 2147483647 := g2163.1 5 7
  have : (u1 5 7) = (w 5 7) := (congrFun (congrFun e2162 5) 7).trans (st_c (by decide))
  have : (0 : Int) ≤ (w 5 7) ∧ (w 5 7) ≤ 2147483647 := hG.1 5 7
  refine ok_lw (fun u6 e2172 => ?_)
  have g2173 : G md_K_take w u6 := g_st g2171 e2172 rfl rfl (show (0 : Int) ≤ (u5 5 7) ∧ (u5 5 7) ≤ 2147483647 by omega)
  have : (0 : Int) ≤ (u6 5 8) ∧ (u6 5 8) ≤ 2147483647 := g2173.1 5 8
  have : (u6 5 8) = (u5 5 8) := (congrFun (congrFun e2172 5) 8).trans (st_c (by decide))
  have : (0 : Int) ≤ (u5 5 8) ∧ (u5 5 8) ≤ 2147483647 := g2171.1 5 8
  have : (u5 5 8) = (u4 5 8) := (congrFun (congrFun e2170 5) 8).trans (st_c (by decide))
  have : (0 : Int) ≤ (u4 5 8) ∧ (u4 5 8) ≤ 2147483647 := g2169.1 5 8
  have : (u4 5 8) = (u3 5 8) := (congrFun (congrFun e2168 5) 8).trans (st_c (by decide))
  have : (0 : Int) ≤ (u3 5 8) ∧ (u3 5 8) ≤ 2147483647 := g2167.1 5 8
  have : (u3 5 8) = (u2 5 8) := (congrFun (congrFun e2166 5) 8).trans (st_c (by decide))
  have : (0 : Int) ≤ (u2 5 8) ∧ (u2 5 8) ≤ 2147483647 := g2165.1 5 8
  have : (u2 5 8) = (u1 5 8) := (congrFun (congrFun e2164 5) 8).trans (st_c (by decide))
  have : (0 : Int) ≤ (u1 5 8) ∧ (u1 5 8) ≤ 2147483647 := g2163.1 5 8
  have : (u1 5 8) = (w 5 8) := (congrFun (congrFun e2162 5) 8).trans (st_c (by decide))
  have : (0 : Int) ≤ (w 5 8) ∧ (w 5 8) ≤ 2147483647 := hG.1 5 8
  refine ok_lw (fun u7 e2174 => ?_)
  have g2175 : G md_K_take w u7 := g_st g2173 e2174 rfl rfl (show (0 : Int) ≤ (u6 5 8) ∧ (u6 5 8) ≤ 2147483647 by omega)
  have : (0 : Int) ≤ (u7 15 3) ∧ (u7 15 3) ≤ 60 := g2175.1 15 3
  have : (u7 15 3) = (u6 15 3) := (congrFun (congrFun e2174 15) 3).trans (st_c (by decide))
  have : (0 : Int) ≤ (u6 15 3) ∧ (u6 15 3) ≤ 60 := g2173.1 15 3
  have : (u6 15 3) = (u5 15 3) := (congrFun (congrFun e2172 15) 3).trans (st_c (by decide))
  have : (0 : Int) ≤ (u5 15 3) ∧ (u5 15 3) ≤ 60 := g2171.1 15 3
  have : (u5 15 3) = (u4 15 3) := (congrFun (congrFun e2170 15) 3).trans (st_c (by decide))
  have : (0 : Int) ≤ (u4 15 3) ∧ (u4 15 3) ≤ 60 := g2169.1 15 3
  have : (u4 15 3) = (u3 15 3) := (congrFun (congrFun e2168 15) 3).trans (st_c (by decide))
  have : (0 : Int) ≤ (u3 15 3) ∧ (u3 15 3) ≤ 60 := g2167.1 15 3
  have : (u3 15 3) = (u2 15 3) := (congrFun (congrFun e2166 15) 3).trans (st_c (by decide))
  have : (0 : Int) ≤ (u2 15 3) ∧ (u2 15 3) ≤ 60 := g2165.1 15 3
  have : (u2 15 3) = (u1 15 3) := (congrFun (congrFun e2164 15) 3).trans (st_c (by decide))
  have : (0 : Int) ≤ (u1 15 3) ∧ (u1 15 3) ≤ 60 := g2163.1 15 3
  have : (u1 15 3) = (w 15 3) := (congrFun (congrFun e2162 15) 3).trans (st_c (by decide))
  have : (0 : Int) ≤ (w 15 3) ∧ (w 15 3) ≤ 60 := hG.1 15 3
  refine ok_lw (fun u8 e2176 => ?_)
  have g2177 : G md_K_take w u8 := g_st g2175 e2176 rfl rfl (show (0 : Int) ≤ (u7 15 3) ∧ (u7 15 3) ≤ 60 by omega)
  refine ok_gd (by omega) ?_
  refine ok_lw (fun u9 e2178 => ?_)
  have g2179 : G md_K_take w u9 := g_cpy g2177 e2178 rfl rfl (fun _ _ => show (-1 : Int) ≤ -1 ∧ (9 : Int) ≤ 9 by decide)
  refine ok_gd (by omega) ?_
  refine ok_lw (fun u10 e2180 => ?_)
  have g2181 : G md_K_take w u10 := g_cpy g2179 e2180 rfl rfl (fun _ _ => show (0 : Int) ≤ 0 ∧ (1023 : Int) ≤ 1023 by decide)
  exact ok_some ⟨by omega, g2181⟩
theorem s_K_take_40_5_15 {w : Wd} (hG : G md_K_take_40_5_15 w w) : OK (f_K_take_40_5_15 w) (fun r u => ((0 : Int) ≤ r ∧ r ≤ 0) ∧ G md_K_take_40_5_15 w u) := by
  unfold f_K_take_40_5_15
  refine ok_lw (fun u1 e2182 => ?_)
  have g2183 : G md_K_take_40_5_15 w u1 := g_st hG e2182 rfl rfl (show (0 : Int) ≤ (1 : Int) ∧ (1 : Int) ≤ 1 by omega)
  have : (0 : Int) ≤ (u1 5 3) ∧ (u1 5 3) ≤ 10 := g2183.1 5 3
  have : (u1 5 3) = (w 5 3) := (congrFun (congrFun e2182 5) 3).trans (st_c (by decide))
  have : (0 : Int) ≤ (w 5 3) ∧ (w 5 3) ≤ 10 := hG.1 5 3
  refine ok_lw (fun u2 e2184 => ?_)
  have g2185 : G md_K_take_40_5_15 w u2 := g_st g2183 e2184 rfl rfl (show (0 : Int) ≤ (u1 5 3) ∧ (u1 5 3) ≤ 10 by omega)
  have : (-2147483648 : Int) ≤ (u2 5 4) ∧ (u2 5 4) ≤ 2147483647 := g2185.1 5 4
  have : (u2 5 4) = (u1 5 4) := (congrFun (congrFun e2184 5) 4).trans (st_c (by decide))
  have : (-2147483648 : Int) ≤ (u1 5 4) ∧ (u1 5 4) ≤ 2147483647 := g2183.1 5 4
  have : (u1 5 4) = (w 5 4) := (congrFun (congrFun e2182 5) 4).trans (st_c (by decide))
  have : (-2147483648 : Int) ≤ (w 5 4) ∧ (w 5 4) ≤ 2147483647 := hG.1 5 4
  refine ok_lw (fun u3 e2186 => ?_)
  have g2187 : G md_K_take_40_5_15 w u3 := g_st g2185 e2186 rfl rfl (show (-2147483648 : Int) ≤ (u2 5 4) ∧ (u2 5 4) ≤ 2147483647 by omega)
  have : (-2147483648 : Int) ≤ (u3 5 5) ∧ (u3 5 5) ≤ 2147483647 := g2187.1 5 5
  have : (u3 5 5) = (u2 5 5) := (congrFun (congrFun e2186 5) 5).trans (st_c (by decide))
  have : (-2147483648 : Int) ≤ (u2 5 5) ∧ (u2 5 5) ≤ 2147483647 := g2185.1 5 5
  have : (u2 5 5) = (u1 5 5) := (congrFun (congrFun e2184 5) 5).trans (st_c (by decide))
  have : (-2147483648 : Int) ≤ (u1 5 5) ∧ (u1 5 5) ≤ 2147483647 := g2183.1 5 5
  have : (u1 5 5) = (w 5 5) := (congrFun (congrFun e2182 5) 5).trans (st_c (by decide))
  have : (-2147483648 : Int) ≤ (w 5 5) ∧ (w 5 5) ≤ 2147483647 := hG.1 5 5
  refine ok_lw (fun u4 e2188 => ?_)
  have g2189 : G md_K_take_40_5_15 w u4 := g_st g2187 e2188 rfl rfl (show (-2147483648 : Int) ≤ (u3 5 5) ∧ (u3 5 5) ≤ 2147483647 by omega)
  have : (-2147483648 : Int) ≤ (u4 5 6) ∧ (u4 5 6) ≤ 2147483647 := g2189.1 5 6
  have : (u4 5 6) = (u3 5 6) := (congrFun (congrFun e2188 5) 6).trans (st_c (by decide))
  have : (-2147483648 : Int) ≤ (u3 5 6) ∧ (u3 5 6) ≤ 2147483647 := g2187.1 5 6
  have : (u3 5 6) = (u2 5 6) := (congrFun (congrFun e2186 5) 6).trans (st_c (by decide))
  have : (-2147483648 : Int) ≤ (u2 5 6) ∧ (u2 5 6) ≤ 2147483647 := g2185.1 5 6
  have : (u2 5 6) = (u1 5 6) := (congrFun (congrFun e2184 5) 6).trans (st_c (by decide))
  have : (-2147483648 : Int) ≤ (u1 5 6) ∧ (u1 5 6) ≤ 2147483647 := g2183.1 5 6
  have : (u1 5 6) = (w 5 6) := (congrFun (congrFun e2182 5) 6).trans (st_c (by decide))
  have : (-2147483648 : Int) ≤ (w 5 6) ∧ (w 5 6) ≤ 2147483647 := hG.1 5 6
  refine ok_lw (fun u5 e2190 => ?_)
  have g2191 : G md_K_take_40_5_15 w u5 := g_st g2189 e2190 rfl rfl (show (-2147483648 : Int) ≤ (u4 5 6) ∧ (u4 5 6) ≤ 2147483647 by omega)
  have : (0 : Int) ≤ (u5 5 7) ∧ (u5 5 7) ≤ 2147483647 := g2191.1 5 7
  have : (u5 5 7) = (u4 5 7) := (congrFun (congrFun e2190 5) 7).trans (st_c (by decide))
  have : (0 : Int) ≤ (u4 5 7) ∧ (u4 5 7) ≤ 2147483647 := g2189.1 5 7
  have : (u4 5 7) = (u3 5 7) := (congrFun (congrFun e2188 5) 7).trans (st_c (by decide))
  have : (0 : Int) ≤ (u3 5 7) ∧ (u3 5 7) ≤ 2147483647 := g2187.1 5 7
  have : (u3 5 7) = (u2 5 7) := (congrFun (congrFun e2186 5) 7).trans (st_c (by decide))
  have : (0 : Int) ≤ (u2 5 7) ∧ (u2 5 7) ≤ 2147483647 := g2185.1 5 7
  have : (u2 5 7) = (u1 5 7) := (congrFun (congrFun e2184 5) 7).trans (st_c (by decide))
  have : (0 : Int) ≤ (u1 5 7) ∧ (u1 5 7) ≤ 2147483647 := g2183.1 5 7
  have : (u1 5 7) = (w 5 7) := (congrFun (congrFun e2182 5) 7).trans (st_c (by decide))
  have : (0 : Int) ≤ (w 5 7) ∧ (w 5 7) ≤ 2147483647 := hG.1 5 7
  refine ok_lw (fun u6 e2192 => ?_)
  have g2193 : G md_K_take_40_5_15 w u6 := g_st g2191 e2192 rfl rfl (show (0 : Int) ≤ (u5 5 7) ∧ (u5 5 7) ≤ 2147483647 by omega)
  have : (0 : Int) ≤ (u6 5 8) ∧ (u6 5 8) ≤ 2147483647 := g2193.1 5 8
  have : (u6 5 8) = (u5 5 8) := (congrFun (congrFun e2192 5) 8).trans (st_c (by decide))
  have : (0 : Int) ≤ (u5 5 8) ∧ (u5 5 8) ≤ 2147483647 := g2191.1 5 8
  have : (u5 5 8) = (u4 5 8) := (congrFun (congrFun e2190 5) 8).trans (st_c (by decide))
  have : (0 : Int) ≤ (u4 5 8) ∧ (u4 5 8) ≤ 2147483647 := g2189.1 5 8
  have : (u4 5 8) = (u3 5 8) := (congrFun (congrFun e2188 5) 8).trans (st_c (by decide))
  have : (0 : Int) ≤ (u3 5 8) ∧ (u3 5 8) ≤ 2147483647 := g2187.1 5 8
  have : (u3 5 8) = (u2 5 8) := (congrFun (congrFun e2186 5) 8).trans (st_c (by decide))
  have : (0 : Int) ≤ (u2 5 8) ∧ (u2 5 8) ≤ 2147483647 := g2185.1 5 8
  have : (u2 5 8) = (u1 5 8) := (congrFun (congrFun e2184 5) 8).trans (st_c (by decide))
  have : (0 : Int) ≤ (u1 5 8) ∧ (u1 5 8) ≤ 2147483647 := g2183.1 5 8
  have : (u1 5 8) = (w 5 8) := (congrFun (congrFun e2182 5) 8).trans (st_c (by decide))
  have : (0 : Int) ≤ (w 5 8) ∧ (w 5 8) ≤ 2147483647 := hG.1 5 8
  refine ok_lw (fun u7 e2194 => ?_)
  have g2195 : G md_K_take_40_5_15 w u7 := g_st g2193 e2194 rfl rfl (show (0 : Int) ≤ (u6 5 8) ∧ (u6 5 8) ≤ 2147483647 by omega)
  have : (0 : Int) ≤ (u7 15 3) ∧ (u7 15 3) ≤ 60 := g2195.1 15 3
  have : (u7 15 3) = (u6 15 3) := (congrFun (congrFun e2194 15) 3).trans (st_c (by decide))
  have : (0 : Int) ≤ (u6 15 3) ∧ (u6 15 3) ≤ 60 := g2193.1 15 3
  have : (u6 15 3) = (u5 15 3) := (congrFun (congrFun e2192 15) 3).trans (st_c (by decide))
  have : (0 : Int) ≤ (u5 15 3) ∧ (u5 15 3) ≤ 60 := g2191.1 15 3
  have : (u5 15 3) = (u4 15 3) := (congrFun (congrFun e2190 15) 3).trans (st_c (by decide))
  have : (0 : Int) ≤ (u4 15 3) ∧ (u4 15 3) ≤ 60 := g2189.1 15 3
  have : (u4 15 3) = (u3 15 3) := (congrFun (congrFun e2188 15) 3).trans (st_c (by decide))
  have : (0 : Int) ≤ (u3 15 3) ∧ (u3 15 3) ≤ 60 := g2187.1 15 3
  have : (u3 15 3) = (u2 15 3) := (congrFun (congrFun e2186 15) 3).trans (st_c (by decide))
  have : (0 : Int) ≤ (u2 15 3) ∧ (u2 15 3) ≤ 60 := g2185.1 15 3
  have : (u2 15 3) = (u1 15 3) := (congrFun (congrFun e2184 15) 3).trans (st_c (by decide))
  have : (0 : Int) ≤ (u1 15 3) ∧ (u1 15 3) ≤ 60 := g2183.1 15 3
  have : (u1 15 3) = (w 15 3) := (congrFun (congrFun e2182 15) 3).trans (st_c (by decide))
  have : (0 : Int) ≤ (w 15 3) ∧ (w 15 3) ≤ 60 := hG.1 15 3
  refine ok_lw (fun u8 e2196 => ?_)
  have g2197 : G md_K_take_40_5_15 w u8 := g_st g2195 e2196 rfl rfl (show (0 : Int) ≤ (u7 15 3) ∧ (u7 15 3) ≤ 60 by omega)
  refine ok_gd (by omega) ?_
  refine ok_lw (fun u9 e2198 => ?_)
  have g2199 : G md_K_take_40_5_15 w u9 := g_cpy g2197 e2198 rfl rfl (fun _ _ => show (-1 : Int) ≤ -1 ∧ (9 : Int) ≤ 9 by decide)
  refine ok_gd (by omega) ?_
  refine ok_lw (fun u10 e2200 => ?_)
  have g2201 : G md_K_take_40_5_15 w u10 := g_cpy g2199 e2200 rfl rfl (fun _ _ => show (0 : Int) ≤ 0 ∧ (1023 : Int) ≤ 1023 by decide)
  exact ok_some ⟨by omega, g2201⟩
theorem s_E_keep {w : Wd} {v1 : Int} (hG : G md_E_keep w w) (i_v1 : ((-2147483648 : Int) ≤ v1 ∧ v1 ≤ 2147483647)) : OK (f_E_keep v1 w) (fun r u => ((0 : Int) ≤ r ∧ r ≤ 1) ∧ G md_E_keep w u) := by
  unfold f_E_keep
  refine ok_ite (fun h2202 => ?_) (fun h2203 => ?_)
  · exact ok_some ⟨by omega, hG⟩
  · refine ok_ite (fun h2204 => ?_) (fun h2205 => ?_)
    · refine ok_ite (fun h2206 => ?_) (fun h2207 => ?_)
      · refine ok_call (s_K_take (g_self hG)) (fun r1 u2 q => ?_)
        obtain ⟨i2208, g2209⟩ := q
        have g2210 : G md_E_keep w u2 := g_tr hG g2209 rfl
        exact ok_some ⟨by omega, g2210⟩
      · refine ok_it (by omega) ?_
        refine ok_call (s_K_take_40_5_15 (g_self hG)) (fun r3 u4 q => ?_)
        obtain ⟨i2211, g2212⟩ := q
        have g2213 : G md_E_keep w u4 := g_tr hG g2212 rfl
        exact ok_some ⟨by omega, g2213⟩
    · exact ok_some ⟨by omega, hG⟩
theorem s_K_fits {w : Wd} (hG : G md_K_fits w w) : OK (f_K_fits w) (fun r u => ((0 : Int) ≤ r ∧ r ≤ 1) ∧ G md_K_fits w u) := by
  unfold f_K_fits
  have : (0 : Int) ≤ (w 37 2) ∧ (w 37 2) ≤ 1 := hG.1 37 2
  refine ok_ite (fun h2214 => ?_) (fun h2215 => ?_)
  · exact ok_some ⟨by omega, hG⟩
  · have : (0 : Int) ≤ (w 37 3) ∧ (w 37 3) ≤ 10 := hG.1 37 3
    have : (0 : Int) ≤ (w 5 3) ∧ (w 5 3) ≤ 10 := hG.1 5 3
    refine ok_ite (fun h2216 => ?_) (fun h2217 => ?_)
    · exact ok_some ⟨by omega, hG⟩
    · exact ok_some ⟨by omega, hG⟩
theorem s_K_giveBack {w : Wd} (hG : G md_K_giveBack w w) : OK (f_K_giveBack w) (fun r u => ((0 : Int) ≤ r ∧ r ≤ 0) ∧ G md_K_giveBack w u) := by
  unfold f_K_giveBack
  have : (-2147483648 : Int) ≤ (w 37 4) ∧ (w 37 4) ≤ 2147483647 := hG.1 37 4
  refine ok_lw (fun u1 e2218 => ?_)
  have g2219 : G md_K_giveBack w u1 := g_st hG e2218 rfl rfl (show (-2147483648 : Int) ≤ (w 37 4) ∧ (w 37 4) ≤ 2147483647 by omega)
  have : (-2147483648 : Int) ≤ (u1 37 5) ∧ (u1 37 5) ≤ 2147483647 := g2219.1 37 5
  have : (u1 37 5) = (w 37 5) := (congrFun (congrFun e2218 37) 5).trans (st_c (by decide))
  have : (-2147483648 : Int) ≤ (w 37 5) ∧ (w 37 5) ≤ 2147483647 := hG.1 37 5
  refine ok_lw (fun u2 e2220 => ?_)
  have g2221 : G md_K_giveBack w u2 := g_st g2219 e2220 rfl rfl (show (-2147483648 : Int) ≤ (u1 37 5) ∧ (u1 37 5) ≤ 2147483647 by omega)
  have : (-2147483648 : Int) ≤ (u2 37 6) ∧ (u2 37 6) ≤ 2147483647 := g2221.1 37 6
  have : (u2 37 6) = (u1 37 6) := (congrFun (congrFun e2220 37) 6).trans (st_c (by decide))
  have : (-2147483648 : Int) ≤ (u1 37 6) ∧ (u1 37 6) ≤ 2147483647 := g2219.1 37 6
  have : (u1 37 6) = (w 37 6) := (congrFun (congrFun e2218 37) 6).trans (st_c (by decide))
  have : (-2147483648 : Int) ≤ (w 37 6) ∧ (w 37 6) ≤ 2147483647 := hG.1 37 6
  refine ok_lw (fun u3 e2222 => ?_)
  have g2223 : G md_K_giveBack w u3 := g_st g2221 e2222 rfl rfl (show (-2147483648 : Int) ≤ (u2 37 6) ∧ (u2 37 6) ≤ 2147483647 by omega)
  have : (0 : Int) ≤ (u3 37 7) ∧ (u3 37 7) ≤ 2147483647 := g2223.1 37 7
  have : (u3 37 7) = (u2 37 7) := (congrFun (congrFun e2222 37) 7).trans (st_c (by decide))
  have : (0 : Int) ≤ (u2 37 7) ∧ (u2 37 7) ≤ 2147483647 := g2221.1 37 7
  have : (u2 37 7) = (u1 37 7) := (congrFun (congrFun e2220 37) 7).trans (st_c (by decide))
  have : (0 : Int) ≤ (u1 37 7) ∧ (u1 37 7) ≤ 2147483647 := g2219.1 37 7
  have : (u1 37 7) = (w 37 7) := (congrFun (congrFun e2218 37) 7).trans (st_c (by decide))
  have : (0 : Int) ≤ (w 37 7) ∧ (w 37 7) ≤ 2147483647 := hG.1 37 7
  refine ok_lw (fun u4 e2224 => ?_)
  have g2225 : G md_K_giveBack w u4 := g_st g2223 e2224 rfl rfl (show (0 : Int) ≤ (u3 37 7) ∧ (u3 37 7) ≤ 2147483647 by omega)
  have : (0 : Int) ≤ (u4 37 8) ∧ (u4 37 8) ≤ 2147483647 := g2225.1 37 8
  have : (u4 37 8) = (u3 37 8) := (congrFun (congrFun e2224 37) 8).trans (st_c (by decide))
  have : (0 : Int) ≤ (u3 37 8) ∧ (u3 37 8) ≤ 2147483647 := g2223.1 37 8
  have : (u3 37 8) = (u2 37 8) := (congrFun (congrFun e2222 37) 8).trans (st_c (by decide))
  have : (0 : Int) ≤ (u2 37 8) ∧ (u2 37 8) ≤ 2147483647 := g2221.1 37 8
  have : (u2 37 8) = (u1 37 8) := (congrFun (congrFun e2220 37) 8).trans (st_c (by decide))
  have : (0 : Int) ≤ (u1 37 8) ∧ (u1 37 8) ≤ 2147483647 := g2219.1 37 8
  have : (u1 37 8) = (w 37 8) := (congrFun (congrFun e2218 37) 8).trans (st_c (by decide))
  have : (0 : Int) ≤ (w 37 8) ∧ (w 37 8) ≤ 2147483647 := hG.1 37 8
  refine ok_lw (fun u5 e2226 => ?_)
  have g2227 : G md_K_giveBack w u5 := g_st g2225 e2226 rfl rfl (show (0 : Int) ≤ (u4 37 8) ∧ (u4 37 8) ≤ 2147483647 by omega)
  have : (0 : Int) ≤ (u5 37 9) ∧ (u5 37 9) ≤ 60 := g2227.1 37 9
  have : (u5 37 9) = (u4 37 9) := (congrFun (congrFun e2226 37) 9).trans (st_c (by decide))
  have : (0 : Int) ≤ (u4 37 9) ∧ (u4 37 9) ≤ 60 := g2225.1 37 9
  have : (u4 37 9) = (u3 37 9) := (congrFun (congrFun e2224 37) 9).trans (st_c (by decide))
  have : (0 : Int) ≤ (u3 37 9) ∧ (u3 37 9) ≤ 60 := g2223.1 37 9
  have : (u3 37 9) = (u2 37 9) := (congrFun (congrFun e2222 37) 9).trans (st_c (by decide))
  have : (0 : Int) ≤ (u2 37 9) ∧ (u2 37 9) ≤ 60 := g2221.1 37 9
  have : (u2 37 9) = (u1 37 9) := (congrFun (congrFun e2220 37) 9).trans (st_c (by decide))
  have : (0 : Int) ≤ (u1 37 9) ∧ (u1 37 9) ≤ 60 := g2219.1 37 9
  have : (u1 37 9) = (w 37 9) := (congrFun (congrFun e2218 37) 9).trans (st_c (by decide))
  have : (0 : Int) ≤ (w 37 9) ∧ (w 37 9) ≤ 60 := hG.1 37 9
  refine ok_lw (fun u6 e2228 => ?_)
  have g2229 : G md_K_giveBack w u6 := g_st g2227 e2228 rfl rfl (show (0 : Int) ≤ (u5 37 9) ∧ (u5 37 9) ≤ 60 by omega)
  refine ok_lw (fun u7 e2230 => ?_)
  have g2231 : G md_K_giveBack w u7 := g_st g2229 e2230 rfl rfl (show (-2147483648 : Int) ≤ (0 : Int) ∧ (0 : Int) ≤ 2147483647 by omega)
  refine ok_gd (by omega) ?_
  refine ok_lw (fun u8 e2232 => ?_)
  have g2233 : G md_K_giveBack w u8 := g_cpy g2231 e2232 rfl rfl (fun _ _ => show (-1 : Int) ≤ -1 ∧ (9 : Int) ≤ 9 by decide)
  refine ok_gd (by omega) ?_
  refine ok_lw (fun u9 e2234 => ?_)
  have g2235 : G md_K_giveBack w u9 := g_cpy g2233 e2234 rfl rfl (fun _ _ => show (0 : Int) ≤ 0 ∧ (1023 : Int) ≤ 1023 by decide)
  exact ok_some ⟨by omega, g2235⟩
theorem s_K_giveBack_40_5_15 {w : Wd} (hG : G md_K_giveBack_40_5_15 w w) : OK (f_K_giveBack_40_5_15 w) (fun r u => ((0 : Int) ≤ r ∧ r ≤ 0) ∧ G md_K_giveBack_40_5_15 w u) := by
  unfold f_K_giveBack_40_5_15
  have : (-2147483648 : Int) ≤ (w 40 4) ∧ (w 40 4) ≤ 2147483647 := hG.1 40 4
  refine ok_lw (fun u1 e2236 => ?_)
  have g2237 : G md_K_giveBack_40_5_15 w u1 := g_st hG e2236 rfl rfl (show (-2147483648 : Int) ≤ (w 40 4) ∧ (w 40 4) ≤ 2147483647 by omega)
  have : (-2147483648 : Int) ≤ (u1 40 5) ∧ (u1 40 5) ≤ 2147483647 := g2237.1 40 5
  have : (u1 40 5) = (w 40 5) := (congrFun (congrFun e2236 40) 5).trans (st_c (by decide))
  have : (-2147483648 : Int) ≤ (w 40 5) ∧ (w 40 5) ≤ 2147483647 := hG.1 40 5
  refine ok_lw (fun u2 e2238 => ?_)
  have g2239 : G md_K_giveBack_40_5_15 w u2 := g_st g2237 e2238 rfl rfl (show (-2147483648 : Int) ≤ (u1 40 5) ∧ (u1 40 5) ≤ 2147483647 by omega)
  have : (-2147483648 : Int) ≤ (u2 40 6) ∧ (u2 40 6) ≤ 2147483647 := g2239.1 40 6
  have : (u2 40 6) = (u1 40 6) := (congrFun (congrFun e2238 40) 6).trans (st_c (by decide))
  have : (-2147483648 : Int) ≤ (u1 40 6) ∧ (u1 40 6) ≤ 2147483647 := g2237.1 40 6
  have : (u1 40 6) = (w 40 6) := (congrFun (congrFun e2236 40) 6).trans (st_c (by decide))
  have : (-2147483648 : Int) ≤ (w 40 6) ∧ (w 40 6) ≤ 2147483647 := hG.1 40 6
  refine ok_lw (fun u3 e2240 => ?_)
  have g2241 : G md_K_giveBack_40_5_15 w u3 := g_st g2239 e2240 rfl rfl (show (-2147483648 : Int) ≤ (u2 40 6) ∧ (u2 40 6) ≤ 2147483647 by omega)
  have : (0 : Int) ≤ (u3 40 7) ∧ (u3 40 7) ≤ 2147483647 := g2241.1 40 7
  have : (u3 40 7) = (u2 40 7) := (congrFun (congrFun e2240 40) 7).trans (st_c (by decide))
  have : (0 : Int) ≤ (u2 40 7) ∧ (u2 40 7) ≤ 2147483647 := g2239.1 40 7
  have : (u2 40 7) = (u1 40 7) := (congrFun (congrFun e2238 40) 7).trans (st_c (by decide))
  have : (0 : Int) ≤ (u1 40 7) ∧ (u1 40 7) ≤ 2147483647 := g2237.1 40 7
  have : (u1 40 7) = (w 40 7) := (congrFun (congrFun e2236 40) 7).trans (st_c (by decide))
  have : (0 : Int) ≤ (w 40 7) ∧ (w 40 7) ≤ 2147483647 := hG.1 40 7
  refine ok_lw (fun u4 e2242 => ?_)
  have g2243 : G md_K_giveBack_40_5_15 w u4 := g_st g2241 e2242 rfl rfl (show (0 : Int) ≤ (u3 40 7) ∧ (u3 40 7) ≤ 2147483647 by omega)
  have : (0 : Int) ≤ (u4 40 8) ∧ (u4 40 8) ≤ 2147483647 := g2243.1 40 8
  have : (u4 40 8) = (u3 40 8) := (congrFun (congrFun e2242 40) 8).trans (st_c (by decide))
  have : (0 : Int) ≤ (u3 40 8) ∧ (u3 40 8) ≤ 2147483647 := g2241.1 40 8
  have : (u3 40 8) = (u2 40 8) := (congrFun (congrFun e2240 40) 8).trans (st_c (by decide))
  have : (0 : Int) ≤ (u2 40 8) ∧ (u2 40 8) ≤ 2147483647 := g2239.1 40 8
  have : (u2 40 8) = (u1 40 8) := (congrFun (congrFun e2238 40) 8).trans (st_c (by decide))
  have : (0 : Int) ≤ (u1 40 8) ∧ (u1 40 8) ≤ 2147483647 := g2237.1 40 8
  have : (u1 40 8) = (w 40 8) := (congrFun (congrFun e2236 40) 8).trans (st_c (by decide))
  have : (0 : Int) ≤ (w 40 8) ∧ (w 40 8) ≤ 2147483647 := hG.1 40 8
  refine ok_lw (fun u5 e2244 => ?_)
  have g2245 : G md_K_giveBack_40_5_15 w u5 := g_st g2243 e2244 rfl rfl (show (0 : Int) ≤ (u4 40 8) ∧ (u4 40 8) ≤ 2147483647 by omega)
  have : (0 : Int) ≤ (u5 40 9) ∧ (u5 40 9) ≤ 60 := g2245.1 40 9
  have : (u5 40 9) = (u4 40 9) := (congrFun (congrFun e2244 40) 9).trans (st_c (by decide))
  have : (0 : Int) ≤ (u4 40 9) ∧ (u4 40 9) ≤ 60 := g2243.1 40 9
  have : (u4 40 9) = (u3 40 9) := (congrFun (congrFun e2242 40) 9).trans (st_c (by decide))
  have : (0 : Int) ≤ (u3 40 9) ∧ (u3 40 9) ≤ 60 := g2241.1 40 9
  have : (u3 40 9) = (u2 40 9) := (congrFun (congrFun e2240 40) 9).trans (st_c (by decide))
  have : (0 : Int) ≤ (u2 40 9) ∧ (u2 40 9) ≤ 60 := g2239.1 40 9
  have : (u2 40 9) = (u1 40 9) := (congrFun (congrFun e2238 40) 9).trans (st_c (by decide))
  have : (0 : Int) ≤ (u1 40 9) ∧ (u1 40 9) ≤ 60 := g2237.1 40 9
  have : (u1 40 9) = (w 40 9) := (congrFun (congrFun e2236 40) 9).trans (st_c (by decide))
  have : (0 : Int) ≤ (w 40 9) ∧ (w 40 9) ≤ 60 := hG.1 40 9
  refine ok_lw (fun u6 e2246 => ?_)
  have g2247 : G md_K_giveBack_40_5_15 w u6 := g_st g2245 e2246 rfl rfl (show (0 : Int) ≤ (u5 40 9) ∧ (u5 40 9) ≤ 60 by omega)
  refine ok_lw (fun u7 e2248 => ?_)
  have g2249 : G md_K_giveBack_40_5_15 w u7 := g_st g2247 e2248 rfl rfl (show (-2147483648 : Int) ≤ (0 : Int) ∧ (0 : Int) ≤ 2147483647 by omega)
  refine ok_gd (by omega) ?_
  refine ok_lw (fun u8 e2250 => ?_)
  have g2251 : G md_K_giveBack_40_5_15 w u8 := g_cpy g2249 e2250 rfl rfl (fun _ _ => show (-1 : Int) ≤ -1 ∧ (9 : Int) ≤ 9 by decide)
  refine ok_gd (by omega) ?_
  refine ok_lw (fun u9 e2252 => ?_)
  have g2253 : G md_K_giveBack_40_5_15 w u9 := g_cpy g2251 e2252 rfl rfl (fun _ _ => show (0 : Int) ≤ 0 ∧ (1023 : Int) ≤ 1023 by decide)
  exact ok_some ⟨by omega, g2253⟩
theorem s_K_fits_40_5 {w : Wd} (hG : G md_K_fits_40_5 w w) : OK (f_K_fits_40_5 w) (fun r u => ((0 : Int) ≤ r ∧ r ≤ 1) ∧ G md_K_fits_40_5 w u) := by
  unfold f_K_fits_40_5
  have : (0 : Int) ≤ (w 40 2) ∧ (w 40 2) ≤ 1 := hG.1 40 2
  refine ok_ite (fun h2254 => ?_) (fun h2255 => ?_)
  · exact ok_some ⟨by omega, hG⟩
  · have : (0 : Int) ≤ (w 40 3) ∧ (w 40 3) ≤ 10 := hG.1 40 3
    have : (0 : Int) ≤ (w 5 3) ∧ (w 5 3) ≤ 10 := hG.1 5 3
    refine ok_ite (fun h2256 => ?_) (fun h2257 => ?_)
    · exact ok_some ⟨by omega, hG⟩
    · exact ok_some ⟨by omega, hG⟩
theorem s_E_again {w : Wd} {v1 : Int} (hG : G md_E_again w w) (i_v1 : ((-2147483648 : Int) ≤ v1 ∧ v1 ≤ 2147483647)) : OK (f_E_again v1 w) (fun r u => ((0 : Int) ≤ r ∧ r ≤ 1) ∧ G md_E_again w u) := by
  unfold f_E_again
  refine ok_ite (fun h2258 => ?_) (fun h2259 => ?_)
  · exact ok_some ⟨by omega, hG⟩
  · refine ok_ite (fun h2260 => ?_) (fun h2261 => ?_)
    · exact ok_some ⟨by omega, hG⟩
    · refine ok_ite (fun h2262 => ?_) (fun h2263 => ?_)
      · refine ok_call (s_K_fits (g_self hG)) (fun r1 u2 q => ?_)
        obtain ⟨i2264, g2265⟩ := q
        have g2266 : G md_E_again w u2 := g_tr hG g2265 rfl
        refine ok_ite (fun h2267 => ?_) (fun h2268 => ?_)
        · exact ok_some ⟨by omega, g2266⟩
        · refine ok_it (by omega) ?_
          refine ok_call (s_K_giveBack (g_self g2266)) (fun r3 u4 q => ?_)
          obtain ⟨i2269, g2270⟩ := q
          have g2271 : G md_E_again w u4 := g_tr g2266 g2270 rfl
          refine ok_call (s_S_forget (g_self g2271)) (fun r5 u6 q => ?_)
          obtain ⟨i2272, g2273⟩ := q
          have g2274 : G md_E_again w u6 := g_tr g2271 g2273 rfl
          exact ok_some ⟨by omega, g2274⟩
      · refine ok_it (by omega) ?_
        refine ok_call (s_K_fits_40_5 (g_self hG)) (fun r11 u12 q => ?_)
        obtain ⟨i2275, g2276⟩ := q
        have g2277 : G md_E_again w u12 := g_tr hG g2276 rfl
        refine ok_ite (fun h2278 => ?_) (fun h2279 => ?_)
        · exact ok_some ⟨by omega, g2277⟩
        · refine ok_if (by omega) ?_
          refine ok_it (by omega) ?_
          refine ok_call (s_K_giveBack_40_5_15 (g_self g2277)) (fun r17 u18 q => ?_)
          obtain ⟨i2280, g2281⟩ := q
          have g2282 : G md_E_again w u18 := g_tr g2277 g2281 rfl
          refine ok_call (s_S_forget (g_self g2282)) (fun r19 u20 q => ?_)
          obtain ⟨i2283, g2284⟩ := q
          have g2285 : G md_E_again w u20 := g_tr g2282 g2284 rfl
          exact ok_some ⟨by omega, g2285⟩
theorem s_E_count {w : Wd} {v1 : Int} (hG : G md_E_count w w) (i_v1 : ((-2147483648 : Int) ≤ v1 ∧ v1 ≤ 2147483647)) : OK (f_E_count v1 w) (fun r u => ((-2147483648 : Int) ≤ r ∧ r ≤ 2147483647) ∧ G md_E_count w u) := by
  unfold f_E_count
  refine ok_ite (fun h2286 => ?_) (fun h2287 => ?_)
  · exact ok_some ⟨by omega, hG⟩
  · refine ok_ite (fun h2288 => ?_) (fun h2289 => ?_)
    · have : (0 : Int) ≤ (w 5 3) ∧ (w 5 3) ≤ 10 := hG.1 5 3
      exact ok_some ⟨by omega, hG⟩
    · refine ok_ite (fun h2290 => ?_) (fun h2291 => ?_)
      · have : (0 : Int) ≤ (w 15 3) ∧ (w 15 3) ≤ 60 := hG.1 15 3
        exact ok_some ⟨by omega, hG⟩
      · refine ok_ite (fun h2292 => ?_) (fun h2293 => ?_)
        · refine ok_call (s_F_guests (g_self hG)) (fun r1 u2 q => ?_)
          obtain ⟨i2294, g2295⟩ := q
          have g2296 : G md_E_count w u2 := g_tr hG g2295 rfl
          exact ok_some ⟨by omega, g2296⟩
        · refine ok_ite (fun h2297 => ?_) (fun h2298 => ?_)
          · refine ok_call (s_F_strangers (g_self hG)) (fun r3 u4 q => ?_)
            obtain ⟨i2299, g2300⟩ := q
            have g2301 : G md_E_count w u4 := g_tr hG g2300 rfl
            exact ok_some ⟨by omega, g2301⟩
          · refine ok_ite (fun h2302 => ?_) (fun h2303 => ?_)
            · have : (-2147483648 : Int) ≤ (w 5 4) ∧ (w 5 4) ≤ 2147483647 := hG.1 5 4
              refine ok_call (s_O_out (g_self hG) (by omega)) (fun r5 u6 q => ?_)
              obtain ⟨i2304, g2305⟩ := q
              have g2306 : G md_E_count w u6 := g_tr hG g2305 rfl
              exact ok_some ⟨by omega, g2306⟩
            · refine ok_ite (fun h2307 => ?_) (fun h2308 => ?_)
              · have : (-2147483648 : Int) ≤ (w 5 6) ∧ (w 5 6) ≤ 2147483647 := hG.1 5 6
                exact ok_some ⟨by omega, hG⟩
              · refine ok_ite (fun h2309 => ?_) (fun h2310 => ?_)
                · have : (-2147483648 : Int) ≤ (w 15 4) ∧ (w 15 4) ≤ 2147483647 := hG.1 15 4
                  exact ok_some ⟨by omega, hG⟩
                · refine ok_ite (fun h2311 => ?_) (fun h2312 => ?_)
                  · have : (0 : Int) ≤ (w 3 1) ∧ (w 3 1) ≤ 20 := hG.1 3 1
                    exact ok_some ⟨by omega, hG⟩
                  · refine ok_ite (fun h2313 => ?_) (fun h2314 => ?_)
                    · have : (0 : Int) ≤ (w 1 1) ∧ (w 1 1) ≤ 80 := hG.1 1 1
                      exact ok_some ⟨by omega, hG⟩
                    · refine ok_it (by omega) ?_
                      have : (-2147483648 : Int) ≤ (w 5 5) ∧ (w 5 5) ≤ 2147483647 := hG.1 5 5
                      exact ok_some ⟨by omega, hG⟩
theorem s_N_number {w : Wd} {v1 : Int} (hG : G md_N_number w w) (i_v1 : ((0 : Int) ≤ v1 ∧ v1 ≤ 19)) : OK (f_N_number v1 w) (fun r u => ((-2147483648 : Int) ≤ r ∧ r ≤ 2147483647) ∧ G md_N_number w u) := by
  unfold f_N_number
  refine ok_if (by omega) ?_
  have : (0 : Int) ≤ (w 3 1) ∧ (w 3 1) ≤ 20 := hG.1 3 1
  refine ok_ite (fun h2315 => ?_) (fun h2316 => ?_)
  · exact ok_some ⟨by omega, hG⟩
  · refine ok_gd (by omega) ?_
    have : (-2147483648 : Int) ≤ (w 4 (v1).toNat) ∧ (w 4 (v1).toNat) ≤ 2147483647 := hG.1 4 (v1).toNat
    exact ok_some ⟨by omega, hG⟩
theorem s_E_of {w : Wd} {v1 v2 : Int} (hG : G md_E_of w w) (i_v1 : ((-2147483648 : Int) ≤ v1 ∧ v1 ≤ 2147483647)) (i_v2 : ((-2147483648 : Int) ≤ v2 ∧ v2 ≤ 2147483647)) : OK (f_E_of v1 v2 w) (fun r u => ((-2147483648 : Int) ≤ r ∧ r ≤ 4294967296) ∧ G md_E_of w u) := by
  unfold f_E_of
  refine ok_jite (fun h4521 => ?_) (fun h4522 => ?_)
  · refine ok_jsome ?_
    refine ok_it (by decide) ?_
    have := eTHR
    exact ok_some ⟨by omega, hG⟩
  · have : (0 : Int) ≤ (w 5 3) ∧ (w 5 3) ≤ 10 := hG.1 5 3
    refine ok_jite (fun h4523 => ?_) (fun h4524 => ?_)
    · refine ok_jsome ?_
      refine ok_it (by decide) ?_
      have := eTHR
      exact ok_some ⟨by omega, hG⟩
    · refine ok_jsome ?_
      refine ok_if (by decide) ?_
      refine ok_ite (fun h4525 => ?_) (fun h4526 => ?_)
      · have := eTHR
        exact ok_some ⟨by omega, hG⟩
      · refine ok_ite (fun h4527 => ?_) (fun h4528 => ?_)
        · refine ok_gd (by omega) ?_
          have : (0 : Int) ≤ (w 6 (v1).toNat) ∧ (w 6 (v1).toNat) ≤ 9 := hG.1 6 (v1).toNat
          exact ok_some ⟨by omega, hG⟩
        · refine ok_ite (fun h4529 => ?_) (fun h4530 => ?_)
          · refine ok_gd (by omega) ?_
            have : (-2147483648 : Int) ≤ (w 7 (v1).toNat) ∧ (w 7 (v1).toNat) ≤ 2147483647 := hG.1 7 (v1).toNat
            exact ok_some ⟨by omega, hG⟩
          · refine ok_ite (fun h4531 => ?_) (fun h4532 => ?_)
            · refine ok_jif (by omega) ?_
              refine ok_jif (by omega) ?_
              have : (-2147483648 : Int) ≤ (w 5 5) ∧ (w 5 5) ≤ 2147483647 := hG.1 5 5
              have := ishr_rg (w 5 5) v1
              have := iand_r (x := (ishr (w 5 5) v1)) (y := (1 : Int)) (by omega)
              refine ok_jite (fun h4534 => ?_) (fun h4535 => ?_)
              · refine ok_jsome ?_
                refine ok_it (by decide) ?_
                exact ok_some ⟨by omega, hG⟩
              · refine ok_jsome ?_
                refine ok_if (by decide) ?_
                exact ok_some ⟨by omega, hG⟩
            · refine ok_ite (fun h4536 => ?_) (fun h4537 => ?_)
              · refine ok_call (s_F_strangers (g_self hG)) (fun r5 u6 q => ?_)
                obtain ⟨i4538, g4539⟩ := q
                have g4540 : G md_E_of w u6 := g_tr hG g4539 rfl
                refine ok_jif (by omega) ?_
                refine ok_jif (by omega) ?_
                have := ishr_nn (x := r5) (y := v1) (by omega)
                have := iand_l (x := (ishr r5 v1)) (y := (1 : Int)) (by omega)
                have := iand_r (x := (ishr r5 v1)) (y := (1 : Int)) (by omega)
                refine ok_jite (fun h4542 => ?_) (fun h4543 => ?_)
                · refine ok_jsome ?_
                  refine ok_it (by decide) ?_
                  refine ok_call (s_F_guests (g_self g4540)) (fun r9 u10 q => ?_)
                  obtain ⟨i4544, g4545⟩ := q
                  have g4546 : G md_E_of w u10 := g_tr g4540 g4545 rfl
                  refine ok_jif (by omega) ?_
                  refine ok_jif (by omega) ?_
                  have := ishr_nn (x := r9) (y := v1) (by omega)
                  have := iand_l (x := (ishr r9 v1)) (y := (1 : Int)) (by omega)
                  have := iand_r (x := (ishr r9 v1)) (y := (1 : Int)) (by omega)
                  refine ok_jite (fun h4548 => ?_) (fun h4549 => ?_)
                  · refine ok_jsome ?_
                    refine ok_it (by decide) ?_
                    exact ok_some ⟨by omega, g4546⟩
                  · refine ok_jsome ?_
                    refine ok_if (by decide) ?_
                    exact ok_some ⟨by omega, g4546⟩
                · refine ok_jsome ?_
                  refine ok_if (by decide) ?_
                  exact ok_some ⟨by omega, g4540⟩
              · refine ok_ite (fun h4550 => ?_) (fun h4551 => ?_)
                · have : (-2147483648 : Int) ≤ (w 5 4) ∧ (w 5 4) ≤ 2147483647 := hG.1 5 4
                  refine ok_call (s_O_late (g_self hG) (by omega) (by omega)) (fun r13 u14 q => ?_)
                  obtain ⟨i4552, g4553⟩ := q
                  have g4554 : G md_E_of w u14 := g_tr hG g4553 rfl
                  exact ok_some ⟨by omega, g4554⟩
                · refine ok_ite (fun h4555 => ?_) (fun h4556 => ?_)
                  · refine ok_gd (by omega) ?_
                    have : (-1 : Int) ≤ (w 8 (v1).toNat) ∧ (w 8 (v1).toNat) ≤ 9 := hG.1 8 (v1).toNat
                    exact ok_some ⟨by omega, hG⟩
                  · refine ok_it (by omega) ?_
                    refine ok_call (s_D_firstWeekOf (g_self hG) (by omega)) (fun r15 u16 q => ?_)
                    obtain ⟨i4557, g4558⟩ := q
                    have g4559 : G md_E_of w u16 := g_tr hG g4558 rfl
                    exact ok_some ⟨by omega, g4559⟩
theorem s_E_row {w : Wd} {v1 : Int} (hG : G md_E_row w w) (i_v1 : ((-2147483648 : Int) ≤ v1 ∧ v1 ≤ 2147483647)) : OK (f_E_row v1 w) (fun r u => ((-2147483648 : Int) ≤ r ∧ r ≤ 4294967296) ∧ G md_E_row w u) := by
  unfold f_E_row
  refine ok_ite (fun h4560 => ?_) (fun h4561 => ?_)
  · have := eTHR
    exact ok_some ⟨by omega, hG⟩
  · have : (0 : Int) ≤ (w 3 1) ∧ (w 3 1) ≤ 20 := hG.1 3 1
    refine ok_ite (fun h4562 => ?_) (fun h4563 => ?_)
    · refine ok_call (s_N_number (g_self hG) (by omega)) (fun r1 u2 q => ?_)
      obtain ⟨i4564, g4565⟩ := q
      have g4566 : G md_E_row w u2 := g_tr hG g4565 rfl
      exact ok_some ⟨by omega, g4566⟩
    · have := eTHR
      exact ok_some ⟨by omega, hG⟩
