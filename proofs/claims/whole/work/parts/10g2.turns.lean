section
variable {x : sm_Cx} {n : Nat} {K : sm_K} {bc bs : Nat} {T : List sm_Sh} {I : sm_MI} {L : sm_ML} {Ls t bn : Nat} {xs : Nat → Int32} {a5 a6 : Option Value}
set_option maxRecDepth 100000 in
theorem w_20 (hx : sm_Ok x mL_law (n + 61) K) (hS : sm_Sc x Ls xs) (ht : 6 * t + 6 ≤ Ls) (hI : Inv bn T I L) (hb : bn + 60 < 2 ^ 29) (hl : T.length + 6 < 1000000) (kk : Nx x bc bs T bn t) : sm_V x (bc + 6) (bs + 400) T I L 983 (lawL t a5 a6) [] := by
  obtain ⟨A, W, H, S, N, R, ν, lb, hR, hA⟩ := hI
  have hB := hR.hB
  refine V_more (bc := bc) (bs := bs) ?_ (Nat.le_add_right _ _) (Nat.le_add_right _ _)
  refine sm_aload_n (i := 1) (z := 0) hx dL_law_983 rfl ?_
  refine rdS (k := 1) hx hS ht (by decide) (by decide) dL_law_984 dL_law_985 dL_law_987 dL_law_988 dL_law_989 ?_
  refine sm_callVI (n := n + 60) (args := [.int (xs (6 * t + 1))]) (k := 0) (st := []) hx dL_law_990 lv_L_114_11 rfl rfl (t_0 hB) rfl rfl (p_round (n := n + 40) (G := fun r1 r2 I2 L2 => r1 = r2 ∧ Inv (bn + 60) T I2 L2) hR (fun _ _ _ hR' => ⟨rfl, Inv_up hR' hA hb⟩)) (fun r1 I1 L1 q1 => ?_)
  refine sm_aload_n (i := 2) (z := 76) hx dL_law_993 rfl ?_
  refine rdS (k := 1) hx hS ht (by decide) (by decide) dL_law_994 dL_law_995 dL_law_997 dL_law_998 dL_law_999 ?_
  refine sm_callVI (n := n + 60) (args := [.int (xs (6 * t + 1))]) (k := 76) (st := [.int r1]) hx dL_law_1000 lv_L_117_12 rfl rfl (t_76 hB) rfl rfl q1 (fun r2 I2 L2 q2 => ?_)
  exact sm_icmpeq (a := r1) (b := r2) hx dL_law_1003 (tgt := 1654) (by decide) (fun _ => kk _ _ _ _ _ (by omega) q2.2) (fun z => absurd q2.1 z)
set_option maxRecDepth 100000 in
theorem w_21 (hx : sm_Ok x mL_law (n + 61) K) (hS : sm_Sc x Ls xs) (ht : 6 * t + 6 ≤ Ls) (hI : Inv bn T I L) (hb : bn + 60 < 2 ^ 29) (hl : T.length + 6 < 1000000) (kk : Nx x bc bs T bn t) : sm_V x (bc + 6) (bs + 400) T I L 1008 (lawL t a5 a6) [] := by
  obtain ⟨A, W, H, S, N, R, ν, lb, hR, hA⟩ := hI
  have hB := hR.hB
  refine V_more (bc := bc) (bs := bs) ?_ (Nat.le_add_right _ _) (Nat.le_add_right _ _)
  refine sm_aload_n (i := 1) (z := 0) hx dL_law_1008 rfl ?_
  refine rdS (k := 1) hx hS ht (by decide) (by decide) dL_law_1009 dL_law_1010 dL_law_1012 dL_law_1013 dL_law_1014 ?_
  refine rdS (k := 2) hx hS ht (by decide) (by decide) dL_law_1015 dL_law_1016 dL_law_1018 dL_law_1019 dL_law_1020 ?_
  refine rdS (k := 3) hx hS ht (by decide) (by decide) dL_law_1021 dL_law_1022 dL_law_1024 dL_law_1025 dL_law_1026 ?_
  refine rdS (k := 4) hx hS ht (by decide) (by decide) dL_law_1027 dL_law_1028 dL_law_1030 dL_law_1031 dL_law_1032 ?_
  refine rdB (v := xs (6 * t + 4)) (X := 1040) (Y := 1041) hx dL_law_1033 (by decide) dL_law_1036 dL_law_1037 (by decide) dL_law_1040 rfl ?_
  refine sm_callVI (n := n + 60) (args := [.int (xs (6 * t + 1)), .int (xs (6 * t + 2)), .int (xs (6 * t + 3)), .int (sm_z (decide (¬ xs (6 * t + 4) = 0)))]) (k := 0) (st := []) hx dL_law_1041 lv_L_118_11 rfl rfl (t_0 hB) rfl rfl (p_see (n := n + 40) (G := fun r1 r2 I2 L2 => r1 = r2 ∧ Inv (bn + 60) T I2 L2) hR (fun _ _ _ hR' => ⟨rfl, Inv_up hR' hA hb⟩)) (fun r1 I1 L1 q1 => ?_)
  refine sm_aload_n (i := 2) (z := 76) hx dL_law_1044 rfl ?_
  refine rdS (k := 1) hx hS ht (by decide) (by decide) dL_law_1045 dL_law_1046 dL_law_1048 dL_law_1049 dL_law_1050 ?_
  refine rdS (k := 2) hx hS ht (by decide) (by decide) dL_law_1051 dL_law_1052 dL_law_1054 dL_law_1055 dL_law_1056 ?_
  refine rdS (k := 3) hx hS ht (by decide) (by decide) dL_law_1057 dL_law_1058 dL_law_1060 dL_law_1061 dL_law_1062 ?_
  refine rdS (k := 4) hx hS ht (by decide) (by decide) dL_law_1063 dL_law_1064 dL_law_1066 dL_law_1067 dL_law_1068 ?_
  refine rdB (v := xs (6 * t + 4)) (X := 1076) (Y := 1077) hx dL_law_1069 (by decide) dL_law_1072 dL_law_1073 (by decide) dL_law_1076 rfl ?_
  refine sm_callVI (n := n + 60) (args := [.int (xs (6 * t + 1)), .int (xs (6 * t + 2)), .int (xs (6 * t + 3)), .int (sm_z (decide (¬ xs (6 * t + 4) = 0)))]) (k := 76) (st := [.int r1]) hx dL_law_1077 lv_L_122_12 rfl rfl (t_76 hB) rfl rfl q1 (fun r2 I2 L2 q2 => ?_)
  exact sm_icmpeq (a := r1) (b := r2) hx dL_law_1080 (tgt := 1654) (by decide) (fun _ => kk _ _ _ _ _ (by omega) q2.2) (fun z => absurd q2.1 z)
set_option maxRecDepth 100000 in
theorem w_22 (hx : sm_Ok x mL_law (n + 61) K) (hS : sm_Sc x Ls xs) (ht : 6 * t + 6 ≤ Ls) (hI : Inv bn T I L) (hb : bn + 60 < 2 ^ 29) (hl : T.length + 6 < 1000000) (kk : Nx x bc bs T bn t) : sm_V x (bc + 6) (bs + 400) T I L 1085 (lawL t a5 a6) [] := by
  obtain ⟨A, W, H, S, N, R, ν, lb, hR, hA⟩ := hI
  have hB := hR.hB
  refine V_more (bc := bc) (bs := bs) ?_ (Nat.le_add_right _ _) (Nat.le_add_right _ _)
  refine sm_aload_n (i := 1) (z := 0) hx dL_law_1085 rfl ?_
  refine rdS (k := 1) hx hS ht (by decide) (by decide) dL_law_1086 dL_law_1087 dL_law_1089 dL_law_1090 dL_law_1091 ?_
  refine sm_callVI (n := n + 60) (args := [.int (xs (6 * t + 1))]) (k := 0) (st := []) hx dL_law_1092 lv_L_123_11 rfl rfl (t_0 hB) rfl rfl (p_fits (n := n + 40) (G := fun r1 r2 I2 L2 => r1 = r2 ∧ Inv (bn + 60) T I2 L2) hR (fun _ _ _ hR' => ⟨rfl, Inv_up hR' hA hb⟩)) (fun r1 I1 L1 q1 => ?_)
  refine sm_aload_n (i := 2) (z := 76) hx dL_law_1095 rfl ?_
  refine rdS (k := 1) hx hS ht (by decide) (by decide) dL_law_1096 dL_law_1097 dL_law_1099 dL_law_1100 dL_law_1101 ?_
  refine sm_callVI (n := n + 60) (args := [.int (xs (6 * t + 1))]) (k := 76) (st := [.int r1]) hx dL_law_1102 lv_L_126_12 rfl rfl (t_76 hB) rfl rfl q1 (fun r2 I2 L2 q2 => ?_)
  exact sm_icmpeq (a := r1) (b := r2) hx dL_law_1105 (tgt := 1654) (by decide) (fun _ => kk _ _ _ _ _ (by omega) q2.2) (fun z => absurd q2.1 z)
set_option maxRecDepth 100000 in
theorem w_23 (hx : sm_Ok x mL_law (n + 61) K) (hS : sm_Sc x Ls xs) (ht : 6 * t + 6 ≤ Ls) (hI : Inv bn T I L) (hb : bn + 60 < 2 ^ 29) (hl : T.length + 6 < 1000000) (kk : Nx x bc bs T bn t) : sm_V x (bc + 6) (bs + 400) T I L 1110 (lawL t a5 a6) [] := by
  obtain ⟨A, W, H, S, N, R, ν, lb, hR, hA⟩ := hI
  have hB := hR.hB
  refine V_more (bc := bc) (bs := bs) ?_ (Nat.le_add_right _ _) (Nat.le_add_right _ _)
  refine sm_aload_n (i := 1) (z := 0) hx dL_law_1110 rfl ?_
  refine rdS (k := 1) hx hS ht (by decide) (by decide) dL_law_1111 dL_law_1112 dL_law_1114 dL_law_1115 dL_law_1116 ?_
  refine rdS (k := 2) hx hS ht (by decide) (by decide) dL_law_1117 dL_law_1118 dL_law_1120 dL_law_1121 dL_law_1122 ?_
  refine sm_callVI (n := n + 60) (args := [.int (xs (6 * t + 1)), .int (xs (6 * t + 2))]) (k := 0) (st := []) hx dL_law_1123 lv_L_127_11 rfl rfl (t_0 hB) rfl rfl (p_pairs (n := n + 40) (G := fun r1 r2 I2 L2 => r1 = r2 ∧ Inv (bn + 60) T I2 L2) hR (fun _ _ _ hR' => ⟨rfl, Inv_up hR' hA hb⟩)) (fun r1 I1 L1 q1 => ?_)
  refine sm_aload_n (i := 2) (z := 76) hx dL_law_1126 rfl ?_
  refine rdS (k := 1) hx hS ht (by decide) (by decide) dL_law_1127 dL_law_1128 dL_law_1130 dL_law_1131 dL_law_1132 ?_
  refine rdS (k := 2) hx hS ht (by decide) (by decide) dL_law_1133 dL_law_1134 dL_law_1136 dL_law_1137 dL_law_1138 ?_
  refine sm_callVI (n := n + 60) (args := [.int (xs (6 * t + 1)), .int (xs (6 * t + 2))]) (k := 76) (st := [.int r1]) hx dL_law_1139 lv_L_130_12 rfl rfl (t_76 hB) rfl rfl q1 (fun r2 I2 L2 q2 => ?_)
  exact sm_icmpeq (a := r1) (b := r2) hx dL_law_1142 (tgt := 1654) (by decide) (fun _ => kk _ _ _ _ _ (by omega) q2.2) (fun z => absurd q2.1 z)
set_option maxRecDepth 100000 in
theorem w_24 (hx : sm_Ok x mL_law (n + 61) K) (hS : sm_Sc x Ls xs) (ht : 6 * t + 6 ≤ Ls) (hI : Inv bn T I L) (hb : bn + 60 < 2 ^ 29) (hl : T.length + 6 < 1000000) (kk : Nx x bc bs T bn t) : sm_V x (bc + 6) (bs + 400) T I L 1147 (lawL t a5 a6) [] := by
  obtain ⟨A, W, H, S, N, R, ν, lb, hR, hA⟩ := hI
  have hB := hR.hB
  refine V_more (bc := bc) (bs := bs) ?_ (Nat.le_add_right _ _) (Nat.le_add_right _ _)
  refine sm_aload_n (i := 1) (z := 0) hx dL_law_1147 rfl ?_
  refine sm_callVI (n := n + 60) (args := []) (k := 0) (st := []) hx dL_law_1148 lv_L_131_11 rfl rfl (t_0 hB) rfl rfl (p_awake (n := n + 40) (G := fun r1 r2 I2 L2 => r1 = r2 ∧ Inv (bn + 60) T I2 L2) hR (fun _ _ _ hR' => ⟨rfl, Inv_up hR' hA hb⟩)) (fun r1 I1 L1 q1 => ?_)
  refine sm_aload_n (i := 2) (z := 76) hx dL_law_1151 rfl ?_
  refine sm_callVI (n := n + 60) (args := []) (k := 76) (st := [.int r1]) hx dL_law_1152 lv_L_134_12 rfl rfl (t_76 hB) rfl rfl q1 (fun r2 I2 L2 q2 => ?_)
  exact sm_icmpeq (a := r1) (b := r2) hx dL_law_1155 (tgt := 1654) (by decide) (fun _ => kk _ _ _ _ _ (by omega) q2.2) (fun z => absurd q2.1 z)
set_option maxRecDepth 100000 in
theorem w_25 (hx : sm_Ok x mL_law (n + 61) K) (hS : sm_Sc x Ls xs) (ht : 6 * t + 6 ≤ Ls) (hI : Inv bn T I L) (hb : bn + 60 < 2 ^ 29) (hl : T.length + 6 < 1000000) (kk : Nx x bc bs T bn t) : sm_V x (bc + 6) (bs + 400) T I L 1160 (lawL t a5 a6) [] := by
  obtain ⟨A, W, H, S, N, R, ν, lb, hR, hA⟩ := hI
  have hB := hR.hB
  refine V_more (bc := bc) (bs := bs) ?_ (Nat.le_add_right _ _) (Nat.le_add_right _ _)
  refine sm_aload_n (i := 1) (z := 0) hx dL_law_1160 rfl ?_
  refine rdS (k := 1) hx hS ht (by decide) (by decide) dL_law_1161 dL_law_1162 dL_law_1164 dL_law_1165 dL_law_1166 ?_
  refine rdS (k := 2) hx hS ht (by decide) (by decide) dL_law_1167 dL_law_1168 dL_law_1170 dL_law_1171 dL_law_1172 ?_
  refine rdS (k := 3) hx hS ht (by decide) (by decide) dL_law_1173 dL_law_1174 dL_law_1176 dL_law_1177 dL_law_1178 ?_
  refine sm_callVI (n := n + 60) (args := [.int (xs (6 * t + 1)), .int (xs (6 * t + 2)), .int (xs (6 * t + 3))]) (k := 0) (st := []) hx dL_law_1179 lv_L_135_11 rfl rfl (t_0 hB) rfl rfl (p_test (n := n + 40) (G := fun r1 r2 I2 L2 => r1 = r2 ∧ Inv (bn + 60) T I2 L2) hR (fun _ _ _ hR' => ⟨rfl, Inv_up hR' hA hb⟩)) (fun r1 I1 L1 q1 => ?_)
  refine sm_aload_n (i := 2) (z := 76) hx dL_law_1182 rfl ?_
  refine rdS (k := 1) hx hS ht (by decide) (by decide) dL_law_1183 dL_law_1184 dL_law_1186 dL_law_1187 dL_law_1188 ?_
  refine rdS (k := 2) hx hS ht (by decide) (by decide) dL_law_1189 dL_law_1190 dL_law_1192 dL_law_1193 dL_law_1194 ?_
  refine rdS (k := 3) hx hS ht (by decide) (by decide) dL_law_1195 dL_law_1196 dL_law_1198 dL_law_1199 dL_law_1200 ?_
  refine sm_callVI (n := n + 60) (args := [.int (xs (6 * t + 1)), .int (xs (6 * t + 2)), .int (xs (6 * t + 3))]) (k := 76) (st := [.int r1]) hx dL_law_1201 lv_L_139_12 rfl rfl (t_76 hB) rfl rfl q1 (fun r2 I2 L2 q2 => ?_)
  exact sm_icmpeq (a := r1) (b := r2) hx dL_law_1204 (tgt := 1654) (by decide) (fun _ => kk _ _ _ _ _ (by omega) q2.2) (fun z => absurd q2.1 z)
set_option maxRecDepth 100000 in
theorem w_26 (hx : sm_Ok x mL_law (n + 61) K) (hS : sm_Sc x Ls xs) (ht : 6 * t + 6 ≤ Ls) (hI : Inv bn T I L) (hb : bn + 60 < 2 ^ 29) (hl : T.length + 6 < 1000000) (kk : Nx x bc bs T bn t) : sm_V x (bc + 6) (bs + 400) T I L 1209 (lawL t a5 a6) [] := by
  obtain ⟨A, W, H, S, N, R, ν, lb, hR, hA⟩ := hI
  have hB := hR.hB
  refine V_more (bc := bc) (bs := bs) ?_ (Nat.le_add_right _ _) (Nat.le_add_right _ _)
  refine sm_aload_n (i := 1) (z := 0) hx dL_law_1209 rfl ?_
  refine rdS (k := 1) hx hS ht (by decide) (by decide) dL_law_1210 dL_law_1211 dL_law_1213 dL_law_1214 dL_law_1215 ?_
  refine rdS (k := 2) hx hS ht (by decide) (by decide) dL_law_1216 dL_law_1217 dL_law_1219 dL_law_1220 dL_law_1221 ?_
  refine rdS (k := 3) hx hS ht (by decide) (by decide) dL_law_1222 dL_law_1223 dL_law_1225 dL_law_1226 dL_law_1227 ?_
  refine sm_callVI (n := n + 60) (args := [.int (xs (6 * t + 1)), .int (xs (6 * t + 2)), .int (xs (6 * t + 3))]) (k := 0) (st := []) hx dL_law_1228 lv_L_140_11 rfl rfl (t_0 hB) rfl rfl (p_odds (n := n + 0) (G := fun r1 r2 I2 L2 => r1 = r2 ∧ Inv (bn + 60) T I2 L2) hR (fun _ _ _ hR' => ⟨rfl, Inv_up hR' hA hb⟩)) (fun r1 I1 L1 q1 => ?_)
  refine sm_aload_n (i := 2) (z := 76) hx dL_law_1231 rfl ?_
  refine rdS (k := 1) hx hS ht (by decide) (by decide) dL_law_1232 dL_law_1233 dL_law_1235 dL_law_1236 dL_law_1237 ?_
  refine rdS (k := 2) hx hS ht (by decide) (by decide) dL_law_1238 dL_law_1239 dL_law_1241 dL_law_1242 dL_law_1243 ?_
  refine rdS (k := 3) hx hS ht (by decide) (by decide) dL_law_1244 dL_law_1245 dL_law_1247 dL_law_1248 dL_law_1249 ?_
  refine sm_callVI (n := n + 60) (args := [.int (xs (6 * t + 1)), .int (xs (6 * t + 2)), .int (xs (6 * t + 3))]) (k := 76) (st := [.int r1]) hx dL_law_1250 lv_L_143_12 rfl rfl (t_76 hB) rfl rfl q1 (fun r2 I2 L2 q2 => ?_)
  exact sm_icmpeq (a := r1) (b := r2) hx dL_law_1253 (tgt := 1654) (by decide) (fun _ => kk _ _ _ _ _ (by omega) q2.2) (fun z => absurd q2.1 z)
set_option maxRecDepth 100000 in
theorem w_27 (hx : sm_Ok x mL_law (n + 61) K) (hS : sm_Sc x Ls xs) (ht : 6 * t + 6 ≤ Ls) (hI : Inv bn T I L) (hb : bn + 60 < 2 ^ 29) (hl : T.length + 6 < 1000000) (kk : Nx x bc bs T bn t) : sm_V x (bc + 6) (bs + 400) T I L 1258 (lawL t a5 a6) [] := by
  obtain ⟨A, W, H, S, N, R, ν, lb, hR, hA⟩ := hI
  have hB := hR.hB
  refine V_more (bc := bc) (bs := bs) ?_ (Nat.le_add_right _ _) (Nat.le_add_right _ _)
  refine sm_aload_n (i := 1) (z := 0) hx dL_law_1258 rfl ?_
  refine rdS (k := 1) hx hS ht (by decide) (by decide) dL_law_1259 dL_law_1260 dL_law_1262 dL_law_1263 dL_law_1264 ?_
  refine rdS (k := 2) hx hS ht (by decide) (by decide) dL_law_1265 dL_law_1266 dL_law_1268 dL_law_1269 dL_law_1270 ?_
  refine sm_callVI (n := n + 60) (args := [.int (xs (6 * t + 1)), .int (xs (6 * t + 2))]) (k := 0) (st := []) hx dL_law_1271 lv_L_144_11 rfl rfl (t_0 hB) rfl rfl (p_stay (n := n + 40) (G := fun r1 r2 I2 L2 => r1 = r2 ∧ Inv (bn + 60) T I2 L2) hR (fun _ _ _ hR' => ⟨rfl, Inv_up hR' hA hb⟩)) (fun r1 I1 L1 q1 => ?_)
  refine sm_aload_n (i := 2) (z := 76) hx dL_law_1274 rfl ?_
  refine rdS (k := 1) hx hS ht (by decide) (by decide) dL_law_1275 dL_law_1276 dL_law_1278 dL_law_1279 dL_law_1280 ?_
  refine rdS (k := 2) hx hS ht (by decide) (by decide) dL_law_1281 dL_law_1282 dL_law_1284 dL_law_1285 dL_law_1286 ?_
  refine sm_callVI (n := n + 60) (args := [.int (xs (6 * t + 1)), .int (xs (6 * t + 2))]) (k := 76) (st := [.int r1]) hx dL_law_1287 lv_L_147_12 rfl rfl (t_76 hB) rfl rfl q1 (fun r2 I2 L2 q2 => ?_)
  exact sm_icmpeq (a := r1) (b := r2) hx dL_law_1290 (tgt := 1654) (by decide) (fun _ => kk _ _ _ _ _ (by omega) q2.2) (fun z => absurd q2.1 z)
set_option maxRecDepth 100000 in
theorem w_28 (hx : sm_Ok x mL_law (n + 61) K) (hS : sm_Sc x Ls xs) (ht : 6 * t + 6 ≤ Ls) (hI : Inv bn T I L) (hb : bn + 60 < 2 ^ 29) (hl : T.length + 6 < 1000000) (kk : Nx x bc bs T bn t) : sm_V x (bc + 6) (bs + 400) T I L 1295 (lawL t a5 a6) [] := by
  obtain ⟨A, W, H, S, N, R, ν, lb, hR, hA⟩ := hI
  have hB := hR.hB
  refine V_more (bc := bc) (bs := bs) ?_ (Nat.le_add_right _ _) (Nat.le_add_right _ _)
  refine sm_aload_n (i := 1) (z := 0) hx dL_law_1295 rfl ?_
  refine rdS (k := 1) hx hS ht (by decide) (by decide) dL_law_1296 dL_law_1297 dL_law_1299 dL_law_1300 dL_law_1301 ?_
  refine rdS (k := 2) hx hS ht (by decide) (by decide) dL_law_1302 dL_law_1303 dL_law_1305 dL_law_1306 dL_law_1307 ?_
  refine sm_callVI (n := n + 60) (args := [.int (xs (6 * t + 1)), .int (xs (6 * t + 2))]) (k := 0) (st := []) hx dL_law_1308 lv_L_148_11 rfl rfl (t_0 hB) rfl rfl (p_homing (n := n + 40) (G := fun r1 r2 I2 L2 => r1 = r2 ∧ Inv (bn + 60) T I2 L2) hR (fun _ _ _ hR' => ⟨rfl, Inv_up hR' hA hb⟩)) (fun r1 I1 L1 q1 => ?_)
  refine sm_aload_n (i := 2) (z := 76) hx dL_law_1311 rfl ?_
  refine rdS (k := 1) hx hS ht (by decide) (by decide) dL_law_1312 dL_law_1313 dL_law_1315 dL_law_1316 dL_law_1317 ?_
  refine rdS (k := 2) hx hS ht (by decide) (by decide) dL_law_1318 dL_law_1319 dL_law_1321 dL_law_1322 dL_law_1323 ?_
  refine sm_callVI (n := n + 60) (args := [.int (xs (6 * t + 1)), .int (xs (6 * t + 2))]) (k := 76) (st := [.int r1]) hx dL_law_1324 lv_L_151_12 rfl rfl (t_76 hB) rfl rfl q1 (fun r2 I2 L2 q2 => ?_)
  exact sm_icmpeq (a := r1) (b := r2) hx dL_law_1327 (tgt := 1654) (by decide) (fun _ => kk _ _ _ _ _ (by omega) q2.2) (fun z => absurd q2.1 z)
set_option maxRecDepth 100000 in
theorem w_29 (hx : sm_Ok x mL_law (n + 61) K) (hS : sm_Sc x Ls xs) (ht : 6 * t + 6 ≤ Ls) (hI : Inv bn T I L) (hb : bn + 60 < 2 ^ 29) (hl : T.length + 6 < 1000000) (kk : Nx x bc bs T bn t) : sm_V x (bc + 6) (bs + 400) T I L 1332 (lawL t a5 a6) [] := by
  obtain ⟨A, W, H, S, N, R, ν, lb, hR, hA⟩ := hI
  have hB := hR.hB
  refine V_more (bc := bc) (bs := bs) ?_ (Nat.le_add_right _ _) (Nat.le_add_right _ _)
  refine sm_aload_n (i := 1) (z := 0) hx dL_law_1332 rfl ?_
  refine rdS (k := 1) hx hS ht (by decide) (by decide) dL_law_1333 dL_law_1334 dL_law_1336 dL_law_1337 dL_law_1338 ?_
  refine rdS (k := 2) hx hS ht (by decide) (by decide) dL_law_1339 dL_law_1340 dL_law_1342 dL_law_1343 dL_law_1344 ?_
  refine sm_callVI (n := n + 60) (args := [.int (xs (6 * t + 1)), .int (xs (6 * t + 2))]) (k := 0) (st := []) hx dL_law_1345 lv_L_152_11 rfl rfl (t_0 hB) rfl rfl (p_quiet (n := n + 40) (G := fun r1 r2 I2 L2 => r1 = r2 ∧ Inv (bn + 60) T I2 L2) hR (fun _ _ _ hR' => ⟨rfl, Inv_up hR' hA hb⟩)) (fun r1 I1 L1 q1 => ?_)
  refine sm_aload_n (i := 2) (z := 76) hx dL_law_1348 rfl ?_
  refine rdS (k := 1) hx hS ht (by decide) (by decide) dL_law_1349 dL_law_1350 dL_law_1352 dL_law_1353 dL_law_1354 ?_
  refine rdS (k := 2) hx hS ht (by decide) (by decide) dL_law_1355 dL_law_1356 dL_law_1358 dL_law_1359 dL_law_1360 ?_
  refine sm_callVI (n := n + 60) (args := [.int (xs (6 * t + 1)), .int (xs (6 * t + 2))]) (k := 76) (st := [.int r1]) hx dL_law_1361 lv_L_155_12 rfl rfl (t_76 hB) rfl rfl q1 (fun r2 I2 L2 q2 => ?_)
  exact sm_icmpeq (a := r1) (b := r2) hx dL_law_1364 (tgt := 1654) (by decide) (fun _ => kk _ _ _ _ _ (by omega) q2.2) (fun z => absurd q2.1 z)
set_option maxRecDepth 100000 in
theorem w_30 (hx : sm_Ok x mL_law (n + 61) K) (hS : sm_Sc x Ls xs) (ht : 6 * t + 6 ≤ Ls) (hI : Inv bn T I L) (hb : bn + 60 < 2 ^ 29) (hl : T.length + 6 < 1000000) (kk : Nx x bc bs T bn t) : sm_V x (bc + 6) (bs + 400) T I L 1369 (lawL t a5 a6) [] := by
  obtain ⟨A, W, H, S, N, R, ν, lb, hR, hA⟩ := hI
  have hB := hR.hB
  refine V_more (bc := bc) (bs := bs) ?_ (Nat.le_add_right _ _) (Nat.le_add_right _ _)
  refine sm_aload_n (i := 1) (z := 0) hx dL_law_1369 rfl ?_
  refine rdS (k := 1) hx hS ht (by decide) (by decide) dL_law_1370 dL_law_1371 dL_law_1373 dL_law_1374 dL_law_1375 ?_
  refine sm_callVI (n := n + 60) (args := [.int (xs (6 * t + 1))]) (k := 0) (st := []) hx dL_law_1376 lv_L_156_11 rfl rfl (t_0 hB) rfl rfl (p_culprit (n := n + 40) (G := fun r1 r2 I2 L2 => r1 = r2 ∧ Inv (bn + 60) T I2 L2) hR (fun _ _ _ hR' => ⟨rfl, Inv_up hR' hA hb⟩)) (fun r1 I1 L1 q1 => ?_)
  refine sm_aload_n (i := 2) (z := 76) hx dL_law_1379 rfl ?_
  refine rdS (k := 1) hx hS ht (by decide) (by decide) dL_law_1380 dL_law_1381 dL_law_1383 dL_law_1384 dL_law_1385 ?_
  refine sm_callVI (n := n + 60) (args := [.int (xs (6 * t + 1))]) (k := 76) (st := [.int r1]) hx dL_law_1386 lv_L_159_12 rfl rfl (t_76 hB) rfl rfl q1 (fun r2 I2 L2 q2 => ?_)
  exact sm_icmpeq (a := r1) (b := r2) hx dL_law_1389 (tgt := 1654) (by decide) (fun _ => kk _ _ _ _ _ (by omega) q2.2) (fun z => absurd q2.1 z)
set_option maxRecDepth 100000 in
theorem w_31 (hx : sm_Ok x mL_law (n + 61) K) (hS : sm_Sc x Ls xs) (ht : 6 * t + 6 ≤ Ls) (hI : Inv bn T I L) (hb : bn + 60 < 2 ^ 29) (hl : T.length + 6 < 1000000) (kk : Nx x bc bs T bn t) : sm_V x (bc + 6) (bs + 400) T I L 1394 (lawL t a5 a6) [] := by
  obtain ⟨A, W, H, S, N, R, ν, lb, hR, hA⟩ := hI
  have hB := hR.hB
  refine V_more (bc := bc) (bs := bs) ?_ (Nat.le_add_right _ _) (Nat.le_add_right _ _)
  refine sm_aload_n (i := 1) (z := 0) hx dL_law_1394 rfl ?_
  refine rdS (k := 1) hx hS ht (by decide) (by decide) dL_law_1395 dL_law_1396 dL_law_1398 dL_law_1399 dL_law_1400 ?_
  refine rdS (k := 2) hx hS ht (by decide) (by decide) dL_law_1401 dL_law_1402 dL_law_1404 dL_law_1405 dL_law_1406 ?_
  refine rdS (k := 3) hx hS ht (by decide) (by decide) dL_law_1407 dL_law_1408 dL_law_1410 dL_law_1411 dL_law_1412 ?_
  refine rdS (k := 4) hx hS ht (by decide) (by decide) dL_law_1413 dL_law_1414 dL_law_1416 dL_law_1417 dL_law_1418 ?_
  refine sm_callVI (n := n + 60) (args := [.int (xs (6 * t + 1)), .int (xs (6 * t + 2)), .int (xs (6 * t + 3)), .int (xs (6 * t + 4))]) (k := 0) (st := []) hx dL_law_1419 lv_L_160_11 rfl rfl (t_0 hB) rfl rfl (p_guest (n := n + 40) (G := fun r1 r2 I2 L2 => r1 = r2 ∧ Inv (bn + 60) T I2 L2) hR (fun _ _ _ hR' => ⟨rfl, Inv_up hR' hA hb⟩)) (fun r1 I1 L1 q1 => ?_)
  refine sm_aload_n (i := 2) (z := 76) hx dL_law_1422 rfl ?_
  refine rdS (k := 1) hx hS ht (by decide) (by decide) dL_law_1423 dL_law_1424 dL_law_1426 dL_law_1427 dL_law_1428 ?_
  refine rdS (k := 2) hx hS ht (by decide) (by decide) dL_law_1429 dL_law_1430 dL_law_1432 dL_law_1433 dL_law_1434 ?_
  refine rdS (k := 3) hx hS ht (by decide) (by decide) dL_law_1435 dL_law_1436 dL_law_1438 dL_law_1439 dL_law_1440 ?_
  refine rdS (k := 4) hx hS ht (by decide) (by decide) dL_law_1441 dL_law_1442 dL_law_1444 dL_law_1445 dL_law_1446 ?_
  refine sm_callVI (n := n + 60) (args := [.int (xs (6 * t + 1)), .int (xs (6 * t + 2)), .int (xs (6 * t + 3)), .int (xs (6 * t + 4))]) (k := 76) (st := [.int r1]) hx dL_law_1447 lv_L_163_12 rfl rfl (t_76 hB) rfl rfl q1 (fun r2 I2 L2 q2 => ?_)
  exact sm_icmpeq (a := r1) (b := r2) hx dL_law_1450 (tgt := 1654) (by decide) (fun _ => kk _ _ _ _ _ (by omega) q2.2) (fun z => absurd q2.1 z)
set_option maxRecDepth 100000 in
theorem w_32 (hx : sm_Ok x mL_law (n + 61) K) (hS : sm_Sc x Ls xs) (ht : 6 * t + 6 ≤ Ls) (hI : Inv bn T I L) (hb : bn + 60 < 2 ^ 29) (hl : T.length + 6 < 1000000) (kk : Nx x bc bs T bn t) : sm_V x (bc + 6) (bs + 400) T I L 1455 (lawL t a5 a6) [] := by
  obtain ⟨A, W, H, S, N, R, ν, lb, hR, hA⟩ := hI
  have hB := hR.hB
  refine V_more (bc := bc) (bs := bs) ?_ (Nat.le_add_right _ _) (Nat.le_add_right _ _)
  refine sm_aload_n (i := 1) (z := 0) hx dL_law_1455 rfl ?_
  refine rdS (k := 1) hx hS ht (by decide) (by decide) dL_law_1456 dL_law_1457 dL_law_1459 dL_law_1460 dL_law_1461 ?_
  refine rdS (k := 2) hx hS ht (by decide) (by decide) dL_law_1462 dL_law_1463 dL_law_1465 dL_law_1466 dL_law_1467 ?_
  refine rdS (k := 3) hx hS ht (by decide) (by decide) dL_law_1468 dL_law_1469 dL_law_1471 dL_law_1472 dL_law_1473 ?_
  refine sm_callVI (n := n + 60) (args := [.int (xs (6 * t + 1)), .int (xs (6 * t + 2)), .int (xs (6 * t + 3))]) (k := 0) (st := []) hx dL_law_1474 lv_L_164_11 rfl rfl (t_0 hB) rfl rfl (p_path (n := n + 40) (G := fun r1 r2 I2 L2 => r1 = r2 ∧ Inv (bn + 60) T I2 L2) hR (fun _ _ _ hR' => ⟨rfl, Inv_up hR' hA hb⟩)) (fun r1 I1 L1 q1 => ?_)
  refine sm_aload_n (i := 2) (z := 76) hx dL_law_1477 rfl ?_
  refine rdS (k := 1) hx hS ht (by decide) (by decide) dL_law_1478 dL_law_1479 dL_law_1481 dL_law_1482 dL_law_1483 ?_
  refine rdS (k := 2) hx hS ht (by decide) (by decide) dL_law_1484 dL_law_1485 dL_law_1487 dL_law_1488 dL_law_1489 ?_
  refine rdS (k := 3) hx hS ht (by decide) (by decide) dL_law_1490 dL_law_1491 dL_law_1493 dL_law_1494 dL_law_1495 ?_
  refine sm_callVI (n := n + 60) (args := [.int (xs (6 * t + 1)), .int (xs (6 * t + 2)), .int (xs (6 * t + 3))]) (k := 76) (st := [.int r1]) hx dL_law_1496 lv_L_167_12 rfl rfl (t_76 hB) rfl rfl q1 (fun r2 I2 L2 q2 => ?_)
  exact sm_icmpeq (a := r1) (b := r2) hx dL_law_1499 (tgt := 1654) (by decide) (fun _ => kk _ _ _ _ _ (by omega) q2.2) (fun z => absurd q2.1 z)
set_option maxRecDepth 100000 in
theorem w_33 (hx : sm_Ok x mL_law (n + 61) K) (hS : sm_Sc x Ls xs) (ht : 6 * t + 6 ≤ Ls) (hI : Inv bn T I L) (hb : bn + 60 < 2 ^ 29) (hl : T.length + 6 < 1000000) (kk : Nx x bc bs T bn t) : sm_V x (bc + 6) (bs + 400) T I L 1504 (lawL t a5 a6) [] := by
  obtain ⟨A, W, H, S, N, R, ν, lb, hR, hA⟩ := hI
  have hB := hR.hB
  refine V_more (bc := bc) (bs := bs) ?_ (Nat.le_add_right _ _) (Nat.le_add_right _ _)
  refine sm_aload_n (i := 1) (z := 0) hx dL_law_1504 rfl ?_
  refine rdS (k := 1) hx hS ht (by decide) (by decide) dL_law_1505 dL_law_1506 dL_law_1508 dL_law_1509 dL_law_1510 ?_
  refine rdS (k := 2) hx hS ht (by decide) (by decide) dL_law_1511 dL_law_1512 dL_law_1514 dL_law_1515 dL_law_1516 ?_
  refine sm_callVI (n := n + 60) (args := [.int (xs (6 * t + 1)), .int (xs (6 * t + 2))]) (k := 0) (st := []) hx dL_law_1517 lv_L_168_11 rfl rfl (t_0 hB) rfl rfl (p_span (n := n + 40) (G := fun r1 r2 I2 L2 => r1 = r2 ∧ Inv (bn + 60) T I2 L2) hR (fun _ _ _ hR' => ⟨rfl, Inv_up hR' hA hb⟩)) (fun r1 I1 L1 q1 => ?_)
  refine sm_aload_n (i := 2) (z := 76) hx dL_law_1520 rfl ?_
  refine rdS (k := 1) hx hS ht (by decide) (by decide) dL_law_1521 dL_law_1522 dL_law_1524 dL_law_1525 dL_law_1526 ?_
  refine rdS (k := 2) hx hS ht (by decide) (by decide) dL_law_1527 dL_law_1528 dL_law_1530 dL_law_1531 dL_law_1532 ?_
  refine sm_callVI (n := n + 60) (args := [.int (xs (6 * t + 1)), .int (xs (6 * t + 2))]) (k := 76) (st := [.int r1]) hx dL_law_1533 lv_L_171_12 rfl rfl (t_76 hB) rfl rfl q1 (fun r2 I2 L2 q2 => ?_)
  exact sm_icmpeq (a := r1) (b := r2) hx dL_law_1536 (tgt := 1654) (by decide) (fun _ => kk _ _ _ _ _ (by omega) q2.2) (fun z => absurd q2.1 z)
set_option maxRecDepth 100000 in
theorem w_34 (hx : sm_Ok x mL_law (n + 61) K) (hS : sm_Sc x Ls xs) (ht : 6 * t + 6 ≤ Ls) (hI : Inv bn T I L) (hb : bn + 60 < 2 ^ 29) (hl : T.length + 6 < 1000000) (kk : Nx x bc bs T bn t) : sm_V x (bc + 6) (bs + 400) T I L 1541 (lawL t a5 a6) [] := by
  obtain ⟨A, W, H, S, N, R, ν, lb, hR, hA⟩ := hI
  have hB := hR.hB
  refine V_more (bc := bc) (bs := bs) ?_ (Nat.le_add_right _ _) (Nat.le_add_right _ _)
  refine sm_aload_n (i := 1) (z := 0) hx dL_law_1541 rfl ?_
  refine rdS (k := 1) hx hS ht (by decide) (by decide) dL_law_1542 dL_law_1543 dL_law_1545 dL_law_1546 dL_law_1547 ?_
  refine rdS (k := 2) hx hS ht (by decide) (by decide) dL_law_1548 dL_law_1549 dL_law_1551 dL_law_1552 dL_law_1553 ?_
  refine sm_callVI (n := n + 60) (args := [.int (xs (6 * t + 1)), .int (xs (6 * t + 2))]) (k := 0) (st := []) hx dL_law_1554 lv_L_172_11 rfl rfl (t_0 hB) rfl rfl (p_fullest (n := n + 40) (G := fun r1 r2 I2 L2 => r1 = r2 ∧ Inv (bn + 60) T I2 L2) hR (fun _ _ _ hR' => ⟨rfl, Inv_up hR' hA hb⟩)) (fun r1 I1 L1 q1 => ?_)
  refine sm_aload_n (i := 2) (z := 76) hx dL_law_1557 rfl ?_
  refine rdS (k := 1) hx hS ht (by decide) (by decide) dL_law_1558 dL_law_1559 dL_law_1561 dL_law_1562 dL_law_1563 ?_
  refine rdS (k := 2) hx hS ht (by decide) (by decide) dL_law_1564 dL_law_1565 dL_law_1567 dL_law_1568 dL_law_1569 ?_
  refine sm_callVI (n := n + 60) (args := [.int (xs (6 * t + 1)), .int (xs (6 * t + 2))]) (k := 76) (st := [.int r1]) hx dL_law_1570 lv_L_175_12 rfl rfl (t_76 hB) rfl rfl q1 (fun r2 I2 L2 q2 => ?_)
  exact sm_icmpeq (a := r1) (b := r2) hx dL_law_1573 (tgt := 1654) (by decide) (fun _ => kk _ _ _ _ _ (by omega) q2.2) (fun z => absurd q2.1 z)
set_option maxRecDepth 100000 in
theorem w_35 (hx : sm_Ok x mL_law (n + 61) K) (hS : sm_Sc x Ls xs) (ht : 6 * t + 6 ≤ Ls) (hI : Inv bn T I L) (hb : bn + 60 < 2 ^ 29) (hl : T.length + 6 < 1000000) (kk : Nx x bc bs T bn t) : sm_V x (bc + 6) (bs + 400) T I L 1578 (lawL t a5 a6) [] := by
  obtain ⟨A, W, H, S, N, R, ν, lb, hR, hA⟩ := hI
  have hB := hR.hB
  refine V_more (bc := bc) (bs := bs) ?_ (Nat.le_add_right _ _) (Nat.le_add_right _ _)
  refine sm_aload_n (i := 1) (z := 0) hx dL_law_1578 rfl ?_
  refine rdS (k := 1) hx hS ht (by decide) (by decide) dL_law_1579 dL_law_1580 dL_law_1582 dL_law_1583 dL_law_1584 ?_
  refine sm_callVI (n := n + 60) (args := [.int (xs (6 * t + 1))]) (k := 0) (st := []) hx dL_law_1585 lv_L_176_11 rfl rfl (t_0 hB) rfl rfl (p_astray (n := n + 40) (G := fun r1 r2 I2 L2 => r1 = r2 ∧ Inv (bn + 60) T I2 L2) hR (fun _ _ _ hR' => ⟨rfl, Inv_up hR' hA hb⟩)) (fun r1 I1 L1 q1 => ?_)
  refine sm_aload_n (i := 2) (z := 76) hx dL_law_1588 rfl ?_
  refine rdS (k := 1) hx hS ht (by decide) (by decide) dL_law_1589 dL_law_1590 dL_law_1592 dL_law_1593 dL_law_1594 ?_
  refine sm_callVI (n := n + 60) (args := [.int (xs (6 * t + 1))]) (k := 76) (st := [.int r1]) hx dL_law_1595 lv_L_179_12 rfl rfl (t_76 hB) rfl rfl q1 (fun r2 I2 L2 q2 => ?_)
  exact sm_icmpeq (a := r1) (b := r2) hx dL_law_1598 (tgt := 1654) (by decide) (fun _ => kk _ _ _ _ _ (by omega) q2.2) (fun z => absurd q2.1 z)
set_option maxRecDepth 100000 in
theorem w_36 (hx : sm_Ok x mL_law (n + 61) K) (hS : sm_Sc x Ls xs) (ht : 6 * t + 6 ≤ Ls) (hI : Inv bn T I L) (hb : bn + 60 < 2 ^ 29) (hl : T.length + 6 < 1000000) (kk : Nx x bc bs T bn t) : sm_V x (bc + 6) (bs + 400) T I L 1603 (lawL t a5 a6) [] := by
  obtain ⟨A, W, H, S, N, R, ν, lb, hR, hA⟩ := hI
  have hB := hR.hB
  refine V_more (bc := bc) (bs := bs) ?_ (Nat.le_add_right _ _) (Nat.le_add_right _ _)
  refine sm_aload_n (i := 1) (z := 0) hx dL_law_1603 rfl ?_
  refine sm_callVI (n := n + 60) (args := []) (k := 0) (st := []) hx dL_law_1604 lv_L_180_11 rfl rfl (t_0 hB) rfl rfl (p_image (n := n + 40) (G := fun r1 r2 I2 L2 => r1 = r2 ∧ Inv (bn + 60) T I2 L2) hR (fun _ _ _ hR' => ⟨rfl, Inv_up hR' hA hb⟩)) (fun r1 I1 L1 q1 => ?_)
  refine sm_aload_n (i := 2) (z := 76) hx dL_law_1607 rfl ?_
  refine sm_callVI (n := n + 60) (args := []) (k := 76) (st := [.int r1]) hx dL_law_1608 lv_L_183_12 rfl rfl (t_76 hB) rfl rfl q1 (fun r2 I2 L2 q2 => ?_)
  exact sm_icmpeq (a := r1) (b := r2) hx dL_law_1611 (tgt := 1654) (by decide) (fun _ => kk _ _ _ _ _ (by omega) q2.2) (fun z => absurd q2.1 z)
set_option maxRecDepth 100000 in
theorem w_37 (hx : sm_Ok x mL_law (n + 61) K) (hS : sm_Sc x Ls xs) (ht : 6 * t + 6 ≤ Ls) (hI : Inv bn T I L) (hb : bn + 60 < 2 ^ 29) (hl : T.length + 6 < 1000000) (kk : Nx x bc bs T bn t) : sm_V x (bc + 6) (bs + 400) T I L 1616 (lawL t a5 a6) [] := by
  obtain ⟨A, W, H, S, N, R, ν, lb, hR, hA⟩ := hI
  have hB := hR.hB
  refine V_more (bc := bc) (bs := bs) ?_ (Nat.le_add_right _ _) (Nat.le_add_right _ _)
  refine sm_aload_n (i := 1) (z := 0) hx dL_law_1616 rfl ?_
  refine sm_callVI (n := n + 60) (args := []) (k := 0) (st := []) hx dL_law_1617 lv_L_184_11 rfl rfl (t_0 hB) rfl rfl (p_back (n := n + 40) (G := fun r1 r2 I2 L2 => r1 = r2 ∧ Inv (bn + 60) T I2 L2) hR (fun _ _ _ _ _ hR' => ⟨rfl, Inv_up hR' hA hb⟩)) (fun r1 I1 L1 q1 => ?_)
  refine sm_aload_n (i := 2) (z := 76) hx dL_law_1620 rfl ?_
  refine sm_callVI (n := n + 60) (args := []) (k := 76) (st := [.int r1]) hx dL_law_1621 lv_L_187_12 rfl rfl (t_76 hB) rfl rfl q1 (fun r2 I2 L2 q2 => ?_)
  exact sm_icmpeq (a := r1) (b := r2) hx dL_law_1624 (tgt := 1654) (by decide) (fun _ => kk _ _ _ _ _ (by omega) q2.2) (fun z => absurd q2.1 z)
set_option maxRecDepth 100000 in
theorem w_38 (hx : sm_Ok x mL_law (n + 61) K) (hS : sm_Sc x Ls xs) (ht : 6 * t + 6 ≤ Ls) (hI : Inv bn T I L) (hb : bn + 60 < 2 ^ 29) (hl : T.length + 6 < 1000000) (kk : Nx x bc bs T bn t) : sm_V x (bc + 6) (bs + 400) T I L 1629 (lawL t a5 a6) [] := by
  obtain ⟨A, W, H, S, N, R, ν, lb, hR, hA⟩ := hI
  have hB := hR.hB
  obtain ⟨e0, h23⟩ := hA.at
  refine V_more (bc := bc) (bs := bs) ?_ (Nat.le_add_right _ _) (Nat.le_add_right _ _)
  refine sm_aload_n (i := 1) (z := 0) hx dL_law_1629 rfl ?_
  refine rdS (k := 1) hx hS ht (by decide) (by decide) dL_law_1630 dL_law_1631 dL_law_1633 dL_law_1634 dL_law_1635 ?_
  refine sm_callVI (n := n + 60) (args := [.int (xs (6 * t + 1))]) (k := 0) (st := []) hx dL_law_1636 lv_L_188_11 rfl rfl (t_0 hB) rfl rfl (p_count (n := n + 40) (G := fun r1 r2 I2 L2 => r1 = r2 ∧ Inv (bn + 60) T I2 L2) h23 (fun F n I L h => s_size h23 h) hR (fun _ _ _ hR' => ⟨rfl, Inv_up hR' hA hb⟩)) (fun r1 I1 L1 q1 => ?_)
  refine sm_aload_n (i := 2) (z := 76) hx dL_law_1639 rfl ?_
  refine rdS (k := 1) hx hS ht (by decide) (by decide) dL_law_1640 dL_law_1641 dL_law_1643 dL_law_1644 dL_law_1645 ?_
  refine sm_callVI (n := n + 60) (args := [.int (xs (6 * t + 1))]) (k := 76) (st := [.int r1]) hx dL_law_1646 lv_L_191_12 rfl rfl (t_76 hB) rfl rfl q1 (fun r2 I2 L2 q2 => ?_)
  exact sm_icmpeq (a := r1) (b := r2) hx dL_law_1649 (tgt := 1654) (by decide) (fun _ => kk _ _ _ _ _ (by omega) q2.2) (fun z => absurd q2.1 z)
end
