/-! LINKS, laid by program (wip/gen/main.py): the methods, the cells as the constructors make them, fields and calls as the pools name them. -/
theorem sm_kb_m2 : (Int8.ofInt (-2)).toInt32 = (-2) := by decide
theorem sm_kb_6 : (Int8.ofInt 6).toInt32 = 6 := by decide
theorem sm_kb_7 : (Int8.ofInt 7).toInt32 = 7 := by decide
theorem sm_kb_8 : (Int8.ofInt 8).toInt32 = 8 := by decide
theorem sm_kb_9 : (Int8.ofInt 9).toInt32 = 9 := by decide
theorem sm_kb_10 : (Int8.ofInt 10).toInt32 = 10 := by decide
theorem sm_kb_11 : (Int8.ofInt 11).toInt32 = 11 := by decide
theorem sm_kb_12 : (Int8.ofInt 12).toInt32 = 12 := by decide
theorem sm_kb_16 : (Int8.ofInt 16).toInt32 = 16 := by decide
theorem sm_kb_20 : (Int8.ofInt 20).toInt32 = 20 := by decide
theorem sm_kb_24 : (Int8.ofInt 24).toInt32 = 24 := by decide
theorem sm_kb_30 : (Int8.ofInt 30).toInt32 = 30 := by decide
theorem sm_kb_31 : (Int8.ofInt 31).toInt32 = 31 := by decide
theorem sm_kb_32 : (Int8.ofInt 32).toInt32 = 32 := by decide
theorem sm_kb_33 : (Int8.ofInt 33).toInt32 = 33 := by decide
theorem sm_kb_38 : (Int8.ofInt 38).toInt32 = 38 := by decide
theorem sm_kb_40 : (Int8.ofInt 40).toInt32 = 40 := by decide
theorem sm_kb_41 : (Int8.ofInt 41).toInt32 = 41 := by decide
theorem sm_kb_42 : (Int8.ofInt 42).toInt32 = 42 := by decide
theorem sm_kb_43 : (Int8.ofInt 43).toInt32 = 43 := by decide
theorem sm_kb_45 : (Int8.ofInt 45).toInt32 = 45 := by decide
theorem sm_kb_47 : (Int8.ofInt 47).toInt32 = 47 := by decide
theorem sm_kb_48 : (Int8.ofInt 48).toInt32 = 48 := by decide
theorem sm_kb_57 : (Int8.ofInt 57).toInt32 = 57 := by decide
theorem sm_kb_58 : (Int8.ofInt 58).toInt32 = 58 := by decide
theorem sm_kb_59 : (Int8.ofInt 59).toInt32 = 59 := by decide
theorem sm_kb_60 : (Int8.ofInt 60).toInt32 = 60 := by decide
theorem sm_kb_61 : (Int8.ofInt 61).toInt32 = 61 := by decide
theorem sm_kb_62 : (Int8.ofInt 62).toInt32 = 62 := by decide
theorem sm_kb_63 : (Int8.ofInt 63).toInt32 = 63 := by decide
theorem sm_kb_64 : (Int8.ofInt 64).toInt32 = 64 := by decide
theorem sm_kb_90 : (Int8.ofInt 90).toInt32 = 90 := by decide
theorem sm_kb_91 : (Int8.ofInt 91).toInt32 = 91 := by decide
theorem sm_kb_93 : (Int8.ofInt 93).toInt32 = 93 := by decide
theorem sm_kb_97 : (Int8.ofInt 97).toInt32 = 97 := by decide
theorem sm_kb_100 : (Int8.ofInt 100).toInt32 = 100 := by decide
theorem sm_kb_101 : (Int8.ofInt 101).toInt32 = 101 := by decide
theorem sm_kb_103 : (Int8.ofInt 103).toInt32 = 103 := by decide
theorem sm_kb_104 : (Int8.ofInt 104).toInt32 = 104 := by decide
theorem sm_kb_107 : (Int8.ofInt 107).toInt32 = 107 := by decide
theorem sm_kb_109 : (Int8.ofInt 109).toInt32 = 109 := by decide
theorem sm_kb_110 : (Int8.ofInt 110).toInt32 = 110 := by decide
theorem sm_kb_111 : (Int8.ofInt 111).toInt32 = 111 := by decide
theorem sm_kb_112 : (Int8.ofInt 112).toInt32 = 112 := by decide
theorem sm_kb_113 : (Int8.ofInt 113).toInt32 = 113 := by decide
theorem sm_kb_115 : (Int8.ofInt 115).toInt32 = 115 := by decide
theorem sm_kb_119 : (Int8.ofInt 119).toInt32 = 119 := by decide
theorem sm_kb_121 : (Int8.ofInt 121).toInt32 = 121 := by decide
theorem sm_kb_124 : (Int8.ofInt 124).toInt32 = 124 := by decide
theorem sm_kc_m1 : Int32.ofInt (-1) = (-1) := by decide
theorem sm_kc_0 : Int32.ofInt 0 = 0 := by decide
theorem sm_kc_1 : Int32.ofInt 1 = 1 := by decide
theorem sm_kc_2 : Int32.ofInt 2 = 2 := by decide
theorem sm_kc_3 : Int32.ofInt 3 = 3 := by decide
theorem sm_kc_4 : Int32.ofInt 4 = 4 := by decide
theorem sm_kc_5 : Int32.ofInt 5 = 5 := by decide
theorem sm_kii_m16 (a : Int32) : a + Int32.ofInt (-16) = a + (-16) := by rw [show Int32.ofInt (-16) = (-16) by decide]
theorem sm_kii_m8 (a : Int32) : a + Int32.ofInt (-8) = a + (-8) := by rw [show Int32.ofInt (-8) = (-8) by decide]
theorem sm_kii_m4 (a : Int32) : a + Int32.ofInt (-4) = a + (-4) := by rw [show Int32.ofInt (-4) = (-4) by decide]
theorem sm_kii_m2 (a : Int32) : a + Int32.ofInt (-2) = a + (-2) := by rw [show Int32.ofInt (-2) = (-2) by decide]
theorem sm_kii_m1 (a : Int32) : a + Int32.ofInt (-1) = a + (-1) := by rw [show Int32.ofInt (-1) = (-1) by decide]
theorem sm_kii_1 (a : Int32) : a + Int32.ofInt 1 = a + 1 := by rw [show Int32.ofInt 1 = 1 by decide]
theorem sm_kii_2 (a : Int32) : a + Int32.ofInt 2 = a + 2 := by rw [show Int32.ofInt 2 = 2 by decide]
theorem sm_kii_4 (a : Int32) : a + Int32.ofInt 4 = a + 4 := by rw [show Int32.ofInt 4 = 4 by decide]
theorem sm_kii_8 (a : Int32) : a + Int32.ofInt 8 = a + 8 := by rw [show Int32.ofInt 8 = 8 by decide]
theorem sm_kii_16 (a : Int32) : a + Int32.ofInt 16 = a + 16 := by rw [show Int32.ofInt 16 = 16 by decide]
theorem sm_ks_160 : (Int16.ofInt 160).toInt32 = 160 := by decide
theorem sm_ks_200 : (Int16.ofInt 200).toInt32 = 200 := by decide
theorem sm_ks_255 : (Int16.ofInt 255).toInt32 = 255 := by decide
theorem sm_ks_256 : (Int16.ofInt 256).toInt32 = 256 := by decide
theorem sm_ks_340 : (Int16.ofInt 340).toInt32 = 340 := by decide
theorem sm_ks_480 : (Int16.ofInt 480).toInt32 = 480 := by decide
theorem k_X11_230 : Cond.constant RX11 230 (-1000000) ∈ lw_tbl := (sm_t4 133 (by decide +kernel))
theorem k_X0_140 : Cond.constantLong RX0 140 6364136223846793005 ∈ lw_tbl := (sm_t4 198 (by decide +kernel))
theorem k_X0_142 : Cond.constantLong RX0 142 1442695040888963407 ∈ lw_tbl := (sm_t4 199 (by decide +kernel))
theorem k_X0_144 : Cond.constantLong RX0 144 100 ∈ lw_tbl := (sm_t4 200 (by decide +kernel))
theorem k_X0_204 : Cond.constantLong RX0 204 1000000000 ∈ lw_tbl := (sm_t5 185 (by decide +kernel))
theorem k_X1_55 : Cond.constantLong RX1 55 4294967295 ∈ lw_tbl := (sm_t5 46 (by decide +kernel))
theorem k_X4_49 : Cond.constantLong RX4 49 1000000 ∈ lw_tbl := (sm_t5 12 (by decide +kernel))
theorem k_X4_51 : Cond.constant RX4 51 1000000 ∈ lw_tbl := (sm_t5 13 (by decide +kernel))
theorem k_X4_52 : Cond.constantLong RX4 52 (-1000000) ∈ lw_tbl := (sm_t5 14 (by decide +kernel))
theorem k_X4_54 : Cond.constant RX4 54 (-1000000) ∈ lw_tbl := (sm_t5 15 (by decide +kernel))
theorem k_X12_202 : Cond.constantLong RX12 202 (-1000000) ∈ lw_tbl := (sm_t8 36 (by decide +kernel))
theorem k_X12_204 : Cond.constantLong RX12 204 1000000 ∈ lw_tbl := (sm_t8 37 (by decide +kernel))
theorem k_X12_360 : Cond.constantLong RX12 360 6364136223846793005 ∈ lw_tbl := (sm_t8 10 (by decide +kernel))
theorem k_X12_362 : Cond.constantLong RX12 362 1442695040888963407 ∈ lw_tbl := (sm_t8 11 (by decide +kernel))
theorem k_X12_364 : Cond.constantLong RX12 364 100 ∈ lw_tbl := (sm_t8 12 (by decide +kernel))
theorem k_X12_394 : Cond.constant RX12 394 (-1000000) ∈ lw_tbl := (sm_t8 91 (by decide +kernel))
theorem k_X12_421 : Cond.constantLong RX12 421 1000000000 ∈ lw_tbl := (sm_t8 137 (by decide +kernel))
theorem k_J6_264 : Cond.constant RJ6 264 65536 ∈ lw_tbl := (sm_t5 31 (by decide +kernel))
theorem k_J6_265 : Cond.constant RJ6 265 1431655765 ∈ lw_tbl := (sm_t4 229 (by decide +kernel))
theorem k_J6_266 : Cond.constant RJ6 266 858993459 ∈ lw_tbl := (sm_t4 230 (by decide +kernel))
theorem k_J6_267 : Cond.constant RJ6 267 252645135 ∈ lw_tbl := (sm_t4 231 (by decide +kernel))
theorem xl_J0_9 : Cond.fieldLink RJ0 9 "java/lang/String" "value" "[B" ∈ lw_tbl := (sm_t9 8 (by decide +kernel))
theorem xl_J0_15 : Cond.fieldLink RJ0 15 "java/lang/String" "coder" "B" ∈ lw_tbl := (sm_t9 9 (by decide +kernel))
theorem xl_J0_38 : Cond.fieldLink RJ0 38 "java/lang/String" "COMPACT_STRINGS" "Z" ∈ lw_tbl := (sm_t1 151 (by decide +kernel))
/-- the cells as the constructors make them; the list of rules (23) is told apart -/
def sm_tB : List (Option sm_Sh) := [some (.inr (11, [.ref 1, .ref 4, .ref 18, .ref 23, .ref 24, .ref 35, .ref 36, .int 0, .ref 37, .ref 44, .ref 53, .int 0, .ref 68, .ref 70, .ref 72, .ref 74])), some (.inr (10, [.ref 2, .int 0])), some (.inr (3, [.ref 3])), some (.inl (.int, 160, [])), some (.inr (9, [.ref 1, .int 0, .ref 5, .ref 16, .int 0])), some (.inr (8, [.int 0, .int 0, .int 0, .int 0, .int 0, .int 0, .ref 6, .ref 8, .ref 10, .ref 12, .ref 14])), some (.inr (3, [.ref 7])), some (.inl (.int, 5, [])), some (.inr (3, [.ref 9])), some (.inl (.int, 5, [])), some (.inr (3, [.ref 11])), some (.inl (.int, 5, [])), some (.inr (3, [.ref 13])), some (.inl (.int, 5, [])), some (.inr (3, [.ref 15])), some (.inl (.int, 5, [])), some (.inr (3, [.ref 17])), some (.inl (.int, 4, [])), some (.inr (5, [.ref 1, .int 0, .ref 19, .ref 21, .int 0])), some (.inr (3, [.ref 20])), some (.inl (.int, 160, [])), some (.inr (3, [.ref 22])), some (.inl (.int, 160, [])), none, some (.inr (8, [.int 0, .int 0, .int 0, .int 0, .int 0, .int 0, .ref 25, .ref 27, .ref 29, .ref 31, .ref 33])), some (.inr (3, [.ref 26])), some (.inl (.int, 5, [])), some (.inr (3, [.ref 28])), some (.inl (.int, 5, [])), some (.inr (3, [.ref 30])), some (.inl (.int, 5, [])), some (.inr (3, [.ref 32])), some (.inl (.int, 5, [])), some (.inr (3, [.ref 34])), some (.inl (.int, 5, [])), some (.inr (7, [.int 0, .int 0, .int 0, .long 0])), some (.inr (7, [.int 0, .int 0, .int 0, .long 0])), some (.inr (2, [.ref 38, .ref 40, .ref 42, .int 0, .int 0])), some (.inr (3, [.ref 39])), some (.inl (.int, 60, [])), some (.inr (3, [.ref 41])), some (.inl (.int, 60, [])), some (.inr (3, [.ref 43])), some (.inl (.int, 60, [])), some (.inr (6, [.ref 45, .ref 47, .ref 49, .ref 51, .int 0, .int 0])), some (.inr (3, [.ref 46])), some (.inl (.int, 20, [])), some (.inr (3, [.ref 48])), some (.inl (.int, 20, [])), some (.inr (3, [.ref 50])), some (.inl (.int, 20, [])), some (.inr (3, [.ref 52])), some (.inl (.int, 20, [])), some (.inr (1, [.int 0, .int 0, .int 0, .long 0, .ref 24, .ref 23, .ref 54, .ref 56, .ref 58, .int 0, .int 0, .int 0, .int 0, .int 0, .int 0, .int 0, .int 0, .ref 60, .ref 62, .ref 64, .ref 66])), some (.inr (3, [.ref 55])), some (.inl (.int, 5, [])), some (.inr (3, [.ref 57])), some (.inl (.int, 6, [])), some (.inr (3, [.ref 59])), some (.inl (.int, 8, [])), some (.inr (3, [.ref 61])), some (.inl (.int, 6, [])), some (.inr (3, [.ref 63])), some (.inl (.int, 160, [])), some (.inr (3, [.ref 65])), some (.inl (.int, 2880, [])), some (.inr (3, [.ref 67])), some (.inl (.int, 2880, [])), some (.inr (3, [.ref 69])), some (.inl (.int, 201, [])), some (.inr (3, [.ref 71])), some (.inl (.int, 1296, [])), some (.inr (3, [.ref 73])), some (.inl (.int, 1296, [])), some (.inr (3, [.ref 75])), some (.inl (.int, 1296, [])), some (.inr (12, [.int 0, .ref 77, .int 0, .int 0, .int 0, .int 0, .ref 78, .ref 79, .ref 80, .ref 81, .ref 82, .ref 83, .ref 84, .int 0, .int 0, .ref 85, .ref 86, .ref 87, .ref 88, .int 0, .int 0, .int 0, .int 0, .int 0, .ref 89, .ref 90, .int 0, .int 0, .int 0, .int 0, .int 0, .ref 91, .ref 92, .int 0, .int 0, .int 0, .long 0, .ref 93, .ref 94, .int 0, .ref 95, .ref 96, .int 0, .ref 97, .int 0, .ref 98, .ref 99, .ref 100, .ref 101, .ref 102, .ref 103, .int 0, .ref 104, .ref 105, .ref 106, .ref 107, .ref 108, .int 0, .int 0, .long 0, .int 0])), some (.inl (.int, 160, [])), some (.inl (.int, 2040, [])), some (.inl (.int, 2040, [])), some (.inl (.int, 6, [])), some (.inl (.int, 6, [])), some (.inl (.int, 540, [])), some (.inl (.int, 540, [])), some (.inl (.int, 540, [])), some (.inl (.int, 6, [])), some (.inl (.int, 80, [])), some (.inl (.int, 20, [])), some (.inl (.int, 8, [])), some (.inl (.int, 20, [])), some (.inl (.int, 8, [])), some (.inl (.int, 5, [])), some (.inl (.int, 8, [])), some (.inl (.int, 5, [])), some (.inl (.int, 5, [])), some (.inl (.int, 480, [])), some (.inl (.long, 60, [])), some (.inl (.int, 8, [])), some (.inl (.int, 5, [])), some (.inl (.int, 201, [])), some (.inl (.int, 20, [])), some (.inl (.int, 20, [])), some (.inl (.int, 20, [])), some (.inl (.boolean, 20, [])), some (.inl (.int, 328, [])), some (.inl (.int, 205, [])), some (.inl (.int, 8, [])), some (.inl (.int, 8, [])), some (.inl (.int, 8, [])), some (.inl (.long, 1, []))]
def sm_Bs (T : List sm_Sh) : Prop := ∀ (k : Nat) (s : sm_Sh), sm_tB[k]? = some (some s) → T[k]? = some s
theorem t_0 {T : List sm_Sh} (hB : sm_Bs T) : T[0]? = some (.inr (11, [.ref 1, .ref 4, .ref 18, .ref 23, .ref 24, .ref 35, .ref 36, .int 0, .ref 37, .ref 44, .ref 53, .int 0, .ref 68, .ref 70, .ref 72, .ref 74])) := hB 0 _ rfl
theorem t_1 {T : List sm_Sh} (hB : sm_Bs T) : T[1]? = some (.inr (10, [.ref 2, .int 0])) := hB 1 _ rfl
theorem t_2 {T : List sm_Sh} (hB : sm_Bs T) : T[2]? = some (.inr (3, [.ref 3])) := hB 2 _ rfl
theorem t_3 {T : List sm_Sh} (hB : sm_Bs T) : T[3]? = some (.inl (.int, 160, [])) := hB 3 _ rfl
theorem t_4 {T : List sm_Sh} (hB : sm_Bs T) : T[4]? = some (.inr (9, [.ref 1, .int 0, .ref 5, .ref 16, .int 0])) := hB 4 _ rfl
theorem t_5 {T : List sm_Sh} (hB : sm_Bs T) : T[5]? = some (.inr (8, [.int 0, .int 0, .int 0, .int 0, .int 0, .int 0, .ref 6, .ref 8, .ref 10, .ref 12, .ref 14])) := hB 5 _ rfl
theorem t_6 {T : List sm_Sh} (hB : sm_Bs T) : T[6]? = some (.inr (3, [.ref 7])) := hB 6 _ rfl
theorem t_7 {T : List sm_Sh} (hB : sm_Bs T) : T[7]? = some (.inl (.int, 5, [])) := hB 7 _ rfl
theorem t_8 {T : List sm_Sh} (hB : sm_Bs T) : T[8]? = some (.inr (3, [.ref 9])) := hB 8 _ rfl
theorem t_9 {T : List sm_Sh} (hB : sm_Bs T) : T[9]? = some (.inl (.int, 5, [])) := hB 9 _ rfl
theorem t_10 {T : List sm_Sh} (hB : sm_Bs T) : T[10]? = some (.inr (3, [.ref 11])) := hB 10 _ rfl
theorem t_11 {T : List sm_Sh} (hB : sm_Bs T) : T[11]? = some (.inl (.int, 5, [])) := hB 11 _ rfl
theorem t_12 {T : List sm_Sh} (hB : sm_Bs T) : T[12]? = some (.inr (3, [.ref 13])) := hB 12 _ rfl
theorem t_13 {T : List sm_Sh} (hB : sm_Bs T) : T[13]? = some (.inl (.int, 5, [])) := hB 13 _ rfl
theorem t_14 {T : List sm_Sh} (hB : sm_Bs T) : T[14]? = some (.inr (3, [.ref 15])) := hB 14 _ rfl
theorem t_15 {T : List sm_Sh} (hB : sm_Bs T) : T[15]? = some (.inl (.int, 5, [])) := hB 15 _ rfl
theorem t_16 {T : List sm_Sh} (hB : sm_Bs T) : T[16]? = some (.inr (3, [.ref 17])) := hB 16 _ rfl
theorem t_17 {T : List sm_Sh} (hB : sm_Bs T) : T[17]? = some (.inl (.int, 4, [])) := hB 17 _ rfl
theorem t_18 {T : List sm_Sh} (hB : sm_Bs T) : T[18]? = some (.inr (5, [.ref 1, .int 0, .ref 19, .ref 21, .int 0])) := hB 18 _ rfl
theorem t_19 {T : List sm_Sh} (hB : sm_Bs T) : T[19]? = some (.inr (3, [.ref 20])) := hB 19 _ rfl
theorem t_20 {T : List sm_Sh} (hB : sm_Bs T) : T[20]? = some (.inl (.int, 160, [])) := hB 20 _ rfl
theorem t_21 {T : List sm_Sh} (hB : sm_Bs T) : T[21]? = some (.inr (3, [.ref 22])) := hB 21 _ rfl
theorem t_22 {T : List sm_Sh} (hB : sm_Bs T) : T[22]? = some (.inl (.int, 160, [])) := hB 22 _ rfl
theorem t_24 {T : List sm_Sh} (hB : sm_Bs T) : T[24]? = some (.inr (8, [.int 0, .int 0, .int 0, .int 0, .int 0, .int 0, .ref 25, .ref 27, .ref 29, .ref 31, .ref 33])) := hB 24 _ rfl
theorem t_25 {T : List sm_Sh} (hB : sm_Bs T) : T[25]? = some (.inr (3, [.ref 26])) := hB 25 _ rfl
theorem t_26 {T : List sm_Sh} (hB : sm_Bs T) : T[26]? = some (.inl (.int, 5, [])) := hB 26 _ rfl
theorem t_27 {T : List sm_Sh} (hB : sm_Bs T) : T[27]? = some (.inr (3, [.ref 28])) := hB 27 _ rfl
theorem t_28 {T : List sm_Sh} (hB : sm_Bs T) : T[28]? = some (.inl (.int, 5, [])) := hB 28 _ rfl
theorem t_29 {T : List sm_Sh} (hB : sm_Bs T) : T[29]? = some (.inr (3, [.ref 30])) := hB 29 _ rfl
theorem t_30 {T : List sm_Sh} (hB : sm_Bs T) : T[30]? = some (.inl (.int, 5, [])) := hB 30 _ rfl
theorem t_31 {T : List sm_Sh} (hB : sm_Bs T) : T[31]? = some (.inr (3, [.ref 32])) := hB 31 _ rfl
theorem t_32 {T : List sm_Sh} (hB : sm_Bs T) : T[32]? = some (.inl (.int, 5, [])) := hB 32 _ rfl
theorem t_33 {T : List sm_Sh} (hB : sm_Bs T) : T[33]? = some (.inr (3, [.ref 34])) := hB 33 _ rfl
theorem t_34 {T : List sm_Sh} (hB : sm_Bs T) : T[34]? = some (.inl (.int, 5, [])) := hB 34 _ rfl
theorem t_35 {T : List sm_Sh} (hB : sm_Bs T) : T[35]? = some (.inr (7, [.int 0, .int 0, .int 0, .long 0])) := hB 35 _ rfl
theorem t_36 {T : List sm_Sh} (hB : sm_Bs T) : T[36]? = some (.inr (7, [.int 0, .int 0, .int 0, .long 0])) := hB 36 _ rfl
theorem t_37 {T : List sm_Sh} (hB : sm_Bs T) : T[37]? = some (.inr (2, [.ref 38, .ref 40, .ref 42, .int 0, .int 0])) := hB 37 _ rfl
theorem t_38 {T : List sm_Sh} (hB : sm_Bs T) : T[38]? = some (.inr (3, [.ref 39])) := hB 38 _ rfl
theorem t_39 {T : List sm_Sh} (hB : sm_Bs T) : T[39]? = some (.inl (.int, 60, [])) := hB 39 _ rfl
theorem t_40 {T : List sm_Sh} (hB : sm_Bs T) : T[40]? = some (.inr (3, [.ref 41])) := hB 40 _ rfl
theorem t_41 {T : List sm_Sh} (hB : sm_Bs T) : T[41]? = some (.inl (.int, 60, [])) := hB 41 _ rfl
theorem t_42 {T : List sm_Sh} (hB : sm_Bs T) : T[42]? = some (.inr (3, [.ref 43])) := hB 42 _ rfl
theorem t_43 {T : List sm_Sh} (hB : sm_Bs T) : T[43]? = some (.inl (.int, 60, [])) := hB 43 _ rfl
theorem t_44 {T : List sm_Sh} (hB : sm_Bs T) : T[44]? = some (.inr (6, [.ref 45, .ref 47, .ref 49, .ref 51, .int 0, .int 0])) := hB 44 _ rfl
theorem t_45 {T : List sm_Sh} (hB : sm_Bs T) : T[45]? = some (.inr (3, [.ref 46])) := hB 45 _ rfl
theorem t_46 {T : List sm_Sh} (hB : sm_Bs T) : T[46]? = some (.inl (.int, 20, [])) := hB 46 _ rfl
theorem t_47 {T : List sm_Sh} (hB : sm_Bs T) : T[47]? = some (.inr (3, [.ref 48])) := hB 47 _ rfl
theorem t_48 {T : List sm_Sh} (hB : sm_Bs T) : T[48]? = some (.inl (.int, 20, [])) := hB 48 _ rfl
theorem t_49 {T : List sm_Sh} (hB : sm_Bs T) : T[49]? = some (.inr (3, [.ref 50])) := hB 49 _ rfl
theorem t_50 {T : List sm_Sh} (hB : sm_Bs T) : T[50]? = some (.inl (.int, 20, [])) := hB 50 _ rfl
theorem t_51 {T : List sm_Sh} (hB : sm_Bs T) : T[51]? = some (.inr (3, [.ref 52])) := hB 51 _ rfl
theorem t_52 {T : List sm_Sh} (hB : sm_Bs T) : T[52]? = some (.inl (.int, 20, [])) := hB 52 _ rfl
theorem t_53 {T : List sm_Sh} (hB : sm_Bs T) : T[53]? = some (.inr (1, [.int 0, .int 0, .int 0, .long 0, .ref 24, .ref 23, .ref 54, .ref 56, .ref 58, .int 0, .int 0, .int 0, .int 0, .int 0, .int 0, .int 0, .int 0, .ref 60, .ref 62, .ref 64, .ref 66])) := hB 53 _ rfl
theorem t_54 {T : List sm_Sh} (hB : sm_Bs T) : T[54]? = some (.inr (3, [.ref 55])) := hB 54 _ rfl
theorem t_55 {T : List sm_Sh} (hB : sm_Bs T) : T[55]? = some (.inl (.int, 5, [])) := hB 55 _ rfl
theorem t_56 {T : List sm_Sh} (hB : sm_Bs T) : T[56]? = some (.inr (3, [.ref 57])) := hB 56 _ rfl
theorem t_57 {T : List sm_Sh} (hB : sm_Bs T) : T[57]? = some (.inl (.int, 6, [])) := hB 57 _ rfl
theorem t_58 {T : List sm_Sh} (hB : sm_Bs T) : T[58]? = some (.inr (3, [.ref 59])) := hB 58 _ rfl
theorem t_59 {T : List sm_Sh} (hB : sm_Bs T) : T[59]? = some (.inl (.int, 8, [])) := hB 59 _ rfl
theorem t_60 {T : List sm_Sh} (hB : sm_Bs T) : T[60]? = some (.inr (3, [.ref 61])) := hB 60 _ rfl
theorem t_61 {T : List sm_Sh} (hB : sm_Bs T) : T[61]? = some (.inl (.int, 6, [])) := hB 61 _ rfl
theorem t_62 {T : List sm_Sh} (hB : sm_Bs T) : T[62]? = some (.inr (3, [.ref 63])) := hB 62 _ rfl
theorem t_63 {T : List sm_Sh} (hB : sm_Bs T) : T[63]? = some (.inl (.int, 160, [])) := hB 63 _ rfl
theorem t_64 {T : List sm_Sh} (hB : sm_Bs T) : T[64]? = some (.inr (3, [.ref 65])) := hB 64 _ rfl
theorem t_65 {T : List sm_Sh} (hB : sm_Bs T) : T[65]? = some (.inl (.int, 2880, [])) := hB 65 _ rfl
theorem t_66 {T : List sm_Sh} (hB : sm_Bs T) : T[66]? = some (.inr (3, [.ref 67])) := hB 66 _ rfl
theorem t_67 {T : List sm_Sh} (hB : sm_Bs T) : T[67]? = some (.inl (.int, 2880, [])) := hB 67 _ rfl
theorem t_68 {T : List sm_Sh} (hB : sm_Bs T) : T[68]? = some (.inr (3, [.ref 69])) := hB 68 _ rfl
theorem t_69 {T : List sm_Sh} (hB : sm_Bs T) : T[69]? = some (.inl (.int, 201, [])) := hB 69 _ rfl
theorem t_70 {T : List sm_Sh} (hB : sm_Bs T) : T[70]? = some (.inr (3, [.ref 71])) := hB 70 _ rfl
theorem t_71 {T : List sm_Sh} (hB : sm_Bs T) : T[71]? = some (.inl (.int, 1296, [])) := hB 71 _ rfl
theorem t_72 {T : List sm_Sh} (hB : sm_Bs T) : T[72]? = some (.inr (3, [.ref 73])) := hB 72 _ rfl
theorem t_73 {T : List sm_Sh} (hB : sm_Bs T) : T[73]? = some (.inl (.int, 1296, [])) := hB 73 _ rfl
theorem t_74 {T : List sm_Sh} (hB : sm_Bs T) : T[74]? = some (.inr (3, [.ref 75])) := hB 74 _ rfl
theorem t_75 {T : List sm_Sh} (hB : sm_Bs T) : T[75]? = some (.inl (.int, 1296, [])) := hB 75 _ rfl
theorem t_76 {T : List sm_Sh} (hB : sm_Bs T) : T[76]? = some (.inr (12, [.int 0, .ref 77, .int 0, .int 0, .int 0, .int 0, .ref 78, .ref 79, .ref 80, .ref 81, .ref 82, .ref 83, .ref 84, .int 0, .int 0, .ref 85, .ref 86, .ref 87, .ref 88, .int 0, .int 0, .int 0, .int 0, .int 0, .ref 89, .ref 90, .int 0, .int 0, .int 0, .int 0, .int 0, .ref 91, .ref 92, .int 0, .int 0, .int 0, .long 0, .ref 93, .ref 94, .int 0, .ref 95, .ref 96, .int 0, .ref 97, .int 0, .ref 98, .ref 99, .ref 100, .ref 101, .ref 102, .ref 103, .int 0, .ref 104, .ref 105, .ref 106, .ref 107, .ref 108, .int 0, .int 0, .long 0, .int 0])) := hB 76 _ rfl
theorem t_77 {T : List sm_Sh} (hB : sm_Bs T) : T[77]? = some (.inl (.int, 160, [])) := hB 77 _ rfl
theorem t_78 {T : List sm_Sh} (hB : sm_Bs T) : T[78]? = some (.inl (.int, 2040, [])) := hB 78 _ rfl
theorem t_79 {T : List sm_Sh} (hB : sm_Bs T) : T[79]? = some (.inl (.int, 2040, [])) := hB 79 _ rfl
theorem t_80 {T : List sm_Sh} (hB : sm_Bs T) : T[80]? = some (.inl (.int, 6, [])) := hB 80 _ rfl
theorem t_81 {T : List sm_Sh} (hB : sm_Bs T) : T[81]? = some (.inl (.int, 6, [])) := hB 81 _ rfl
theorem t_82 {T : List sm_Sh} (hB : sm_Bs T) : T[82]? = some (.inl (.int, 540, [])) := hB 82 _ rfl
theorem t_83 {T : List sm_Sh} (hB : sm_Bs T) : T[83]? = some (.inl (.int, 540, [])) := hB 83 _ rfl
theorem t_84 {T : List sm_Sh} (hB : sm_Bs T) : T[84]? = some (.inl (.int, 540, [])) := hB 84 _ rfl
theorem t_85 {T : List sm_Sh} (hB : sm_Bs T) : T[85]? = some (.inl (.int, 6, [])) := hB 85 _ rfl
theorem t_86 {T : List sm_Sh} (hB : sm_Bs T) : T[86]? = some (.inl (.int, 80, [])) := hB 86 _ rfl
theorem t_87 {T : List sm_Sh} (hB : sm_Bs T) : T[87]? = some (.inl (.int, 20, [])) := hB 87 _ rfl
theorem t_88 {T : List sm_Sh} (hB : sm_Bs T) : T[88]? = some (.inl (.int, 8, [])) := hB 88 _ rfl
theorem t_89 {T : List sm_Sh} (hB : sm_Bs T) : T[89]? = some (.inl (.int, 20, [])) := hB 89 _ rfl
theorem t_90 {T : List sm_Sh} (hB : sm_Bs T) : T[90]? = some (.inl (.int, 8, [])) := hB 90 _ rfl
theorem t_91 {T : List sm_Sh} (hB : sm_Bs T) : T[91]? = some (.inl (.int, 5, [])) := hB 91 _ rfl
theorem t_92 {T : List sm_Sh} (hB : sm_Bs T) : T[92]? = some (.inl (.int, 8, [])) := hB 92 _ rfl
theorem t_93 {T : List sm_Sh} (hB : sm_Bs T) : T[93]? = some (.inl (.int, 5, [])) := hB 93 _ rfl
theorem t_94 {T : List sm_Sh} (hB : sm_Bs T) : T[94]? = some (.inl (.int, 5, [])) := hB 94 _ rfl
theorem t_95 {T : List sm_Sh} (hB : sm_Bs T) : T[95]? = some (.inl (.int, 480, [])) := hB 95 _ rfl
theorem t_96 {T : List sm_Sh} (hB : sm_Bs T) : T[96]? = some (.inl (.long, 60, [])) := hB 96 _ rfl
theorem t_97 {T : List sm_Sh} (hB : sm_Bs T) : T[97]? = some (.inl (.int, 8, [])) := hB 97 _ rfl
theorem t_98 {T : List sm_Sh} (hB : sm_Bs T) : T[98]? = some (.inl (.int, 5, [])) := hB 98 _ rfl
theorem t_99 {T : List sm_Sh} (hB : sm_Bs T) : T[99]? = some (.inl (.int, 201, [])) := hB 99 _ rfl
theorem t_100 {T : List sm_Sh} (hB : sm_Bs T) : T[100]? = some (.inl (.int, 20, [])) := hB 100 _ rfl
theorem t_101 {T : List sm_Sh} (hB : sm_Bs T) : T[101]? = some (.inl (.int, 20, [])) := hB 101 _ rfl
theorem t_102 {T : List sm_Sh} (hB : sm_Bs T) : T[102]? = some (.inl (.int, 20, [])) := hB 102 _ rfl
theorem t_103 {T : List sm_Sh} (hB : sm_Bs T) : T[103]? = some (.inl (.boolean, 20, [])) := hB 103 _ rfl
theorem t_104 {T : List sm_Sh} (hB : sm_Bs T) : T[104]? = some (.inl (.int, 328, [])) := hB 104 _ rfl
theorem t_105 {T : List sm_Sh} (hB : sm_Bs T) : T[105]? = some (.inl (.int, 205, [])) := hB 105 _ rfl
theorem t_106 {T : List sm_Sh} (hB : sm_Bs T) : T[106]? = some (.inl (.int, 8, [])) := hB 106 _ rfl
theorem t_107 {T : List sm_Sh} (hB : sm_Bs T) : T[107]? = some (.inl (.int, 8, [])) := hB 107 _ rfl
theorem t_108 {T : List sm_Sh} (hB : sm_Bs T) : T[108]? = some (.inl (.int, 8, [])) := hB 108 _ rfl
theorem t_109 {T : List sm_Sh} (hB : sm_Bs T) : T[109]? = some (.inl (.long, 1, [])) := hB 109 _ rfl
theorem cf_Jx4a65c : sm_CF 0 RJx4a65c TJx4a65c 3 tyJx4a65c := by
  refine ⟨rfl, tyJx4a65c_ok, nmJx4a65c, fun w hw => ?_⟩
  obtain ⟨k, hk, rfl⟩ := List.mem_map.mp hw
  have hk2 := List.mem_range.mp hk
  match k, hk2 with
  | 0, _ => exact ⟨(sm_t1 215 (by decide +kernel)), rfl⟩
  | 1, _ => exact ⟨(sm_t1 211 (by decide +kernel)), rfl⟩
  | 2, _ => exact ⟨(sm_t1 213 (by decide +kernel)), rfl⟩
    | k + 3, h => exact absurd h (Nat.not_lt.mpr (Nat.le_add_left 3 k))
theorem cf_X0 : sm_CF 1 RX0 TX0 21 tyX0 := by
  refine ⟨rfl, tyX0_ok, nmX0, fun w hw => ?_⟩
  obtain ⟨k, hk, rfl⟩ := List.mem_map.mp hw
  have hk2 := List.mem_range.mp hk
  match k, hk2 with
  | 0, _ => exact ⟨(sm_t2 139 (by decide +kernel)), rfl⟩
  | 1, _ => exact ⟨(sm_t2 140 (by decide +kernel)), rfl⟩
  | 2, _ => exact ⟨(sm_t2 141 (by decide +kernel)), rfl⟩
  | 3, _ => exact ⟨(sm_t2 142 (by decide +kernel)), rfl⟩
  | 4, _ => exact ⟨(sm_t2 105 (by decide +kernel)), rfl⟩
  | 5, _ => exact ⟨(sm_t2 107 (by decide +kernel)), rfl⟩
  | 6, _ => exact ⟨(sm_t2 109 (by decide +kernel)), rfl⟩
  | 7, _ => exact ⟨(sm_t2 111 (by decide +kernel)), rfl⟩
  | 8, _ => exact ⟨(sm_t2 113 (by decide +kernel)), rfl⟩
  | 9, _ => exact ⟨(sm_t2 115 (by decide +kernel)), rfl⟩
  | 10, _ => exact ⟨(sm_t2 117 (by decide +kernel)), rfl⟩
  | 11, _ => exact ⟨(sm_t2 119 (by decide +kernel)), rfl⟩
  | 12, _ => exact ⟨(sm_t2 121 (by decide +kernel)), rfl⟩
  | 13, _ => exact ⟨(sm_t2 123 (by decide +kernel)), rfl⟩
  | 14, _ => exact ⟨(sm_t2 125 (by decide +kernel)), rfl⟩
  | 15, _ => exact ⟨(sm_t2 127 (by decide +kernel)), rfl⟩
  | 16, _ => exact ⟨(sm_t2 129 (by decide +kernel)), rfl⟩
  | 17, _ => exact ⟨(sm_t2 131 (by decide +kernel)), rfl⟩
  | 18, _ => exact ⟨(sm_t2 133 (by decide +kernel)), rfl⟩
  | 19, _ => exact ⟨(sm_t2 135 (by decide +kernel)), rfl⟩
  | 20, _ => exact ⟨(sm_t2 137 (by decide +kernel)), rfl⟩
    | k + 21, h => exact absurd h (Nat.not_lt.mpr (Nat.le_add_left 21 k))
theorem cf_X1 : sm_CF 2 RX1 TX1 5 tyX1 := by
  refine ⟨rfl, tyX1_ok, nmX1, fun w hw => ?_⟩
  obtain ⟨k, hk, rfl⟩ := List.mem_map.mp hw
  have hk2 := List.mem_range.mp hk
  match k, hk2 with
  | 0, _ => exact ⟨(sm_t2 31 (by decide +kernel)), rfl⟩
  | 1, _ => exact ⟨(sm_t2 33 (by decide +kernel)), rfl⟩
  | 2, _ => exact ⟨(sm_t2 35 (by decide +kernel)), rfl⟩
  | 3, _ => exact ⟨(sm_t2 37 (by decide +kernel)), rfl⟩
  | 4, _ => exact ⟨(sm_t2 39 (by decide +kernel)), rfl⟩
    | k + 5, h => exact absurd h (Nat.not_lt.mpr (Nat.le_add_left 5 k))
theorem cf_X3 : sm_CF 3 RX3 TX3 1 tyX3 := by
  refine ⟨rfl, tyX3_ok, nmX3, fun w hw => ?_⟩
  obtain ⟨k, hk, rfl⟩ := List.mem_map.mp hw
  have hk2 := List.mem_range.mp hk
  match k, hk2 with
  | 0, _ => exact ⟨(sm_t1 56 (by decide +kernel)), rfl⟩
    | k + 1, h => exact absurd h (Nat.not_lt.mpr (Nat.le_add_left 1 k))
theorem cf_X4 : sm_CF 4 RX4 TX4 2 tyX4 := by
  refine ⟨rfl, tyX4_ok, nmX4, fun w hw => ?_⟩
  obtain ⟨k, hk, rfl⟩ := List.mem_map.mp hw
  have hk2 := List.mem_range.mp hk
  match k, hk2 with
  | 0, _ => exact ⟨(sm_t4 29 (by decide +kernel)), rfl⟩
  | 1, _ => exact ⟨(sm_t4 31 (by decide +kernel)), rfl⟩
    | k + 2, h => exact absurd h (Nat.not_lt.mpr (Nat.le_add_left 2 k))
theorem cf_X5 : sm_CF 5 RX5 TX5 5 tyX5 := by
  refine ⟨rfl, tyX5_ok, nmX5, fun w hw => ?_⟩
  obtain ⟨k, hk, rfl⟩ := List.mem_map.mp hw
  have hk2 := List.mem_range.mp hk
  match k, hk2 with
  | 0, _ => exact ⟨(sm_t1 189 (by decide +kernel)), rfl⟩
  | 1, _ => exact ⟨(sm_t1 190 (by decide +kernel)), rfl⟩
  | 2, _ => exact ⟨(sm_t1 183 (by decide +kernel)), rfl⟩
  | 3, _ => exact ⟨(sm_t1 185 (by decide +kernel)), rfl⟩
  | 4, _ => exact ⟨(sm_t1 187 (by decide +kernel)), rfl⟩
    | k + 5, h => exact absurd h (Nat.not_lt.mpr (Nat.le_add_left 5 k))
theorem cf_X6 : sm_CF 6 RX6 TX6 6 tyX6 := by
  refine ⟨rfl, tyX6_ok, nmX6, fun w hw => ?_⟩
  obtain ⟨k, hk, rfl⟩ := List.mem_map.mp hw
  have hk2 := List.mem_range.mp hk
  match k, hk2 with
  | 0, _ => exact ⟨(sm_t2 58 (by decide +kernel)), rfl⟩
  | 1, _ => exact ⟨(sm_t2 60 (by decide +kernel)), rfl⟩
  | 2, _ => exact ⟨(sm_t2 62 (by decide +kernel)), rfl⟩
  | 3, _ => exact ⟨(sm_t2 64 (by decide +kernel)), rfl⟩
  | 4, _ => exact ⟨(sm_t2 66 (by decide +kernel)), rfl⟩
  | 5, _ => exact ⟨(sm_t2 68 (by decide +kernel)), rfl⟩
    | k + 6, h => exact absurd h (Nat.not_lt.mpr (Nat.le_add_left 6 k))
theorem cf_X7 : sm_CF 7 RX7 TX7 4 tyX7 := by
  refine ⟨rfl, tyX7_ok, nmX7, fun w hw => ?_⟩
  obtain ⟨k, hk, rfl⟩ := List.mem_map.mp hw
  have hk2 := List.mem_range.mp hk
  match k, hk2 with
  | 0, _ => exact ⟨(sm_t2 8 (by decide +kernel)), rfl⟩
  | 1, _ => exact ⟨(sm_t2 10 (by decide +kernel)), rfl⟩
  | 2, _ => exact ⟨(sm_t2 12 (by decide +kernel)), rfl⟩
  | 3, _ => exact ⟨(sm_t2 14 (by decide +kernel)), rfl⟩
    | k + 4, h => exact absurd h (Nat.not_lt.mpr (Nat.le_add_left 4 k))
theorem cf_X8 : sm_CF 8 RX8 TX8 11 tyX8 := by
  refine ⟨rfl, tyX8_ok, nmX8, fun w hw => ?_⟩
  obtain ⟨k, hk, rfl⟩ := List.mem_map.mp hw
  have hk2 := List.mem_range.mp hk
  match k, hk2 with
  | 0, _ => exact ⟨(sm_t1 118 (by decide +kernel)), rfl⟩
  | 1, _ => exact ⟨(sm_t1 120 (by decide +kernel)), rfl⟩
  | 2, _ => exact ⟨(sm_t1 122 (by decide +kernel)), rfl⟩
  | 3, _ => exact ⟨(sm_t1 124 (by decide +kernel)), rfl⟩
  | 4, _ => exact ⟨(sm_t1 126 (by decide +kernel)), rfl⟩
  | 5, _ => exact ⟨(sm_t1 128 (by decide +kernel)), rfl⟩
  | 6, _ => exact ⟨(sm_t1 130 (by decide +kernel)), rfl⟩
  | 7, _ => exact ⟨(sm_t1 132 (by decide +kernel)), rfl⟩
  | 8, _ => exact ⟨(sm_t1 134 (by decide +kernel)), rfl⟩
  | 9, _ => exact ⟨(sm_t1 136 (by decide +kernel)), rfl⟩
  | 10, _ => exact ⟨(sm_t1 138 (by decide +kernel)), rfl⟩
    | k + 11, h => exact absurd h (Nat.not_lt.mpr (Nat.le_add_left 11 k))
theorem cf_X9 : sm_CF 9 RX9 TX9 5 tyX9 := by
  refine ⟨rfl, tyX9_ok, nmX9, fun w hw => ?_⟩
  obtain ⟨k, hk, rfl⟩ := List.mem_map.mp hw
  have hk2 := List.mem_range.mp hk
  match k, hk2 with
  | 0, _ => exact ⟨(sm_t1 166 (by decide +kernel)), rfl⟩
  | 1, _ => exact ⟨(sm_t1 168 (by decide +kernel)), rfl⟩
  | 2, _ => exact ⟨(sm_t1 160 (by decide +kernel)), rfl⟩
  | 3, _ => exact ⟨(sm_t1 162 (by decide +kernel)), rfl⟩
  | 4, _ => exact ⟨(sm_t1 164 (by decide +kernel)), rfl⟩
    | k + 5, h => exact absurd h (Nat.not_lt.mpr (Nat.le_add_left 5 k))
theorem cf_X10 : sm_CF 10 RX10 TX10 2 tyX10 := by
  refine ⟨rfl, tyX10_ok, nmX10, fun w hw => ?_⟩
  obtain ⟨k, hk, rfl⟩ := List.mem_map.mp hw
  have hk2 := List.mem_range.mp hk
  match k, hk2 with
  | 0, _ => exact ⟨(sm_t1 65 (by decide +kernel)), rfl⟩
  | 1, _ => exact ⟨(sm_t1 67 (by decide +kernel)), rfl⟩
    | k + 2, h => exact absurd h (Nat.not_lt.mpr (Nat.le_add_left 2 k))
theorem cf_X11 : sm_CF 11 RX11 TX11 16 tyX11 := by
  refine ⟨rfl, tyX11_ok, nmX11, fun w hw => ?_⟩
  obtain ⟨k, hk, rfl⟩ := List.mem_map.mp hw
  have hk2 := List.mem_range.mp hk
  match k, hk2 with
  | 0, _ => exact ⟨(sm_t2 162 (by decide +kernel)), rfl⟩
  | 1, _ => exact ⟨(sm_t2 164 (by decide +kernel)), rfl⟩
  | 2, _ => exact ⟨(sm_t2 166 (by decide +kernel)), rfl⟩
  | 3, _ => exact ⟨(sm_t2 168 (by decide +kernel)), rfl⟩
  | 4, _ => exact ⟨(sm_t2 170 (by decide +kernel)), rfl⟩
  | 5, _ => exact ⟨(sm_t2 172 (by decide +kernel)), rfl⟩
  | 6, _ => exact ⟨(sm_t2 174 (by decide +kernel)), rfl⟩
  | 7, _ => exact ⟨(sm_t2 176 (by decide +kernel)), rfl⟩
  | 8, _ => exact ⟨(sm_t2 178 (by decide +kernel)), rfl⟩
  | 9, _ => exact ⟨(sm_t2 180 (by decide +kernel)), rfl⟩
  | 10, _ => exact ⟨(sm_t2 182 (by decide +kernel)), rfl⟩
  | 11, _ => exact ⟨(sm_t2 184 (by decide +kernel)), rfl⟩
  | 12, _ => exact ⟨(sm_t2 186 (by decide +kernel)), rfl⟩
  | 13, _ => exact ⟨(sm_t2 188 (by decide +kernel)), rfl⟩
  | 14, _ => exact ⟨(sm_t2 190 (by decide +kernel)), rfl⟩
  | 15, _ => exact ⟨(sm_t2 192 (by decide +kernel)), rfl⟩
    | k + 16, h => exact absurd h (Nat.not_lt.mpr (Nat.le_add_left 16 k))
theorem cf_X12 : sm_CF 12 RX12 TX12 61 tyX12 := by
  refine ⟨rfl, tyX12_ok, nmX12, fun w hw => ?_⟩
  obtain ⟨k, hk, rfl⟩ := List.mem_map.mp hw
  have hk2 := List.mem_range.mp hk
  match k, hk2 with
  | 0, _ => exact ⟨(sm_t6 144 (by decide +kernel)), rfl⟩
  | 1, _ => exact ⟨(sm_t6 146 (by decide +kernel)), rfl⟩
  | 2, _ => exact ⟨(sm_t6 148 (by decide +kernel)), rfl⟩
  | 3, _ => exact ⟨(sm_t6 150 (by decide +kernel)), rfl⟩
  | 4, _ => exact ⟨(sm_t6 152 (by decide +kernel)), rfl⟩
  | 5, _ => exact ⟨(sm_t6 154 (by decide +kernel)), rfl⟩
  | 6, _ => exact ⟨(sm_t6 156 (by decide +kernel)), rfl⟩
  | 7, _ => exact ⟨(sm_t6 158 (by decide +kernel)), rfl⟩
  | 8, _ => exact ⟨(sm_t6 160 (by decide +kernel)), rfl⟩
  | 9, _ => exact ⟨(sm_t6 162 (by decide +kernel)), rfl⟩
  | 10, _ => exact ⟨(sm_t6 164 (by decide +kernel)), rfl⟩
  | 11, _ => exact ⟨(sm_t6 166 (by decide +kernel)), rfl⟩
  | 12, _ => exact ⟨(sm_t6 168 (by decide +kernel)), rfl⟩
  | 13, _ => exact ⟨(sm_t6 170 (by decide +kernel)), rfl⟩
  | 14, _ => exact ⟨(sm_t6 172 (by decide +kernel)), rfl⟩
  | 15, _ => exact ⟨(sm_t6 174 (by decide +kernel)), rfl⟩
  | 16, _ => exact ⟨(sm_t6 176 (by decide +kernel)), rfl⟩
  | 17, _ => exact ⟨(sm_t6 178 (by decide +kernel)), rfl⟩
  | 18, _ => exact ⟨(sm_t6 180 (by decide +kernel)), rfl⟩
  | 19, _ => exact ⟨(sm_t6 182 (by decide +kernel)), rfl⟩
  | 20, _ => exact ⟨(sm_t6 184 (by decide +kernel)), rfl⟩
  | 21, _ => exact ⟨(sm_t6 186 (by decide +kernel)), rfl⟩
  | 22, _ => exact ⟨(sm_t6 188 (by decide +kernel)), rfl⟩
  | 23, _ => exact ⟨(sm_t6 190 (by decide +kernel)), rfl⟩
  | 24, _ => exact ⟨(sm_t6 192 (by decide +kernel)), rfl⟩
  | 25, _ => exact ⟨(sm_t6 194 (by decide +kernel)), rfl⟩
  | 26, _ => exact ⟨(sm_t6 196 (by decide +kernel)), rfl⟩
  | 27, _ => exact ⟨(sm_t6 198 (by decide +kernel)), rfl⟩
  | 28, _ => exact ⟨(sm_t6 200 (by decide +kernel)), rfl⟩
  | 29, _ => exact ⟨(sm_t6 202 (by decide +kernel)), rfl⟩
  | 30, _ => exact ⟨(sm_t6 204 (by decide +kernel)), rfl⟩
  | 31, _ => exact ⟨(sm_t6 206 (by decide +kernel)), rfl⟩
  | 32, _ => exact ⟨(sm_t6 208 (by decide +kernel)), rfl⟩
  | 33, _ => exact ⟨(sm_t6 210 (by decide +kernel)), rfl⟩
  | 34, _ => exact ⟨(sm_t6 212 (by decide +kernel)), rfl⟩
  | 35, _ => exact ⟨(sm_t6 214 (by decide +kernel)), rfl⟩
  | 36, _ => exact ⟨(sm_t6 216 (by decide +kernel)), rfl⟩
  | 37, _ => exact ⟨(sm_t6 218 (by decide +kernel)), rfl⟩
  | 38, _ => exact ⟨(sm_t6 220 (by decide +kernel)), rfl⟩
  | 39, _ => exact ⟨(sm_t6 222 (by decide +kernel)), rfl⟩
  | 40, _ => exact ⟨(sm_t6 224 (by decide +kernel)), rfl⟩
  | 41, _ => exact ⟨(sm_t6 226 (by decide +kernel)), rfl⟩
  | 42, _ => exact ⟨(sm_t6 228 (by decide +kernel)), rfl⟩
  | 43, _ => exact ⟨(sm_t6 230 (by decide +kernel)), rfl⟩
  | 44, _ => exact ⟨(sm_t6 232 (by decide +kernel)), rfl⟩
  | 45, _ => exact ⟨(sm_t6 234 (by decide +kernel)), rfl⟩
  | 46, _ => exact ⟨(sm_t6 236 (by decide +kernel)), rfl⟩
  | 47, _ => exact ⟨(sm_t6 238 (by decide +kernel)), rfl⟩
  | 48, _ => exact ⟨(sm_t7 0 (by decide +kernel)), rfl⟩
  | 49, _ => exact ⟨(sm_t7 2 (by decide +kernel)), rfl⟩
  | 50, _ => exact ⟨(sm_t7 4 (by decide +kernel)), rfl⟩
  | 51, _ => exact ⟨(sm_t7 6 (by decide +kernel)), rfl⟩
  | 52, _ => exact ⟨(sm_t7 8 (by decide +kernel)), rfl⟩
  | 53, _ => exact ⟨(sm_t7 10 (by decide +kernel)), rfl⟩
  | 54, _ => exact ⟨(sm_t7 12 (by decide +kernel)), rfl⟩
  | 55, _ => exact ⟨(sm_t7 14 (by decide +kernel)), rfl⟩
  | 56, _ => exact ⟨(sm_t7 16 (by decide +kernel)), rfl⟩
  | 57, _ => exact ⟨(sm_t7 18 (by decide +kernel)), rfl⟩
  | 58, _ => exact ⟨(sm_t7 20 (by decide +kernel)), rfl⟩
  | 59, _ => exact ⟨(sm_t7 22 (by decide +kernel)), rfl⟩
  | 60, _ => exact ⟨(sm_t7 24 (by decide +kernel)), rfl⟩
    | k + 61, h => exact absurd h (Nat.not_lt.mpr (Nat.le_add_left 61 k))
theorem fl_X11_10_11 : sm_FLk RX11 10 11 0 (.object "SleepMoves$Tape") true := ⟨RX11, TX11, 16, tyX11, "SleepMoves", cf_X11, by decide, (Or.inl (sm_t2 146 (by decide +kernel))), (Or.inl rfl), tyX11_ok 0 (by decide), rfl⟩
theorem fl_X11_21_11 : sm_FLk RX11 21 11 1 (.object "SleepMoves$StreetReader") true := ⟨RX11, TX11, 16, tyX11, "SleepMoves", cf_X11, by decide, (Or.inl (sm_t2 147 (by decide +kernel))), (Or.inl rfl), tyX11_ok 1 (by decide), rfl⟩
theorem fl_X11_28_11 : sm_FLk RX11 28 11 2 (.object "SleepMoves$RuleReader") true := ⟨RX11, TX11, 16, tyX11, "SleepMoves", cf_X11, by decide, (Or.inl (sm_t2 148 (by decide +kernel))), (Or.inl rfl), tyX11_ok 2 (by decide), rfl⟩
theorem fl_X11_35_11 : sm_FLk RX11 35 11 3 (.object "java/util/ArrayList") true := ⟨RX11, TX11, 16, tyX11, "SleepMoves", cf_X11, by decide, (Or.inl (sm_t2 149 (by decide +kernel))), (Or.inl rfl), tyX11_ok 3 (by decide), rfl⟩
theorem fl_X11_42_11 : sm_FLk RX11 42 11 4 (.object "SleepMoves$Street") true := ⟨RX11, TX11, 16, tyX11, "SleepMoves", cf_X11, by decide, (Or.inl (sm_t2 150 (by decide +kernel))), (Or.inl rfl), tyX11_ok 4 (by decide), rfl⟩
theorem fl_X11_49_11 : sm_FLk RX11 49 11 5 (.object "SleepMoves$Stand") true := ⟨RX11, TX11, 16, tyX11, "SleepMoves", cf_X11, by decide, (Or.inl (sm_t2 151 (by decide +kernel))), (Or.inl rfl), tyX11_ok 5 (by decide), rfl⟩
theorem fl_X11_53_11 : sm_FLk RX11 53 11 6 (.object "SleepMoves$Stand") true := ⟨RX11, TX11, 16, tyX11, "SleepMoves", cf_X11, by decide, (Or.inl (sm_t2 152 (by decide +kernel))), (Or.inl rfl), tyX11_ok 6 (by decide), rfl⟩
theorem fl_X11_56_11 : sm_FLk RX11 56 11 7 .boolean false := ⟨RX11, TX11, 16, tyX11, "SleepMoves", cf_X11, by decide, (Or.inl (sm_t2 153 (by decide +kernel))), (Or.inl rfl), tyX11_ok 7 (by decide), rfl⟩
theorem fl_X11_63_11 : sm_FLk RX11 63 11 8 (.object "SleepMoves$Past") true := ⟨RX11, TX11, 16, tyX11, "SleepMoves", cf_X11, by decide, (Or.inl (sm_t2 154 (by decide +kernel))), (Or.inl rfl), tyX11_ok 8 (by decide), rfl⟩
theorem fl_X11_70_11 : sm_FLk RX11 70 11 9 (.object "SleepMoves$Seen") true := ⟨RX11, TX11, 16, tyX11, "SleepMoves", cf_X11, by decide, (Or.inl (sm_t2 155 (by decide +kernel))), (Or.inl rfl), tyX11_ok 9 (by decide), rfl⟩
theorem fl_X11_79_11 : sm_FLk RX11 79 11 10 (.object "SleepMoves$Dream") true := ⟨RX11, TX11, 16, tyX11, "SleepMoves", cf_X11, by decide, (Or.inl (sm_t2 156 (by decide +kernel))), (Or.inl rfl), tyX11_ok 10 (by decide), rfl⟩
theorem fl_X11_83_11 : sm_FLk RX11 83 11 11 .int false := ⟨RX11, TX11, 16, tyX11, "SleepMoves", cf_X11, by decide, (Or.inl (sm_t2 157 (by decide +kernel))), (Or.inl rfl), tyX11_ok 11 (by decide), rfl⟩
theorem fl_X11_92_11 : sm_FLk RX11 92 11 12 (.object "SleepMoves$Row") true := ⟨RX11, TX11, 16, tyX11, "SleepMoves", cf_X11, by decide, (Or.inl (sm_t2 158 (by decide +kernel))), (Or.inl rfl), tyX11_ok 12 (by decide), rfl⟩
theorem fl_X11_96_11 : sm_FLk RX11 96 11 13 (.object "SleepMoves$Row") true := ⟨RX11, TX11, 16, tyX11, "SleepMoves", cf_X11, by decide, (Or.inl (sm_t2 159 (by decide +kernel))), (Or.inl rfl), tyX11_ok 13 (by decide), rfl⟩
theorem fl_X11_99_11 : sm_FLk RX11 99 11 14 (.object "SleepMoves$Row") true := ⟨RX11, TX11, 16, tyX11, "SleepMoves", cf_X11, by decide, (Or.inl (sm_t2 160 (by decide +kernel))), (Or.inl rfl), tyX11_ok 14 (by decide), rfl⟩
theorem fl_X11_102_11 : sm_FLk RX11 102 11 15 (.object "SleepMoves$Row") true := ⟨RX11, TX11, 16, tyX11, "SleepMoves", cf_X11, by decide, (Or.inl (sm_t2 161 (by decide +kernel))), (Or.inl rfl), tyX11_ok 15 (by decide), rfl⟩
theorem fl_X11_109_10 : sm_FLk RX11 109 10 1 .int false := ⟨RX10, TX10, 2, tyX10, "SleepMoves$Tape", cf_X10, by decide, (Or.inl (sm_t1 63 (by decide +kernel))), (Or.inl rfl), tyX10_ok 1 (by decide), rfl⟩
theorem fl_X11_131_8 : sm_FLk RX11 131 8 1 .int false := ⟨RX8, TX8, 11, tyX8, "SleepMoves$Street", cf_X8, by decide, (Or.inl (sm_t1 93 (by decide +kernel))), (Or.inl rfl), tyX8_ok 1 (by decide), rfl⟩
theorem fl_X11_147_8 : sm_FLk RX11 147 8 3 .int false := ⟨RX8, TX8, 11, tyX8, "SleepMoves$Street", cf_X8, by decide, (Or.inl (sm_t1 98 (by decide +kernel))), (Or.inl rfl), tyX8_ok 3 (by decide), rfl⟩
theorem fl_X11_150_7 : sm_FLk RX11 150 7 0 .int false := ⟨RX7, TX7, 4, tyX7, "SleepMoves$Stand", cf_X7, by decide, (Or.inl (sm_t1 230 (by decide +kernel))), (Or.inl rfl), tyX7_ok 0 (by decide), rfl⟩
theorem fl_X11_153_7 : sm_FLk RX11 153 7 1 .int false := ⟨RX7, TX7, 4, tyX7, "SleepMoves$Stand", cf_X7, by decide, (Or.inl (sm_t1 236 (by decide +kernel))), (Or.inl rfl), tyX7_ok 1 (by decide), rfl⟩
theorem fl_X11_156_7 : sm_FLk RX11 156 7 2 .int false := ⟨RX7, TX7, 4, tyX7, "SleepMoves$Stand", cf_X7, by decide, (Or.inl (sm_t1 239 (by decide +kernel))), (Or.inl rfl), tyX7_ok 2 (by decide), rfl⟩
theorem fl_X11_189_8 : sm_FLk RX11 189 8 10 (.object "SleepMoves$Row") true := ⟨RX8, TX8, 11, tyX8, "SleepMoves$Street", cf_X8, by decide, (Or.inl (sm_t1 116 (by decide +kernel))), (Or.inl rfl), tyX8_ok 10 (by decide), rfl⟩
theorem fl_X11_217_8 : sm_FLk RX11 217 8 0 .int false := ⟨RX8, TX8, 11, tyX8, "SleepMoves$Street", cf_X8, by decide, (Or.inl (sm_t1 89 (by decide +kernel))), (Or.inl rfl), tyX8_ok 0 (by decide), rfl⟩
theorem fl_X11_220_8 : sm_FLk RX11 220 8 2 .int false := ⟨RX8, TX8, 11, tyX8, "SleepMoves$Street", cf_X8, by decide, (Or.inl (sm_t1 96 (by decide +kernel))), (Or.inl rfl), tyX8_ok 2 (by decide), rfl⟩
theorem fl_X11_223_8 : sm_FLk RX11 223 8 4 .int false := ⟨RX8, TX8, 11, tyX8, "SleepMoves$Street", cf_X8, by decide, (Or.inl (sm_t1 101 (by decide +kernel))), (Or.inl rfl), tyX8_ok 4 (by decide), rfl⟩
theorem fl_X11_226_6 : sm_FLk RX11 226 6 4 .int false := ⟨RX6, TX6, 6, tyX6, "SleepMoves$Seen", cf_X6, by decide, (Or.inl (sm_t2 55 (by decide +kernel))), (Or.inl rfl), tyX6_ok 4 (by decide), rfl⟩
theorem fl_X11_229_2 : sm_FLk RX11 229 2 4 .int false := ⟨RX1, TX1, 5, tyX1, "SleepMoves$Past", cf_X1, by decide, (Or.inl (sm_t2 30 (by decide +kernel))), (Or.inl rfl), tyX1_ok 4 (by decide), rfl⟩
theorem fl_X11_238_7 : sm_FLk RX11 238 7 3 .long false := ⟨RX7, TX7, 4, tyX7, "SleepMoves$Stand", cf_X7, by decide, (Or.inl (sm_t2 7 (by decide +kernel))), (Or.inl rfl), tyX7_ok 3 (by decide), rfl⟩
theorem fl_X11_253_1 : sm_FLk RX11 253 1 9 .int false := ⟨RX0, TX0, 21, tyX0, "SleepMoves$Dream", cf_X0, by decide, (Or.inl (sm_t2 90 (by decide +kernel))), (Or.inl rfl), tyX0_ok 9 (by decide), rfl⟩
theorem fl_X11_266_1 : sm_FLk RX11 266 1 0 .int false := ⟨RX0, TX0, 21, tyX0, "SleepMoves$Dream", cf_X0, by decide, (Or.inl (sm_t1 231 (by decide +kernel))), (Or.inr (sm_t1 229 (by decide +kernel))), tyX0_ok 0 (by decide), rfl⟩
theorem fl_X11_267_1 : sm_FLk RX11 267 1 7 (.object "SleepMoves$Row") true := ⟨RX0, TX0, 21, tyX0, "SleepMoves$Dream", cf_X0, by decide, (Or.inl (sm_t2 86 (by decide +kernel))), (Or.inl rfl), tyX0_ok 7 (by decide), rfl⟩
theorem fl_X11_270_1 : sm_FLk RX11 270 1 8 (.object "SleepMoves$Row") true := ⟨RX0, TX0, 21, tyX0, "SleepMoves$Dream", cf_X0, by decide, (Or.inl (sm_t2 88 (by decide +kernel))), (Or.inl rfl), tyX0_ok 8 (by decide), rfl⟩
theorem fl_X11_302_1 : sm_FLk RX11 302 1 6 (.object "SleepMoves$Row") true := ⟨RX0, TX0, 21, tyX0, "SleepMoves$Dream", cf_X0, by decide, (Or.inl (sm_t2 84 (by decide +kernel))), (Or.inl rfl), tyX0_ok 6 (by decide), rfl⟩
theorem fl_X11_340_1 : sm_FLk RX11 340 1 11 .int false := ⟨RX0, TX0, 21, tyX0, "SleepMoves$Dream", cf_X0, by decide, (Or.inl (sm_t2 94 (by decide +kernel))), (Or.inl rfl), tyX0_ok 11 (by decide), rfl⟩
theorem fl_X11_343_1 : sm_FLk RX11 343 1 12 .int false := ⟨RX0, TX0, 21, tyX0, "SleepMoves$Dream", cf_X0, by decide, (Or.inl (sm_t2 96 (by decide +kernel))), (Or.inl rfl), tyX0_ok 12 (by decide), rfl⟩
theorem fl_X11_349_6 : sm_FLk RX11 349 6 5 .int false := ⟨RX6, TX6, 6, tyX6, "SleepMoves$Seen", cf_X6, by decide, (Or.inl (sm_t2 57 (by decide +kernel))), (Or.inl rfl), tyX6_ok 5 (by decide), rfl⟩
theorem fl_X11_356_1 : sm_FLk RX11 356 1 2 .int false := ⟨RX0, TX0, 21, tyX0, "SleepMoves$Dream", cf_X0, by decide, (Or.inl (sm_t2 2 (by decide +kernel))), (Or.inr (sm_t2 1 (by decide +kernel))), tyX0_ok 2 (by decide), rfl⟩
theorem fl_X11_357_1 : sm_FLk RX11 357 1 1 .int false := ⟨RX0, TX0, 21, tyX0, "SleepMoves$Dream", cf_X0, by decide, (Or.inl (sm_t1 237 (by decide +kernel))), (Or.inr (sm_t1 235 (by decide +kernel))), tyX0_ok 1 (by decide), rfl⟩
theorem fl_X11_358_1 : sm_FLk RX11 358 1 10 .int false := ⟨RX0, TX0, 21, tyX0, "SleepMoves$Dream", cf_X0, by decide, (Or.inl (sm_t2 92 (by decide +kernel))), (Or.inl rfl), tyX0_ok 10 (by decide), rfl⟩
theorem fl_X0_16_1 : sm_FLk RX0 16 1 6 (.object "SleepMoves$Row") true := ⟨RX0, TX0, 21, tyX0, "SleepMoves$Dream", cf_X0, by decide, (Or.inl (sm_t2 83 (by decide +kernel))), (Or.inl rfl), tyX0_ok 6 (by decide), rfl⟩
theorem fl_X0_20_1 : sm_FLk RX0 20 1 7 (.object "SleepMoves$Row") true := ⟨RX0, TX0, 21, tyX0, "SleepMoves$Dream", cf_X0, by decide, (Or.inl (sm_t2 85 (by decide +kernel))), (Or.inl rfl), tyX0_ok 7 (by decide), rfl⟩
theorem fl_X0_23_1 : sm_FLk RX0 23 1 8 (.object "SleepMoves$Row") true := ⟨RX0, TX0, 21, tyX0, "SleepMoves$Dream", cf_X0, by decide, (Or.inl (sm_t2 87 (by decide +kernel))), (Or.inl rfl), tyX0_ok 8 (by decide), rfl⟩
theorem fl_X0_26_1 : sm_FLk RX0 26 1 9 .int false := ⟨RX0, TX0, 21, tyX0, "SleepMoves$Dream", cf_X0, by decide, (Or.inl (sm_t2 89 (by decide +kernel))), (Or.inl rfl), tyX0_ok 9 (by decide), rfl⟩
theorem fl_X0_30_1 : sm_FLk RX0 30 1 10 .int false := ⟨RX0, TX0, 21, tyX0, "SleepMoves$Dream", cf_X0, by decide, (Or.inl (sm_t2 91 (by decide +kernel))), (Or.inl rfl), tyX0_ok 10 (by decide), rfl⟩
theorem fl_X0_33_1 : sm_FLk RX0 33 1 11 .int false := ⟨RX0, TX0, 21, tyX0, "SleepMoves$Dream", cf_X0, by decide, (Or.inl (sm_t2 93 (by decide +kernel))), (Or.inl rfl), tyX0_ok 11 (by decide), rfl⟩
theorem fl_X0_36_1 : sm_FLk RX0 36 1 12 .int false := ⟨RX0, TX0, 21, tyX0, "SleepMoves$Dream", cf_X0, by decide, (Or.inl (sm_t2 95 (by decide +kernel))), (Or.inl rfl), tyX0_ok 12 (by decide), rfl⟩
theorem fl_X0_39_1 : sm_FLk RX0 39 1 13 .int false := ⟨RX0, TX0, 21, tyX0, "SleepMoves$Dream", cf_X0, by decide, (Or.inl (sm_t2 97 (by decide +kernel))), (Or.inl rfl), tyX0_ok 13 (by decide), rfl⟩
theorem fl_X0_42_1 : sm_FLk RX0 42 1 14 .int false := ⟨RX0, TX0, 21, tyX0, "SleepMoves$Dream", cf_X0, by decide, (Or.inl (sm_t2 98 (by decide +kernel))), (Or.inl rfl), tyX0_ok 14 (by decide), rfl⟩
theorem fl_X0_45_1 : sm_FLk RX0 45 1 15 .int false := ⟨RX0, TX0, 21, tyX0, "SleepMoves$Dream", cf_X0, by decide, (Or.inl (sm_t2 99 (by decide +kernel))), (Or.inl rfl), tyX0_ok 15 (by decide), rfl⟩
theorem fl_X0_48_1 : sm_FLk RX0 48 1 16 .int false := ⟨RX0, TX0, 21, tyX0, "SleepMoves$Dream", cf_X0, by decide, (Or.inl (sm_t2 100 (by decide +kernel))), (Or.inl rfl), tyX0_ok 16 (by decide), rfl⟩
theorem fl_X0_61_1 : sm_FLk RX0 61 1 17 (.object "SleepMoves$Row") true := ⟨RX0, TX0, 21, tyX0, "SleepMoves$Dream", cf_X0, by decide, (Or.inl (sm_t2 101 (by decide +kernel))), (Or.inl rfl), tyX0_ok 17 (by decide), rfl⟩
theorem fl_X0_64_1 : sm_FLk RX0 64 1 18 (.object "SleepMoves$Row") true := ⟨RX0, TX0, 21, tyX0, "SleepMoves$Dream", cf_X0, by decide, (Or.inl (sm_t2 102 (by decide +kernel))), (Or.inl rfl), tyX0_ok 18 (by decide), rfl⟩
theorem fl_X0_67_1 : sm_FLk RX0 67 1 19 (.object "SleepMoves$Row") true := ⟨RX0, TX0, 21, tyX0, "SleepMoves$Dream", cf_X0, by decide, (Or.inl (sm_t2 103 (by decide +kernel))), (Or.inl rfl), tyX0_ok 19 (by decide), rfl⟩
theorem fl_X0_70_1 : sm_FLk RX0 70 1 20 (.object "SleepMoves$Row") true := ⟨RX0, TX0, 21, tyX0, "SleepMoves$Dream", cf_X0, by decide, (Or.inl (sm_t2 104 (by decide +kernel))), (Or.inl rfl), tyX0_ok 20 (by decide), rfl⟩
theorem fl_X0_73_1 : sm_FLk RX0 73 1 4 (.object "SleepMoves$Street") true := ⟨RX0, TX0, 21, tyX0, "SleepMoves$Dream", cf_X0, by decide, (Or.inl (sm_t2 81 (by decide +kernel))), (Or.inl rfl), tyX0_ok 4 (by decide), rfl⟩
theorem fl_X0_77_1 : sm_FLk RX0 77 1 5 (.object "java/util/ArrayList") true := ⟨RX0, TX0, 21, tyX0, "SleepMoves$Dream", cf_X0, by decide, (Or.inl (sm_t2 82 (by decide +kernel))), (Or.inl rfl), tyX0_ok 5 (by decide), rfl⟩
theorem fl_X0_91_8 : sm_FLk RX0 91 8 1 .int false := ⟨RX8, TX8, 11, tyX8, "SleepMoves$Street", cf_X8, by decide, (Or.inl (sm_t1 92 (by decide +kernel))), (Or.inl rfl), tyX8_ok 1 (by decide), rfl⟩
theorem fl_X0_107_1 : sm_FLk RX0 107 1 1 .int false := ⟨RX0, TX0, 21, tyX0, "SleepMoves$Dream", cf_X0, by decide, (Or.inl (sm_t1 234 (by decide +kernel))), (Or.inr (sm_t1 235 (by decide +kernel))), tyX0_ok 1 (by decide), rfl⟩
theorem fl_X0_114_1 : sm_FLk RX0 114 1 0 .int false := ⟨RX0, TX0, 21, tyX0, "SleepMoves$Dream", cf_X0, by decide, (Or.inl (sm_t1 228 (by decide +kernel))), (Or.inr (sm_t1 229 (by decide +kernel))), tyX0_ok 0 (by decide), rfl⟩
theorem fl_X0_117_8 : sm_FLk RX0 117 8 8 (.object "SleepMoves$Row") true := ⟨RX8, TX8, 11, tyX8, "SleepMoves$Street", cf_X8, by decide, (Or.inl (sm_t1 110 (by decide +kernel))), (Or.inl rfl), tyX8_ok 8 (by decide), rfl⟩
theorem fl_X0_130_8 : sm_FLk RX0 130 8 6 (.object "SleepMoves$Row") true := ⟨RX8, TX8, 11, tyX8, "SleepMoves$Street", cf_X8, by decide, (Or.inl (sm_t1 105 (by decide +kernel))), (Or.inl rfl), tyX8_ok 6 (by decide), rfl⟩
theorem fl_X0_133_8 : sm_FLk RX0 133 8 9 (.object "SleepMoves$Row") true := ⟨RX8, TX8, 11, tyX8, "SleepMoves$Street", cf_X8, by decide, (Or.inl (sm_t1 113 (by decide +kernel))), (Or.inl rfl), tyX8_ok 9 (by decide), rfl⟩
theorem fl_X0_136_1 : sm_FLk RX0 136 1 3 .long false := ⟨RX0, TX0, 21, tyX0, "SleepMoves$Dream", cf_X0, by decide, (Or.inl (sm_t2 5 (by decide +kernel))), (Or.inr (sm_t2 6 (by decide +kernel))), tyX0_ok 3 (by decide), rfl⟩
theorem fl_X0_150_8 : sm_FLk RX0 150 8 7 (.object "SleepMoves$Row") true := ⟨RX8, TX8, 11, tyX8, "SleepMoves$Street", cf_X8, by decide, (Or.inl (sm_t1 108 (by decide +kernel))), (Or.inl rfl), tyX8_ok 7 (by decide), rfl⟩
theorem fl_X0_176_8 : sm_FLk RX0 176 8 10 (.object "SleepMoves$Row") true := ⟨RX8, TX8, 11, tyX8, "SleepMoves$Street", cf_X8, by decide, (Or.inl (sm_t1 117 (by decide +kernel))), (Or.inl rfl), tyX8_ok 10 (by decide), rfl⟩
theorem fl_X0_188_1 : sm_FLk RX0 188 1 2 .int false := ⟨RX0, TX0, 21, tyX0, "SleepMoves$Dream", cf_X0, by decide, (Or.inl (sm_t2 0 (by decide +kernel))), (Or.inr (sm_t2 1 (by decide +kernel))), tyX0_ok 2 (by decide), rfl⟩
theorem fl_X1_14_2 : sm_FLk RX1 14 2 0 (.object "SleepMoves$Row") true := ⟨RX1, TX1, 5, tyX1, "SleepMoves$Past", cf_X1, by decide, (Or.inl (sm_t2 25 (by decide +kernel))), (Or.inl rfl), tyX1_ok 0 (by decide), rfl⟩
theorem fl_X1_20_2 : sm_FLk RX1 20 2 1 (.object "SleepMoves$Row") true := ⟨RX1, TX1, 5, tyX1, "SleepMoves$Past", cf_X1, by decide, (Or.inl (sm_t2 26 (by decide +kernel))), (Or.inl rfl), tyX1_ok 1 (by decide), rfl⟩
theorem fl_X1_23_2 : sm_FLk RX1 23 2 2 (.object "SleepMoves$Row") true := ⟨RX1, TX1, 5, tyX1, "SleepMoves$Past", cf_X1, by decide, (Or.inl (sm_t2 27 (by decide +kernel))), (Or.inl rfl), tyX1_ok 2 (by decide), rfl⟩
theorem fl_X1_26_2 : sm_FLk RX1 26 2 3 .int false := ⟨RX1, TX1, 5, tyX1, "SleepMoves$Past", cf_X1, by decide, (Or.inl (sm_t2 28 (by decide +kernel))), (Or.inl rfl), tyX1_ok 3 (by decide), rfl⟩
theorem fl_X1_30_2 : sm_FLk RX1 30 2 4 .int false := ⟨RX1, TX1, 5, tyX1, "SleepMoves$Past", cf_X1, by decide, (Or.inl (sm_t2 29 (by decide +kernel))), (Or.inl rfl), tyX1_ok 4 (by decide), rfl⟩
theorem fl_X1_33_7 : sm_FLk RX1 33 7 0 .int false := ⟨RX7, TX7, 4, tyX7, "SleepMoves$Stand", cf_X7, by decide, (Or.inl (sm_t1 227 (by decide +kernel))), (Or.inl rfl), tyX7_ok 0 (by decide), rfl⟩
theorem fl_X1_41_7 : sm_FLk RX1 41 7 3 .long false := ⟨RX7, TX7, 4, tyX7, "SleepMoves$Stand", cf_X7, by decide, (Or.inl (sm_t2 4 (by decide +kernel))), (Or.inl rfl), tyX7_ok 3 (by decide), rfl⟩
theorem fl_X1_57_7 : sm_FLk RX1 57 7 1 .int false := ⟨RX7, TX7, 4, tyX7, "SleepMoves$Stand", cf_X7, by decide, (Or.inl (sm_t1 233 (by decide +kernel))), (Or.inl rfl), tyX7_ok 1 (by decide), rfl⟩
theorem fl_X2_9_5 : sm_FLk RX2 9 5 1 .int false := ⟨RX5, TX5, 5, tyX5, "SleepMoves$Reader", cf_X5, by decide, (Or.inl (sm_t1 159 (by decide +kernel))), (Or.inl rfl), tyX5_ok 1 (by decide), rfl⟩
theorem fl_X2_9_9 : sm_FLk RX2 9 9 1 .int false := ⟨RX9, TX9, 5, tyX9, "SleepMoves$Reader", cf_X9, by decide, (Or.inl (sm_t1 159 (by decide +kernel))), (Or.inl rfl), tyX9_ok 1 (by decide), rfl⟩
theorem fl_X2_15_5 : sm_FLk RX2 15 5 0 (.object "SleepMoves$Tape") true := ⟨RX5, TX5, 5, tyX5, "SleepMoves$Reader", cf_X5, by decide, (Or.inl (sm_t1 158 (by decide +kernel))), (Or.inl rfl), tyX5_ok 0 (by decide), rfl⟩
theorem fl_X2_15_9 : sm_FLk RX2 15 9 0 (.object "SleepMoves$Tape") true := ⟨RX9, TX9, 5, tyX9, "SleepMoves$Reader", cf_X9, by decide, (Or.inl (sm_t1 158 (by decide +kernel))), (Or.inl rfl), tyX9_ok 0 (by decide), rfl⟩
theorem fl_X2_19_10 : sm_FLk RX2 19 10 1 .int false := ⟨RX10, TX10, 2, tyX10, "SleepMoves$Tape", cf_X10, by decide, (Or.inl (sm_t1 64 (by decide +kernel))), (Or.inl rfl), tyX10_ok 1 (by decide), rfl⟩
theorem fl_X2_24_10 : sm_FLk RX2 24 10 0 (.object "SleepMoves$Row") true := ⟨RX10, TX10, 2, tyX10, "SleepMoves$Tape", cf_X10, by decide, (Or.inr ⟨"SleepMoves", (sm_t1 61 (by decide +kernel))⟩), (Or.inl rfl), tyX10_ok 0 (by decide), rfl⟩
theorem fl_X3_13_3 : sm_FLk RX3 13 3 0 (.array .int) true := ⟨RX3, TX3, 1, tyX3, "SleepMoves$Row", cf_X3, by decide, (Or.inl (sm_t1 55 (by decide +kernel))), (Or.inl rfl), tyX3_ok 0 (by decide), rfl⟩
theorem fl_X4_14_4 : sm_FLk RX4 14 4 0 (.object "SleepMoves$Row") true := ⟨RX4, TX4, 2, tyX4, "SleepMoves$Rule", cf_X4, by decide, (Or.inl (sm_t4 27 (by decide +kernel))), (Or.inl rfl), tyX4_ok 0 (by decide), rfl⟩
theorem fl_X4_20_4 : sm_FLk RX4 20 4 1 (.object "SleepMoves$Row") true := ⟨RX4, TX4, 2, tyX4, "SleepMoves$Rule", cf_X4, by decide, (Or.inl (sm_t4 28 (by decide +kernel))), (Or.inl rfl), tyX4_ok 1 (by decide), rfl⟩
theorem fl_X5_14_5 : sm_FLk RX5 14 5 2 (.object "SleepMoves$Row") true := ⟨RX5, TX5, 5, tyX5, "SleepMoves$RuleReader", cf_X5, by decide, (Or.inl (sm_t1 180 (by decide +kernel))), (Or.inl rfl), tyX5_ok 2 (by decide), rfl⟩
theorem fl_X5_20_5 : sm_FLk RX5 20 5 3 (.object "SleepMoves$Row") true := ⟨RX5, TX5, 5, tyX5, "SleepMoves$RuleReader", cf_X5, by decide, (Or.inl (sm_t1 181 (by decide +kernel))), (Or.inl rfl), tyX5_ok 3 (by decide), rfl⟩
theorem fl_X5_23_5 : sm_FLk RX5 23 5 4 .int false := ⟨RX5, TX5, 5, tyX5, "SleepMoves$RuleReader", cf_X5, by decide, (Or.inl (sm_t1 182 (by decide +kernel))), (Or.inl rfl), tyX5_ok 4 (by decide), rfl⟩
theorem fl_X6_14_6 : sm_FLk RX6 14 6 0 (.object "SleepMoves$Row") true := ⟨RX6, TX6, 6, tyX6, "SleepMoves$Seen", cf_X6, by decide, (Or.inl (sm_t2 50 (by decide +kernel))), (Or.inl rfl), tyX6_ok 0 (by decide), rfl⟩
theorem fl_X6_20_6 : sm_FLk RX6 20 6 1 (.object "SleepMoves$Row") true := ⟨RX6, TX6, 6, tyX6, "SleepMoves$Seen", cf_X6, by decide, (Or.inl (sm_t2 51 (by decide +kernel))), (Or.inl rfl), tyX6_ok 1 (by decide), rfl⟩
theorem fl_X6_23_6 : sm_FLk RX6 23 6 2 (.object "SleepMoves$Row") true := ⟨RX6, TX6, 6, tyX6, "SleepMoves$Seen", cf_X6, by decide, (Or.inl (sm_t2 52 (by decide +kernel))), (Or.inl rfl), tyX6_ok 2 (by decide), rfl⟩
theorem fl_X6_26_6 : sm_FLk RX6 26 6 3 (.object "SleepMoves$Row") true := ⟨RX6, TX6, 6, tyX6, "SleepMoves$Seen", cf_X6, by decide, (Or.inl (sm_t2 53 (by decide +kernel))), (Or.inl rfl), tyX6_ok 3 (by decide), rfl⟩
theorem fl_X6_29_6 : sm_FLk RX6 29 6 4 .int false := ⟨RX6, TX6, 6, tyX6, "SleepMoves$Seen", cf_X6, by decide, (Or.inl (sm_t2 54 (by decide +kernel))), (Or.inl rfl), tyX6_ok 4 (by decide), rfl⟩
theorem fl_X6_33_6 : sm_FLk RX6 33 6 5 .int false := ⟨RX6, TX6, 6, tyX6, "SleepMoves$Seen", cf_X6, by decide, (Or.inl (sm_t2 56 (by decide +kernel))), (Or.inl rfl), tyX6_ok 5 (by decide), rfl⟩
theorem fl_X7_7_1 : sm_FLk RX7 7 1 0 .int false := ⟨RX0, TX0, 21, tyX0, "SleepMoves$Stand", cf_X0, by decide, (Or.inl (sm_t1 226 (by decide +kernel))), (Or.inl rfl), tyX0_ok 0 (by decide), rfl⟩
theorem fl_X7_7_7 : sm_FLk RX7 7 7 0 .int false := ⟨RX7, TX7, 4, tyX7, "SleepMoves$Stand", cf_X7, by decide, (Or.inl (sm_t1 226 (by decide +kernel))), (Or.inl rfl), tyX7_ok 0 (by decide), rfl⟩
theorem fl_X7_13_1 : sm_FLk RX7 13 1 1 .int false := ⟨RX0, TX0, 21, tyX0, "SleepMoves$Stand", cf_X0, by decide, (Or.inl (sm_t1 232 (by decide +kernel))), (Or.inl rfl), tyX0_ok 1 (by decide), rfl⟩
theorem fl_X7_13_7 : sm_FLk RX7 13 7 1 .int false := ⟨RX7, TX7, 4, tyX7, "SleepMoves$Stand", cf_X7, by decide, (Or.inl (sm_t1 232 (by decide +kernel))), (Or.inl rfl), tyX7_ok 1 (by decide), rfl⟩
theorem fl_X7_16_1 : sm_FLk RX7 16 1 2 .int false := ⟨RX0, TX0, 21, tyX0, "SleepMoves$Stand", cf_X0, by decide, (Or.inl (sm_t1 238 (by decide +kernel))), (Or.inl rfl), tyX0_ok 2 (by decide), rfl⟩
theorem fl_X7_16_7 : sm_FLk RX7 16 7 2 .int false := ⟨RX7, TX7, 4, tyX7, "SleepMoves$Stand", cf_X7, by decide, (Or.inl (sm_t1 238 (by decide +kernel))), (Or.inl rfl), tyX7_ok 2 (by decide), rfl⟩
theorem fl_X7_19_1 : sm_FLk RX7 19 1 3 .long false := ⟨RX0, TX0, 21, tyX0, "SleepMoves$Stand", cf_X0, by decide, (Or.inl (sm_t2 3 (by decide +kernel))), (Or.inl rfl), tyX0_ok 3 (by decide), rfl⟩
theorem fl_X7_19_7 : sm_FLk RX7 19 7 3 .long false := ⟨RX7, TX7, 4, tyX7, "SleepMoves$Stand", cf_X7, by decide, (Or.inl (sm_t2 3 (by decide +kernel))), (Or.inl rfl), tyX7_ok 3 (by decide), rfl⟩
theorem fl_X8_9_8 : sm_FLk RX8 9 8 0 .int false := ⟨RX8, TX8, 11, tyX8, "SleepMoves$Street", cf_X8, by decide, (Or.inl (sm_t1 87 (by decide +kernel))), (Or.inl rfl), tyX8_ok 0 (by decide), rfl⟩
theorem fl_X8_15_8 : sm_FLk RX8 15 8 1 .int false := ⟨RX8, TX8, 11, tyX8, "SleepMoves$Street", cf_X8, by decide, (Or.inl (sm_t1 90 (by decide +kernel))), (Or.inl rfl), tyX8_ok 1 (by decide), rfl⟩
theorem fl_X8_18_8 : sm_FLk RX8 18 8 2 .int false := ⟨RX8, TX8, 11, tyX8, "SleepMoves$Street", cf_X8, by decide, (Or.inl (sm_t1 94 (by decide +kernel))), (Or.inl rfl), tyX8_ok 2 (by decide), rfl⟩
theorem fl_X8_21_8 : sm_FLk RX8 21 8 3 .int false := ⟨RX8, TX8, 11, tyX8, "SleepMoves$Street", cf_X8, by decide, (Or.inl (sm_t1 97 (by decide +kernel))), (Or.inl rfl), tyX8_ok 3 (by decide), rfl⟩
theorem fl_X8_24_8 : sm_FLk RX8 24 8 4 .int false := ⟨RX8, TX8, 11, tyX8, "SleepMoves$Street", cf_X8, by decide, (Or.inl (sm_t1 99 (by decide +kernel))), (Or.inl rfl), tyX8_ok 4 (by decide), rfl⟩
theorem fl_X8_27_8 : sm_FLk RX8 27 8 5 .int false := ⟨RX8, TX8, 11, tyX8, "SleepMoves$Street", cf_X8, by decide, (Or.inl (sm_t1 102 (by decide +kernel))), (Or.inl rfl), tyX8_ok 5 (by decide), rfl⟩
theorem fl_X8_35_8 : sm_FLk RX8 35 8 6 (.object "SleepMoves$Row") true := ⟨RX8, TX8, 11, tyX8, "SleepMoves$Street", cf_X8, by decide, (Or.inl (sm_t1 103 (by decide +kernel))), (Or.inl rfl), tyX8_ok 6 (by decide), rfl⟩
theorem fl_X8_39_8 : sm_FLk RX8 39 8 7 (.object "SleepMoves$Row") true := ⟨RX8, TX8, 11, tyX8, "SleepMoves$Street", cf_X8, by decide, (Or.inl (sm_t1 106 (by decide +kernel))), (Or.inl rfl), tyX8_ok 7 (by decide), rfl⟩
theorem fl_X8_42_8 : sm_FLk RX8 42 8 8 (.object "SleepMoves$Row") true := ⟨RX8, TX8, 11, tyX8, "SleepMoves$Street", cf_X8, by decide, (Or.inl (sm_t1 109 (by decide +kernel))), (Or.inl rfl), tyX8_ok 8 (by decide), rfl⟩
theorem fl_X8_45_8 : sm_FLk RX8 45 8 9 (.object "SleepMoves$Row") true := ⟨RX8, TX8, 11, tyX8, "SleepMoves$Street", cf_X8, by decide, (Or.inl (sm_t1 112 (by decide +kernel))), (Or.inl rfl), tyX8_ok 9 (by decide), rfl⟩
theorem fl_X8_48_8 : sm_FLk RX8 48 8 10 (.object "SleepMoves$Row") true := ⟨RX8, TX8, 11, tyX8, "SleepMoves$Street", cf_X8, by decide, (Or.inl (sm_t1 115 (by decide +kernel))), (Or.inl rfl), tyX8_ok 10 (by decide), rfl⟩
theorem fl_X9_14_9 : sm_FLk RX9 14 9 2 (.object "SleepMoves$Street") true := ⟨RX9, TX9, 5, tyX9, "SleepMoves$StreetReader", cf_X9, by decide, (Or.inl (sm_t1 154 (by decide +kernel))), (Or.inl rfl), tyX9_ok 2 (by decide), rfl⟩
theorem fl_X9_33_9 : sm_FLk RX9 33 9 3 (.object "SleepMoves$Row") true := ⟨RX9, TX9, 5, tyX9, "SleepMoves$StreetReader", cf_X9, by decide, (Or.inl (sm_t1 156 (by decide +kernel))), (Or.inl rfl), tyX9_ok 3 (by decide), rfl⟩
theorem fl_X9_37_9 : sm_FLk RX9 37 9 4 .int false := ⟨RX9, TX9, 5, tyX9, "SleepMoves$StreetReader", cf_X9, by decide, (Or.inl (sm_t1 157 (by decide +kernel))), (Or.inl rfl), tyX9_ok 4 (by decide), rfl⟩
theorem fl_X9_58_8 : sm_FLk RX9 58 8 0 .int false := ⟨RX8, TX8, 11, tyX8, "SleepMoves$Street", cf_X8, by decide, (Or.inl (sm_t1 88 (by decide +kernel))), (Or.inl rfl), tyX8_ok 0 (by decide), rfl⟩
theorem fl_X9_68_8 : sm_FLk RX9 68 8 1 .int false := ⟨RX8, TX8, 11, tyX8, "SleepMoves$Street", cf_X8, by decide, (Or.inl (sm_t1 91 (by decide +kernel))), (Or.inl rfl), tyX8_ok 1 (by decide), rfl⟩
theorem fl_X9_71_8 : sm_FLk RX9 71 8 2 .int false := ⟨RX8, TX8, 11, tyX8, "SleepMoves$Street", cf_X8, by decide, (Or.inl (sm_t1 95 (by decide +kernel))), (Or.inl rfl), tyX8_ok 2 (by decide), rfl⟩
theorem fl_X9_109_8 : sm_FLk RX9 109 8 4 .int false := ⟨RX8, TX8, 11, tyX8, "SleepMoves$Street", cf_X8, by decide, (Or.inl (sm_t1 100 (by decide +kernel))), (Or.inl rfl), tyX8_ok 4 (by decide), rfl⟩
theorem fl_X10_14_10 : sm_FLk RX10 14 10 0 (.object "SleepMoves$Row") true := ⟨RX10, TX10, 2, tyX10, "SleepMoves$Tape", cf_X10, by decide, (Or.inl (sm_t1 60 (by decide +kernel))), (Or.inl rfl), tyX10_ok 0 (by decide), rfl⟩
theorem fl_X10_20_10 : sm_FLk RX10 20 10 1 .int false := ⟨RX10, TX10, 2, tyX10, "SleepMoves$Tape", cf_X10, by decide, (Or.inl (sm_t1 62 (by decide +kernel))), (Or.inl rfl), tyX10_ok 1 (by decide), rfl⟩
theorem fl_X12_9_12 : sm_FLk RX12 9 12 1 (.array .int) true := ⟨RX12, TX12, 61, tyX12, "SleepMovesModel", cf_X12, by decide, (Or.inl (sm_t6 84 (by decide +kernel))), (Or.inl rfl), tyX12_ok 1 (by decide), rfl⟩
theorem fl_X12_13_12 : sm_FLk RX12 13 12 6 (.array .int) true := ⟨RX12, TX12, 61, tyX12, "SleepMovesModel", cf_X12, by decide, (Or.inl (sm_t6 89 (by decide +kernel))), (Or.inl rfl), tyX12_ok 6 (by decide), rfl⟩
theorem fl_X12_16_12 : sm_FLk RX12 16 12 7 (.array .int) true := ⟨RX12, TX12, 61, tyX12, "SleepMovesModel", cf_X12, by decide, (Or.inl (sm_t6 90 (by decide +kernel))), (Or.inl rfl), tyX12_ok 7 (by decide), rfl⟩
theorem fl_X12_19_12 : sm_FLk RX12 19 12 8 (.array .int) true := ⟨RX12, TX12, 61, tyX12, "SleepMovesModel", cf_X12, by decide, (Or.inl (sm_t6 91 (by decide +kernel))), (Or.inl rfl), tyX12_ok 8 (by decide), rfl⟩
theorem fl_X12_22_12 : sm_FLk RX12 22 12 9 (.array .int) true := ⟨RX12, TX12, 61, tyX12, "SleepMovesModel", cf_X12, by decide, (Or.inl (sm_t6 92 (by decide +kernel))), (Or.inl rfl), tyX12_ok 9 (by decide), rfl⟩
theorem fl_X12_25_12 : sm_FLk RX12 25 12 10 (.array .int) true := ⟨RX12, TX12, 61, tyX12, "SleepMovesModel", cf_X12, by decide, (Or.inl (sm_t6 93 (by decide +kernel))), (Or.inl rfl), tyX12_ok 10 (by decide), rfl⟩
theorem fl_X12_28_12 : sm_FLk RX12 28 12 11 (.array .int) true := ⟨RX12, TX12, 61, tyX12, "SleepMovesModel", cf_X12, by decide, (Or.inl (sm_t6 94 (by decide +kernel))), (Or.inl rfl), tyX12_ok 11 (by decide), rfl⟩
theorem fl_X12_31_12 : sm_FLk RX12 31 12 12 (.array .int) true := ⟨RX12, TX12, 61, tyX12, "SleepMovesModel", cf_X12, by decide, (Or.inl (sm_t6 95 (by decide +kernel))), (Or.inl rfl), tyX12_ok 12 (by decide), rfl⟩
theorem fl_X12_34_12 : sm_FLk RX12 34 12 15 (.array .int) true := ⟨RX12, TX12, 61, tyX12, "SleepMovesModel", cf_X12, by decide, (Or.inl (sm_t6 98 (by decide +kernel))), (Or.inl rfl), tyX12_ok 15 (by decide), rfl⟩
theorem fl_X12_37_12 : sm_FLk RX12 37 12 16 (.array .int) true := ⟨RX12, TX12, 61, tyX12, "SleepMovesModel", cf_X12, by decide, (Or.inl (sm_t6 99 (by decide +kernel))), (Or.inl rfl), tyX12_ok 16 (by decide), rfl⟩
theorem fl_X12_40_12 : sm_FLk RX12 40 12 17 (.array .int) true := ⟨RX12, TX12, 61, tyX12, "SleepMovesModel", cf_X12, by decide, (Or.inl (sm_t6 100 (by decide +kernel))), (Or.inl rfl), tyX12_ok 17 (by decide), rfl⟩
theorem fl_X12_43_12 : sm_FLk RX12 43 12 18 (.array .int) true := ⟨RX12, TX12, 61, tyX12, "SleepMovesModel", cf_X12, by decide, (Or.inl (sm_t6 101 (by decide +kernel))), (Or.inl rfl), tyX12_ok 18 (by decide), rfl⟩
theorem fl_X12_46_12 : sm_FLk RX12 46 12 24 (.array .int) true := ⟨RX12, TX12, 61, tyX12, "SleepMovesModel", cf_X12, by decide, (Or.inl (sm_t6 107 (by decide +kernel))), (Or.inl rfl), tyX12_ok 24 (by decide), rfl⟩
theorem fl_X12_49_12 : sm_FLk RX12 49 12 25 (.array .int) true := ⟨RX12, TX12, 61, tyX12, "SleepMovesModel", cf_X12, by decide, (Or.inl (sm_t6 108 (by decide +kernel))), (Or.inl rfl), tyX12_ok 25 (by decide), rfl⟩
theorem fl_X12_52_12 : sm_FLk RX12 52 12 31 (.array .int) true := ⟨RX12, TX12, 61, tyX12, "SleepMovesModel", cf_X12, by decide, (Or.inl (sm_t6 114 (by decide +kernel))), (Or.inl rfl), tyX12_ok 31 (by decide), rfl⟩
theorem fl_X12_55_12 : sm_FLk RX12 55 12 32 (.array .int) true := ⟨RX12, TX12, 61, tyX12, "SleepMovesModel", cf_X12, by decide, (Or.inl (sm_t6 115 (by decide +kernel))), (Or.inl rfl), tyX12_ok 32 (by decide), rfl⟩
theorem fl_X12_58_12 : sm_FLk RX12 58 12 37 (.array .int) true := ⟨RX12, TX12, 61, tyX12, "SleepMovesModel", cf_X12, by decide, (Or.inl (sm_t6 120 (by decide +kernel))), (Or.inl rfl), tyX12_ok 37 (by decide), rfl⟩
theorem fl_X12_61_12 : sm_FLk RX12 61 12 38 (.array .int) true := ⟨RX12, TX12, 61, tyX12, "SleepMovesModel", cf_X12, by decide, (Or.inl (sm_t6 121 (by decide +kernel))), (Or.inl rfl), tyX12_ok 38 (by decide), rfl⟩
theorem fl_X12_64_12 : sm_FLk RX12 64 12 39 .int false := ⟨RX12, TX12, 61, tyX12, "SleepMovesModel", cf_X12, by decide, (Or.inl (sm_t6 122 (by decide +kernel))), (Or.inl rfl), tyX12_ok 39 (by decide), rfl⟩
theorem fl_X12_68_12 : sm_FLk RX12 68 12 40 (.array .int) true := ⟨RX12, TX12, 61, tyX12, "SleepMovesModel", cf_X12, by decide, (Or.inl (sm_t6 123 (by decide +kernel))), (Or.inl rfl), tyX12_ok 40 (by decide), rfl⟩
theorem fl_X12_71_12 : sm_FLk RX12 71 12 41 (.array .long) true := ⟨RX12, TX12, 61, tyX12, "SleepMovesModel", cf_X12, by decide, (Or.inl (sm_t6 124 (by decide +kernel))), (Or.inl rfl), tyX12_ok 41 (by decide), rfl⟩
theorem fl_X12_75_12 : sm_FLk RX12 75 12 43 (.array .int) true := ⟨RX12, TX12, 61, tyX12, "SleepMovesModel", cf_X12, by decide, (Or.inl (sm_t6 126 (by decide +kernel))), (Or.inl rfl), tyX12_ok 43 (by decide), rfl⟩
theorem fl_X12_78_12 : sm_FLk RX12 78 12 45 (.array .int) true := ⟨RX12, TX12, 61, tyX12, "SleepMovesModel", cf_X12, by decide, (Or.inl (sm_t6 128 (by decide +kernel))), (Or.inl rfl), tyX12_ok 45 (by decide), rfl⟩
theorem fl_X12_81_12 : sm_FLk RX12 81 12 46 (.array .int) true := ⟨RX12, TX12, 61, tyX12, "SleepMovesModel", cf_X12, by decide, (Or.inl (sm_t6 129 (by decide +kernel))), (Or.inl rfl), tyX12_ok 46 (by decide), rfl⟩
theorem fl_X12_84_12 : sm_FLk RX12 84 12 47 (.array .int) true := ⟨RX12, TX12, 61, tyX12, "SleepMovesModel", cf_X12, by decide, (Or.inl (sm_t6 130 (by decide +kernel))), (Or.inl rfl), tyX12_ok 47 (by decide), rfl⟩
theorem fl_X12_87_12 : sm_FLk RX12 87 12 48 (.array .int) true := ⟨RX12, TX12, 61, tyX12, "SleepMovesModel", cf_X12, by decide, (Or.inl (sm_t6 131 (by decide +kernel))), (Or.inl rfl), tyX12_ok 48 (by decide), rfl⟩
theorem fl_X12_90_12 : sm_FLk RX12 90 12 49 (.array .int) true := ⟨RX12, TX12, 61, tyX12, "SleepMovesModel", cf_X12, by decide, (Or.inl (sm_t6 132 (by decide +kernel))), (Or.inl rfl), tyX12_ok 49 (by decide), rfl⟩
theorem fl_X12_93_12 : sm_FLk RX12 93 12 50 (.array .boolean) true := ⟨RX12, TX12, 61, tyX12, "SleepMovesModel", cf_X12, by decide, (Or.inl (sm_t6 133 (by decide +kernel))), (Or.inl rfl), tyX12_ok 50 (by decide), rfl⟩
theorem fl_X12_97_12 : sm_FLk RX12 97 12 52 (.array .int) true := ⟨RX12, TX12, 61, tyX12, "SleepMovesModel", cf_X12, by decide, (Or.inl (sm_t6 135 (by decide +kernel))), (Or.inl rfl), tyX12_ok 52 (by decide), rfl⟩
theorem fl_X12_100_12 : sm_FLk RX12 100 12 53 (.array .int) true := ⟨RX12, TX12, 61, tyX12, "SleepMovesModel", cf_X12, by decide, (Or.inl (sm_t6 136 (by decide +kernel))), (Or.inl rfl), tyX12_ok 53 (by decide), rfl⟩
theorem fl_X12_103_12 : sm_FLk RX12 103 12 54 (.array .int) true := ⟨RX12, TX12, 61, tyX12, "SleepMovesModel", cf_X12, by decide, (Or.inl (sm_t6 137 (by decide +kernel))), (Or.inl rfl), tyX12_ok 54 (by decide), rfl⟩
theorem fl_X12_106_12 : sm_FLk RX12 106 12 55 (.array .int) true := ⟨RX12, TX12, 61, tyX12, "SleepMovesModel", cf_X12, by decide, (Or.inl (sm_t6 138 (by decide +kernel))), (Or.inl rfl), tyX12_ok 55 (by decide), rfl⟩
theorem fl_X12_109_12 : sm_FLk RX12 109 12 56 (.array .int) true := ⟨RX12, TX12, 61, tyX12, "SleepMovesModel", cf_X12, by decide, (Or.inl (sm_t6 139 (by decide +kernel))), (Or.inl rfl), tyX12_ok 56 (by decide), rfl⟩
theorem fl_X12_112_12 : sm_FLk RX12 112 12 0 .int false := ⟨RX12, TX12, 61, tyX12, "SleepMovesModel", cf_X12, by decide, (Or.inl (sm_t6 83 (by decide +kernel))), (Or.inl rfl), tyX12_ok 0 (by decide), rfl⟩
theorem fl_X12_119_12 : sm_FLk RX12 119 12 2 .int false := ⟨RX12, TX12, 61, tyX12, "SleepMovesModel", cf_X12, by decide, (Or.inl (sm_t6 85 (by decide +kernel))), (Or.inl rfl), tyX12_ok 2 (by decide), rfl⟩
theorem fl_X12_122_12 : sm_FLk RX12 122 12 3 .int false := ⟨RX12, TX12, 61, tyX12, "SleepMovesModel", cf_X12, by decide, (Or.inl (sm_t6 86 (by decide +kernel))), (Or.inl rfl), tyX12_ok 3 (by decide), rfl⟩
theorem fl_X12_129_12 : sm_FLk RX12 129 12 4 .int false := ⟨RX12, TX12, 61, tyX12, "SleepMovesModel", cf_X12, by decide, (Or.inl (sm_t6 87 (by decide +kernel))), (Or.inl rfl), tyX12_ok 4 (by decide), rfl⟩
theorem fl_X12_132_12 : sm_FLk RX12 132 12 14 .int false := ⟨RX12, TX12, 61, tyX12, "SleepMovesModel", cf_X12, by decide, (Or.inl (sm_t6 97 (by decide +kernel))), (Or.inl rfl), tyX12_ok 14 (by decide), rfl⟩
theorem fl_X12_135_12 : sm_FLk RX12 135 12 5 .int false := ⟨RX12, TX12, 61, tyX12, "SleepMovesModel", cf_X12, by decide, (Or.inl (sm_t6 88 (by decide +kernel))), (Or.inl rfl), tyX12_ok 5 (by decide), rfl⟩
theorem fl_X12_231_12 : sm_FLk RX12 231 12 19 .int false := ⟨RX12, TX12, 61, tyX12, "SleepMovesModel", cf_X12, by decide, (Or.inl (sm_t6 102 (by decide +kernel))), (Or.inl rfl), tyX12_ok 19 (by decide), rfl⟩
theorem fl_X12_234_12 : sm_FLk RX12 234 12 20 .int false := ⟨RX12, TX12, 61, tyX12, "SleepMovesModel", cf_X12, by decide, (Or.inl (sm_t6 103 (by decide +kernel))), (Or.inl rfl), tyX12_ok 20 (by decide), rfl⟩
theorem fl_X12_251_12 : sm_FLk RX12 251 12 21 .int false := ⟨RX12, TX12, 61, tyX12, "SleepMovesModel", cf_X12, by decide, (Or.inl (sm_t6 104 (by decide +kernel))), (Or.inl rfl), tyX12_ok 21 (by decide), rfl⟩
theorem fl_X12_254_12 : sm_FLk RX12 254 12 22 .int false := ⟨RX12, TX12, 61, tyX12, "SleepMovesModel", cf_X12, by decide, (Or.inl (sm_t6 105 (by decide +kernel))), (Or.inl rfl), tyX12_ok 22 (by decide), rfl⟩
theorem fl_X12_257_12 : sm_FLk RX12 257 12 23 .int false := ⟨RX12, TX12, 61, tyX12, "SleepMovesModel", cf_X12, by decide, (Or.inl (sm_t6 106 (by decide +kernel))), (Or.inl rfl), tyX12_ok 23 (by decide), rfl⟩
theorem fl_X12_275_12 : sm_FLk RX12 275 12 26 .int false := ⟨RX12, TX12, 61, tyX12, "SleepMovesModel", cf_X12, by decide, (Or.inl (sm_t6 109 (by decide +kernel))), (Or.inl rfl), tyX12_ok 26 (by decide), rfl⟩
theorem fl_X12_278_12 : sm_FLk RX12 278 12 27 .int false := ⟨RX12, TX12, 61, tyX12, "SleepMovesModel", cf_X12, by decide, (Or.inl (sm_t6 110 (by decide +kernel))), (Or.inl rfl), tyX12_ok 27 (by decide), rfl⟩
theorem fl_X12_281_12 : sm_FLk RX12 281 12 28 .int false := ⟨RX12, TX12, 61, tyX12, "SleepMovesModel", cf_X12, by decide, (Or.inl (sm_t6 111 (by decide +kernel))), (Or.inl rfl), tyX12_ok 28 (by decide), rfl⟩
theorem fl_X12_284_12 : sm_FLk RX12 284 12 29 .int false := ⟨RX12, TX12, 61, tyX12, "SleepMovesModel", cf_X12, by decide, (Or.inl (sm_t6 112 (by decide +kernel))), (Or.inl rfl), tyX12_ok 29 (by decide), rfl⟩
theorem fl_X12_287_12 : sm_FLk RX12 287 12 30 .int false := ⟨RX12, TX12, 61, tyX12, "SleepMovesModel", cf_X12, by decide, (Or.inl (sm_t6 113 (by decide +kernel))), (Or.inl rfl), tyX12_ok 30 (by decide), rfl⟩
theorem fl_X12_290_12 : sm_FLk RX12 290 12 33 .int false := ⟨RX12, TX12, 61, tyX12, "SleepMovesModel", cf_X12, by decide, (Or.inl (sm_t6 116 (by decide +kernel))), (Or.inl rfl), tyX12_ok 33 (by decide), rfl⟩
theorem fl_X12_293_12 : sm_FLk RX12 293 12 34 .int false := ⟨RX12, TX12, 61, tyX12, "SleepMovesModel", cf_X12, by decide, (Or.inl (sm_t6 117 (by decide +kernel))), (Or.inl rfl), tyX12_ok 34 (by decide), rfl⟩
theorem fl_X12_296_12 : sm_FLk RX12 296 12 42 .int false := ⟨RX12, TX12, 61, tyX12, "SleepMovesModel", cf_X12, by decide, (Or.inl (sm_t6 125 (by decide +kernel))), (Or.inl rfl), tyX12_ok 42 (by decide), rfl⟩
theorem fl_X12_299_12 : sm_FLk RX12 299 12 51 .int false := ⟨RX12, TX12, 61, tyX12, "SleepMovesModel", cf_X12, by decide, (Or.inl (sm_t6 134 (by decide +kernel))), (Or.inl rfl), tyX12_ok 51 (by decide), rfl⟩
theorem fl_X12_302_12 : sm_FLk RX12 302 12 60 .boolean false := ⟨RX12, TX12, 61, tyX12, "SleepMovesModel", cf_X12, by decide, (Or.inl (sm_t6 143 (by decide +kernel))), (Or.inl rfl), tyX12_ok 60 (by decide), rfl⟩
theorem fl_X12_309_12 : sm_FLk RX12 309 12 13 .int false := ⟨RX12, TX12, 61, tyX12, "SleepMovesModel", cf_X12, by decide, (Or.inl (sm_t6 96 (by decide +kernel))), (Or.inl rfl), tyX12_ok 13 (by decide), rfl⟩
theorem fl_X12_327_12 : sm_FLk RX12 327 12 35 .int false := ⟨RX12, TX12, 61, tyX12, "SleepMovesModel", cf_X12, by decide, (Or.inl (sm_t6 118 (by decide +kernel))), (Or.inl rfl), tyX12_ok 35 (by decide), rfl⟩
theorem fl_X12_330_12 : sm_FLk RX12 330 12 36 .long false := ⟨RX12, TX12, 61, tyX12, "SleepMovesModel", cf_X12, by decide, (Or.inl (sm_t6 119 (by decide +kernel))), (Or.inl rfl), tyX12_ok 36 (by decide), rfl⟩
theorem fl_X12_379_12 : sm_FLk RX12 379 12 44 .int false := ⟨RX12, TX12, 61, tyX12, "SleepMovesModel", cf_X12, by decide, (Or.inl (sm_t6 127 (by decide +kernel))), (Or.inl rfl), tyX12_ok 44 (by decide), rfl⟩
theorem fl_X12_440_12 : sm_FLk RX12 440 12 57 .int false := ⟨RX12, TX12, 61, tyX12, "SleepMovesModel", cf_X12, by decide, (Or.inl (sm_t6 140 (by decide +kernel))), (Or.inl rfl), tyX12_ok 57 (by decide), rfl⟩
theorem fl_X12_443_12 : sm_FLk RX12 443 12 58 .int false := ⟨RX12, TX12, 61, tyX12, "SleepMovesModel", cf_X12, by decide, (Or.inl (sm_t6 141 (by decide +kernel))), (Or.inl rfl), tyX12_ok 58 (by decide), rfl⟩
theorem fl_X12_446_12 : sm_FLk RX12 446 12 59 .long false := ⟨RX12, TX12, 61, tyX12, "SleepMovesModel", cf_X12, by decide, (Or.inl (sm_t6 142 (by decide +kernel))), (Or.inl rfl), tyX12_ok 59 (by decide), rfl⟩
theorem fl_Jx4a65c_9_0 : sm_FLk RJx4a65c 9 0 1 (.array (.object "java/lang/Object")) false := ⟨RJx4a65c, TJx4a65c, 3, tyJx4a65c, "java/util/ArrayList", cf_Jx4a65c, by decide, (Or.inl (sm_t1 206 (by decide +kernel))), (Or.inl rfl), tyJx4a65c_ok 1 (by decide), rfl⟩
theorem fl_Jx4a65c_48_0 : sm_FLk RJx4a65c 48 0 2 .int false := ⟨RJx4a65c, TJx4a65c, 3, tyJx4a65c, "java/util/ArrayList", cf_Jx4a65c, by decide, (Or.inl (sm_t1 207 (by decide +kernel))), (Or.inl rfl), tyJx4a65c_ok 2 (by decide), rfl⟩
abbrev mX11_astray : sm_MD := (yX11_astray, cX11_astray, 2, (some .int))
theorem mf_X11_astray : sm_MF mX11_astray 1 := ⟨(sm_t5 124 (by decide +kernel)), (sm_t1 1 (by decide +kernel)), ⟨by decide +kernel, by decide +kernel⟩, by decide +kernel, by decide⟩
abbrev mX11_awake : sm_MD := (yX11_awake, cX11_awake, 3, (some .int))
theorem mf_X11_awake : sm_MF mX11_awake 0 := ⟨(sm_t5 164 (by decide +kernel)), (sm_t1 1 (by decide +kernel)), ⟨by decide +kernel, by decide +kernel⟩, by decide +kernel, by decide⟩
abbrev mX11_back : sm_MD := (yX11_back, cX11_back, 1, (some .int))
theorem mf_X11_back : sm_MF mX11_back 0 := ⟨(sm_t5 54 (by decide +kernel)), (sm_t1 1 (by decide +kernel)), ⟨by decide +kernel, by decide +kernel⟩, by decide +kernel, by decide⟩
abbrev mX11_bitOf : sm_MD := (yX11_bitOf, cX11_bitOf, 2, (some .int))
theorem mf_X11_bitOf : sm_MF mX11_bitOf 2 := ⟨(sm_t3 127 (by decide +kernel)), (sm_t1 1 (by decide +kernel)), ⟨by decide +kernel, by decide +kernel⟩, by decide +kernel, by decide⟩
abbrev mX11_carries : sm_MD := (yX11_carries, cX11_carries, 3, (some .int))
theorem mf_X11_carries : sm_MF mX11_carries 2 := ⟨(sm_t5 71 (by decide +kernel)), (sm_t1 1 (by decide +kernel)), ⟨by decide +kernel, by decide +kernel⟩, by decide +kernel, by decide⟩
abbrev mX11_changedWithout : sm_MD := (yX11_changedWithout, cX11_changedWithout, 4, (some .int))
theorem mf_X11_changedWithout : sm_MF mX11_changedWithout 3 := ⟨(sm_t5 234 (by decide +kernel)), (sm_t1 1 (by decide +kernel)), ⟨by decide +kernel, by decide +kernel⟩, by decide +kernel, by decide⟩
abbrev mX11_count : sm_MD := (yX11_count, cX11_count, 2, (some .int))
theorem mf_X11_count : sm_MF mX11_count 1 := ⟨(sm_t4 132 (by decide +kernel)), (sm_t1 1 (by decide +kernel)), ⟨by decide +kernel, by decide +kernel⟩, by decide +kernel, by decide⟩
abbrev mX11_culprit : sm_MD := (yX11_culprit, cX11_culprit, 7, (some .int))
theorem mf_X11_culprit : sm_MF mX11_culprit 1 := ⟨(sm_t5 238 (by decide +kernel)), (sm_t1 1 (by decide +kernel)), ⟨by decide +kernel, by decide +kernel⟩, by decide +kernel, by decide⟩
abbrev mX11_dreamIsAsSeen : sm_MD := (yX11_dreamIsAsSeen, cX11_dreamIsAsSeen, 2, (some .boolean))
theorem mf_X11_dreamIsAsSeen : sm_MF mX11_dreamIsAsSeen 0 := ⟨(sm_t5 150 (by decide +kernel)), (sm_t1 1 (by decide +kernel)), ⟨by decide +kernel, by decide +kernel⟩, by decide +kernel, by decide⟩
abbrev mX11_dreamOf : sm_MD := (yX11_dreamOf, cX11_dreamOf, 2, none)
theorem mf_X11_dreamOf : sm_MF mX11_dreamOf 1 := ⟨(sm_t5 62 (by decide +kernel)), (sm_t1 1 (by decide +kernel)), ⟨by decide +kernel, by decide +kernel⟩, by decide +kernel, by decide⟩
abbrev mX11_empty : sm_MD := (yX11_empty, cX11_empty, 5, (some .int))
theorem mf_X11_empty : sm_MF mX11_empty 2 := ⟨(sm_t5 80 (by decide +kernel)), (sm_t1 1 (by decide +kernel)), ⟨by decide +kernel, by decide +kernel⟩, by decide +kernel, by decide⟩
abbrev mX11_end : sm_MD := (yX11_end, cX11_end, 2, (some .boolean))
theorem mf_X11_end : sm_MF mX11_end 1 := ⟨(sm_t2 213 (by decide +kernel)), (sm_t1 1 (by decide +kernel)), ⟨by decide +kernel, by decide +kernel⟩, by decide +kernel, by decide⟩
abbrev mX11_fault : sm_MD := (yX11_fault, cX11_fault, 2, (some .int))
theorem mf_X11_fault : sm_MF mX11_fault 1 := ⟨(sm_t2 220 (by decide +kernel)), (sm_t1 1 (by decide +kernel)), ⟨by decide +kernel, by decide +kernel⟩, by decide +kernel, by decide⟩
abbrev mX11_feed : sm_MD := (yX11_feed, cX11_feed, 7, (some .int))
theorem mf_X11_feed : sm_MF mX11_feed 5 := ⟨(sm_t2 198 (by decide +kernel)), (sm_t1 1 (by decide +kernel)), ⟨by decide +kernel, by decide +kernel⟩, by decide +kernel, by decide⟩
abbrev mX11_firstOf : sm_MD := (yX11_firstOf, cX11_firstOf, 3, (some .int))
theorem mf_X11_firstOf : sm_MF mX11_firstOf 2 := ⟨(sm_t5 99 (by decide +kernel)), (sm_t1 1 (by decide +kernel)), ⟨by decide +kernel, by decide +kernel⟩, by decide +kernel, by decide⟩
abbrev mX11_fits : sm_MD := (yX11_fits, cX11_fits, 2, (some .int))
theorem mf_X11_fits : sm_MF mX11_fits 1 := ⟨(sm_t5 142 (by decide +kernel)), (sm_t1 1 (by decide +kernel)), ⟨by decide +kernel, by decide +kernel⟩, by decide +kernel, by decide⟩
abbrev mX11_fittingSteps : sm_MD := (yX11_fittingSteps, cX11_fittingSteps, 4, (some .int))
theorem mf_X11_fittingSteps : sm_MF mX11_fittingSteps 1 := ⟨(sm_t5 146 (by decide +kernel)), (sm_t1 1 (by decide +kernel)), ⟨by decide +kernel, by decide +kernel⟩, by decide +kernel, by decide⟩
abbrev mX11_fullest : sm_MD := (yX11_fullest, cX11_fullest, 9, (some .int))
theorem mf_X11_fullest : sm_MF mX11_fullest 2 := ⟨(sm_t5 113 (by decide +kernel)), (sm_t1 1 (by decide +kernel)), ⟨by decide +kernel, by decide +kernel⟩, by decide +kernel, by decide⟩
abbrev mX11_guest : sm_MD := (yX11_guest, cX11_guest, 6, (some .int))
theorem mf_X11_guest : sm_MF mX11_guest 4 := ⟨(sm_t6 2 (by decide +kernel)), (sm_t1 1 (by decide +kernel)), ⟨by decide +kernel, by decide +kernel⟩, by decide +kernel, by decide⟩
abbrev mX11_homing : sm_MD := (yX11_homing, cX11_homing, 9, (some .int))
theorem mf_X11_homing : sm_MF mX11_homing 2 := ⟨(sm_t5 206 (by decide +kernel)), (sm_t1 1 (by decide +kernel)), ⟨by decide +kernel, by decide +kernel⟩, by decide +kernel, by decide⟩
abbrev mX11_house : sm_MD := (yX11_house, cX11_house, 3, (some .int))
theorem mf_X11_house : sm_MF mX11_house 2 := ⟨(sm_t4 106 (by decide +kernel)), (sm_t1 1 (by decide +kernel)), ⟨by decide +kernel, by decide +kernel⟩, by decide +kernel, by decide⟩
abbrev mX11_image : sm_MD := (yX11_image, cX11_image, 1, (some .int))
theorem mf_X11_image : sm_MF mX11_image 0 := ⟨(sm_t5 50 (by decide +kernel)), (sm_t1 1 (by decide +kernel)), ⟨by decide +kernel, by decide +kernel⟩, by decide +kernel, by decide⟩
abbrev mX11_kindsOfPlaces : sm_MD := (yX11_kindsOfPlaces, cX11_kindsOfPlaces, 7, (some .int))
theorem mf_X11_kindsOfPlaces : sm_MF mX11_kindsOfPlaces 4 := ⟨(sm_t5 172 (by decide +kernel)), (sm_t1 1 (by decide +kernel)), ⟨by decide +kernel, by decide +kernel⟩, by decide +kernel, by decide⟩
abbrev mX11_landAllStarts : sm_MD := (yX11_landAllStarts, cX11_landAllStarts, 7, none)
theorem mf_X11_landAllStarts : sm_MF mX11_landAllStarts 1 := ⟨(sm_t5 210 (by decide +kernel)), (sm_t1 1 (by decide +kernel)), ⟨by decide +kernel, by decide +kernel⟩, by decide +kernel, by decide⟩
abbrev mX11_lock : sm_MD := (yX11_lock, cX11_lock, 3, (some .boolean))
theorem mf_X11_lock : sm_MF mX11_lock 2 := ⟨(sm_t4 164 (by decide +kernel)), (sm_t1 1 (by decide +kernel)), ⟨by decide +kernel, by decide +kernel⟩, by decide +kernel, by decide⟩
abbrev mX11_met : sm_MD := (yX11_met, cX11_met, 8, (some .int))
theorem mf_X11_met : sm_MF mX11_met 4 := ⟨(sm_t5 84 (by decide +kernel)), (sm_t1 1 (by decide +kernel)), ⟨by decide +kernel, by decide +kernel⟩, by decide +kernel, by decide⟩
abbrev mX11_moon : sm_MD := (yX11_moon, cX11_moon, 2, (some .int))
theorem mf_X11_moon : sm_MF mX11_moon 1 := ⟨(sm_t4 120 (by decide +kernel)), (sm_t1 1 (by decide +kernel)), ⟨by decide +kernel, by decide +kernel⟩, by decide +kernel, by decide⟩
abbrev mX11_moveInto : sm_MD := (yX11_moveInto, cX11_moveInto, 2, none)
theorem mf_X11_moveInto : sm_MF mX11_moveInto 1 := ⟨(sm_t3 232 (by decide +kernel)), (sm_t1 1 (by decide +kernel)), ⟨by decide +kernel, by decide +kernel⟩, by decide +kernel, by decide⟩
abbrev mX11_nights : sm_MD := (yX11_nights, cX11_nights, 3, (some .int))
theorem mf_X11_nights : sm_MF mX11_nights 1 := ⟨(sm_t4 168 (by decide +kernel)), (sm_t1 1 (by decide +kernel)), ⟨by decide +kernel, by decide +kernel⟩, by decide +kernel, by decide⟩
abbrev mX11_odds : sm_MD := (yX11_odds, cX11_odds, 4, (some .int))
theorem mf_X11_odds : sm_MF mX11_odds 3 := ⟨(sm_t5 176 (by decide +kernel)), (sm_t1 1 (by decide +kernel)), ⟨by decide +kernel, by decide +kernel⟩, by decide +kernel, by decide⟩
abbrev mX11_pairs : sm_MD := (yX11_pairs, cX11_pairs, 6, (some .int))
theorem mf_X11_pairs : sm_MF mX11_pairs 2 := ⟨(sm_t5 160 (by decide +kernel)), (sm_t1 1 (by decide +kernel)), ⟨by decide +kernel, by decide +kernel⟩, by decide +kernel, by decide⟩
abbrev mX11_path : sm_MD := (yX11_path, cX11_path, 8, (some .int))
theorem mf_X11_path : sm_MF mX11_path 3 := ⟨(sm_t5 104 (by decide +kernel)), (sm_t1 1 (by decide +kernel)), ⟨by decide +kernel, by decide +kernel⟩, by decide +kernel, by decide⟩
abbrev mX11_placeIn : sm_MD := (yX11_placeIn, cX11_placeIn, 2, (some .int))
theorem mf_X11_placeIn : sm_MF mX11_placeIn 2 := ⟨(sm_t4 102 (by decide +kernel)), (sm_t1 1 (by decide +kernel)), ⟨by decide +kernel, by decide +kernel⟩, by decide +kernel, by decide⟩
abbrev mX11_placed : sm_MD := (yX11_placed, cX11_placed, 3, (some .int))
theorem mf_X11_placed : sm_MF mX11_placed 3 := ⟨(sm_t3 145 (by decide +kernel)), (sm_t1 1 (by decide +kernel)), ⟨by decide +kernel, by decide +kernel⟩, by decide +kernel, by decide⟩
abbrev mX11_put : sm_MD := (yX11_put, cX11_put, 3, (some .boolean))
theorem mf_X11_put : sm_MF mX11_put 2 := ⟨(sm_t4 159 (by decide +kernel)), (sm_t1 1 (by decide +kernel)), ⟨by decide +kernel, by decide +kernel⟩, by decide +kernel, by decide⟩
abbrev mX11_quiet : sm_MD := (yX11_quiet, cX11_quiet, 3, (some .int))
theorem mf_X11_quiet : sm_MF mX11_quiet 2 := ⟨(sm_t5 230 (by decide +kernel)), (sm_t1 1 (by decide +kernel)), ⟨by decide +kernel, by decide +kernel⟩, by decide +kernel, by decide⟩
abbrev mX11_risk : sm_MD := (yX11_risk, cX11_risk, 2, (some .boolean))
theorem mf_X11_risk : sm_MF mX11_risk 1 := ⟨(sm_t4 151 (by decide +kernel)), (sm_t1 1 (by decide +kernel)), ⟨by decide +kernel, by decide +kernel⟩, by decide +kernel, by decide⟩
abbrev mX11_round : sm_MD := (yX11_round, cX11_round, 4, (some .int))
theorem mf_X11_round : sm_MF mX11_round 1 := ⟨(sm_t5 88 (by decide +kernel)), (sm_t1 1 (by decide +kernel)), ⟨by decide +kernel, by decide +kernel⟩, by decide +kernel, by decide⟩
abbrev mX11_rule : sm_MD := (yX11_rule, cX11_rule, 3, (some .boolean))
theorem mf_X11_rule : sm_MF mX11_rule 2 := ⟨(sm_t4 137 (by decide +kernel)), (sm_t1 1 (by decide +kernel)), ⟨by decide +kernel, by decide +kernel⟩, by decide +kernel, by decide⟩
abbrev mX11_see : sm_MD := (yX11_see, cX11_see, 5, (some .int))
theorem mf_X11_see : sm_MF mX11_see 4 := ⟨(sm_t5 132 (by decide +kernel)), (sm_t1 1 (by decide +kernel)), ⟨by decide +kernel, by decide +kernel⟩, by decide +kernel, by decide⟩
abbrev mX11_seed : sm_MD := (yX11_seed, cX11_seed, 3, (some .boolean))
theorem mf_X11_seed : sm_MF mX11_seed 1 := ⟨(sm_t4 155 (by decide +kernel)), (sm_t1 1 (by decide +kernel)), ⟨by decide +kernel, by decide +kernel⟩, by decide +kernel, by decide⟩
abbrev mX11_span : sm_MD := (yX11_span, cX11_span, 7, (some .int))
theorem mf_X11_span : sm_MF mX11_span 2 := ⟨(sm_t5 108 (by decide +kernel)), (sm_t1 1 (by decide +kernel)), ⟨by decide +kernel, by decide +kernel⟩, by decide +kernel, by decide⟩
abbrev mX11_stay : sm_MD := (yX11_stay, cX11_stay, 4, (some .int))
theorem mf_X11_stay : sm_MF mX11_stay 2 := ⟨(sm_t5 198 (by decide +kernel)), (sm_t1 1 (by decide +kernel)), ⟨by decide +kernel, by decide +kernel⟩, by decide +kernel, by decide⟩
abbrev mX11_staysBehind : sm_MD := (yX11_staysBehind, cX11_staysBehind, 6, (some .boolean))
theorem mf_X11_staysBehind : sm_MF mX11_staysBehind 3 := ⟨(sm_t5 202 (by decide +kernel)), (sm_t1 1 (by decide +kernel)), ⟨by decide +kernel, by decide +kernel⟩, by decide +kernel, by decide⟩
abbrev mX11_test : sm_MD := (yX11_test, cX11_test, 9, (some .int))
theorem mf_X11_test : sm_MF mX11_test 3 := ⟨(sm_t5 168 (by decide +kernel)), (sm_t1 1 (by decide +kernel)), ⟨by decide +kernel, by decide +kernel⟩, by decide +kernel, by decide⟩
abbrev mX11_thing : sm_MD := (yX11_thing, cX11_thing, 3, (some .int))
theorem mf_X11_thing : sm_MF mX11_thing 2 := ⟨(sm_t4 94 (by decide +kernel)), (sm_t1 1 (by decide +kernel)), ⟨by decide +kernel, by decide +kernel⟩, by decide +kernel, by decide⟩
abbrev mX11_touched : sm_MD := (yX11_touched, cX11_touched, 3, (some .int))
theorem mf_X11_touched : sm_MF mX11_touched 2 := ⟨(sm_t5 76 (by decide +kernel)), (sm_t1 1 (by decide +kernel)), ⟨by decide +kernel, by decide +kernel⟩, by decide +kernel, by decide⟩
abbrev mX11_undo : sm_MD := (yX11_undo, cX11_undo, 1, (some .int))
theorem mf_X11_undo : sm_MF mX11_undo 0 := ⟨(sm_t5 40 (by decide +kernel)), (sm_t1 1 (by decide +kernel)), ⟨by decide +kernel, by decide +kernel⟩, by decide +kernel, by decide⟩
abbrev mX11_where : sm_MD := (yX11_where, cX11_where, 3, (some .int))
theorem mf_X11_where : sm_MF mX11_where 2 := ⟨(sm_t5 58 (by decide +kernel)), (sm_t1 1 (by decide +kernel)), ⟨by decide +kernel, by decide +kernel⟩, by decide +kernel, by decide⟩
abbrev mX11_within : sm_MD := (yX11_within, cX11_within, 3, (some .boolean))
theorem mf_X11_within : sm_MF mX11_within 3 := ⟨(sm_t2 216 (by decide +kernel)), (sm_t1 1 (by decide +kernel)), ⟨by decide +kernel, by decide +kernel⟩, by decide +kernel, by decide⟩
abbrev mX0_begin : sm_MD := (yX0_begin, cX0_begin, 2, none)
theorem mf_X0_begin : sm_MF mX0_begin 1 := ⟨(sm_t4 178 (by decide +kernel)), (sm_t1 16 (by decide +kernel)), ⟨by decide +kernel, by decide +kernel⟩, by decide +kernel, by decide⟩
abbrev mX0_carry : sm_MD := (yX0_carry, cX0_carry, 8, none)
theorem mf_X0_carry : sm_MF mX0_carry 4 := ⟨(sm_t5 26 (by decide +kernel)), (sm_t1 16 (by decide +kernel)), ⟨by decide +kernel, by decide +kernel⟩, by decide +kernel, by decide⟩
abbrev mX0_forgetWorths : sm_MD := (yX0_forgetWorths, cX0_forgetWorths, 1, none)
theorem mf_X0_forgetWorths : sm_MF mX0_forgetWorths 0 := ⟨(sm_t4 146 (by decide +kernel)), (sm_t1 16 (by decide +kernel)), ⟨by decide +kernel, by decide +kernel⟩, by decide +kernel, by decide⟩
abbrev mX0_goOn : sm_MD := (yX0_goOn, cX0_goOn, 3, none)
theorem mf_X0_goOn : sm_MF mX0_goOn 1 := ⟨(sm_t5 66 (by decide +kernel)), (sm_t1 16 (by decide +kernel)), ⟨by decide +kernel, by decide +kernel⟩, by decide +kernel, by decide⟩
abbrev mX0_goOneNight : sm_MD := (yX0_goOneNight, cX0_goOneNight, 2, none)
theorem mf_X0_goOneNight : sm_MF mX0_goOneNight 0 := ⟨(sm_t4 188 (by decide +kernel)), (sm_t1 16 (by decide +kernel)), ⟨by decide +kernel, by decide +kernel⟩, by decide +kernel, by decide⟩
abbrev mX0_hasFever : sm_MD := (yX0_hasFever, cX0_hasFever, 1, (some .boolean))
theorem mf_X0_hasFever : sm_MF mX0_hasFever 0 := ⟨(sm_t4 197 (by decide +kernel)), (sm_t1 16 (by decide +kernel)), ⟨by decide +kernel, by decide +kernel⟩, by decide +kernel, by decide⟩
abbrev mX0_ownStride : sm_MD := (yX0_ownStride, cX0_ownStride, 6, (some .int))
theorem mf_X0_ownStride : sm_MF mX0_ownStride 1 := ⟨(sm_t4 204 (by decide +kernel)), (sm_t1 16 (by decide +kernel)), ⟨by decide +kernel, by decide +kernel⟩, by decide +kernel, by decide⟩
abbrev mX0_partsFrom : sm_MD := (yX0_partsFrom, cX0_partsFrom, 9, (some .long))
theorem mf_X0_partsFrom : sm_MF mX0_partsFrom 4 := ⟨(sm_t5 189 (by decide +kernel)), (sm_t1 16 (by decide +kernel)), ⟨by decide +kernel, by decide +kernel⟩, by decide +kernel, by decide⟩
abbrev mX0_partsInto : sm_MD := (yX0_partsInto, cX0_partsInto, 5, (some .long))
theorem mf_X0_partsInto : sm_MF mX0_partsInto 4 := ⟨(sm_t5 184 (by decide +kernel)), (sm_t1 16 (by decide +kernel)), ⟨by decide +kernel, by decide +kernel⟩, by decide +kernel, by decide⟩
abbrev mX0_roundKey : sm_MD := (yX0_roundKey, cX0_roundKey, 1, (some .int))
theorem mf_X0_roundKey : sm_MF mX0_roundKey 0 := ⟨(sm_t5 92 (by decide +kernel)), (sm_t1 16 (by decide +kernel)), ⟨by decide +kernel, by decide +kernel⟩, by decide +kernel, by decide⟩
abbrev mX0_ruleOf : sm_MD := (yX0_ruleOf, cX0_ruleOf, 3, (some (.object "SleepMoves$Rule")))
theorem mf_X0_ruleOf : sm_MF mX0_ruleOf 1 := ⟨(sm_t4 208 (by decide +kernel)), (sm_t1 16 (by decide +kernel)), ⟨by decide +kernel, by decide +kernel⟩, by decide +kernel, by decide⟩
abbrev mX0_splitParts : sm_MD := (yX0_splitParts, cX0_splitParts, 12, (some .long))
theorem mf_X0_splitParts : sm_MF mX0_splitParts 4 := ⟨(sm_t5 194 (by decide +kernel)), (sm_t1 16 (by decide +kernel)), ⟨by decide +kernel, by decide +kernel⟩, by decide +kernel, by decide⟩
abbrev mX0_tellLetters : sm_MD := (yX0_tellLetters, cX0_tellLetters, 3, none)
theorem mf_X0_tellLetters : sm_MF mX0_tellLetters 2 := ⟨(sm_t4 235 (by decide +kernel)), (sm_t1 16 (by decide +kernel)), ⟨by decide +kernel, by decide +kernel⟩, by decide +kernel, by decide⟩
abbrev mX0_walk : sm_MD := (yX0_walk, cX0_walk, 7, none)
theorem mf_X0_walk : sm_MF mX0_walk 1 := ⟨(sm_t4 192 (by decide +kernel)), (sm_t1 16 (by decide +kernel)), ⟨by decide +kernel, by decide +kernel⟩, by decide +kernel, by decide⟩
abbrev mX1_forget : sm_MD := (yX1_forget, cX1_forget, 1, none)
theorem mf_X1_forget : sm_MF mX1_forget 0 := ⟨(sm_t4 5 (by decide +kernel)), (sm_t1 14 (by decide +kernel)), ⟨by decide +kernel, by decide +kernel⟩, by decide +kernel, by decide⟩
abbrev mX1_keep : sm_MD := (yX1_keep, cX1_keep, 2, none)
theorem mf_X1_keep : sm_MF mX1_keep 1 := ⟨(sm_t4 172 (by decide +kernel)), (sm_t1 14 (by decide +kernel)), ⟨by decide +kernel, by decide +kernel⟩, by decide +kernel, by decide⟩
abbrev mX1_takeBack : sm_MD := (yX1_takeBack, cX1_takeBack, 2, (some .boolean))
theorem mf_X1_takeBack : sm_MF mX1_takeBack 1 := ⟨(sm_t5 44 (by decide +kernel)), (sm_t1 14 (by decide +kernel)), ⟨by decide +kernel, by decide +kernel⟩, by decide +kernel, by decide⟩
abbrev mX2_begin : sm_MD := (yX2_begin, cX2_begin, 1, none)
theorem mf_X2_begin : sm_MF mX2_begin 0 := ⟨(sm_t2 230 (by decide +kernel)), (sm_t1 5 (by decide +kernel)), ⟨by decide +kernel, by decide +kernel⟩, by decide +kernel, by decide⟩
abbrev mX2_faultHere : sm_MD := (yX2_faultHere, cX2_faultHere, 1, (some .int))
theorem mf_X2_faultHere : sm_MF mX2_faultHere 0 := ⟨(sm_t3 35 (by decide +kernel)), (sm_t1 5 (by decide +kernel)), ⟨by decide +kernel, by decide +kernel⟩, by decide +kernel, by decide⟩
abbrev mX2_goOn : sm_MD := (yX2_goOn, cX2_goOn, 1, none)
theorem mf_X2_goOn : sm_MF mX2_goOn 0 := ⟨(sm_t3 29 (by decide +kernel)), (sm_t1 5 (by decide +kernel)), ⟨by decide +kernel, by decide +kernel⟩, by decide +kernel, by decide⟩
abbrev mX2_nextSign : sm_MD := (yX2_nextSign, cX2_nextSign, 1, (some .int))
theorem mf_X2_nextSign : sm_MF mX2_nextSign 0 := ⟨(sm_t3 10 (by decide +kernel)), (sm_t1 5 (by decide +kernel)), ⟨by decide +kernel, by decide +kernel⟩, by decide +kernel, by decide⟩
abbrev mX2_signHere : sm_MD := (yX2_signHere, cX2_signHere, 1, (some .int))
theorem mf_X2_signHere : sm_MF mX2_signHere 0 := ⟨(sm_t3 195 (by decide +kernel)), (sm_t1 5 (by decide +kernel)), ⟨by decide +kernel, by decide +kernel⟩, by decide +kernel, by decide⟩
abbrev mX2_take : sm_MD := (yX2_take, cX2_take, 2, (some .boolean))
theorem mf_X2_take : sm_MF mX2_take 1 := ⟨(sm_t3 4 (by decide +kernel)), (sm_t1 5 (by decide +kernel)), ⟨by decide +kernel, by decide +kernel⟩, by decide +kernel, by decide⟩
abbrev mX3_at : sm_MD := (yX3_at, cX3_at, 2, (some .int))
theorem mf_X3_at : sm_MF mX3_at 1 := ⟨(sm_t3 14 (by decide +kernel)), (sm_t1 3 (by decide +kernel)), ⟨by decide +kernel, by decide +kernel⟩, by decide +kernel, by decide⟩
abbrev mX3_copy : sm_MD := (yX3_copy, cX3_copy, 3, none)
theorem mf_X3_copy : sm_MF mX3_copy 1 := ⟨(sm_t4 0 (by decide +kernel)), (sm_t1 3 (by decide +kernel)), ⟨by decide +kernel, by decide +kernel⟩, by decide +kernel, by decide⟩
abbrev mX3_fill : sm_MD := (yX3_fill, cX3_fill, 3, none)
theorem mf_X3_fill : sm_MF mX3_fill 1 := ⟨(sm_t2 238 (by decide +kernel)), (sm_t1 3 (by decide +kernel)), ⟨by decide +kernel, by decide +kernel⟩, by decide +kernel, by decide⟩
abbrev mX3_length : sm_MD := (yX3_length, cX3_length, 1, (some .int))
theorem mf_X3_length : sm_MF mX3_length 0 := ⟨(sm_t5 5 (by decide +kernel)), (sm_t1 3 (by decide +kernel)), ⟨by decide +kernel, by decide +kernel⟩, by decide +kernel, by decide⟩
abbrev mX3_set : sm_MD := (yX3_set, cX3_set, 3, none)
theorem mf_X3_set : sm_MF mX3_set 2 := ⟨(sm_t2 209 (by decide +kernel)), (sm_t1 3 (by decide +kernel)), ⟨by decide +kernel, by decide +kernel⟩, by decide +kernel, by decide⟩
abbrev mX4_joined : sm_MD := (yX4_joined, cX4_joined, 7, (some .int))
theorem mf_X4_joined : sm_MF mX4_joined 3 := ⟨(sm_t5 11 (by decide +kernel)), (sm_t1 22 (by decide +kernel)), ⟨by decide +kernel, by decide +kernel⟩, by decide +kernel, by decide⟩
abbrev mX4_worth : sm_MD := (yX4_worth, cX4_worth, 7, (some .int))
theorem mf_X4_worth : sm_MF mX4_worth 2 := ⟨(sm_t5 1 (by decide +kernel)), (sm_t1 22 (by decide +kernel)), ⟨by decide +kernel, by decide +kernel⟩, by decide +kernel, by decide⟩
abbrev mX5_isDigit : sm_MD := (yX5_isDigit, cX5_isDigit, 1, (some .boolean))
theorem mf_X5_isDigit : sm_MF mX5_isDigit 1 := ⟨(sm_t3 185 (by decide +kernel)), (sm_t1 9 (by decide +kernel)), ⟨by decide +kernel, by decide +kernel⟩, by decide +kernel, by decide⟩
abbrev mX5_isRelation : sm_MD := (yX5_isRelation, cX5_isRelation, 1, (some .boolean))
theorem mf_X5_isRelation : sm_MF mX5_isRelation 1 := ⟨(sm_t3 205 (by decide +kernel)), (sm_t1 9 (by decide +kernel)), ⟨by decide +kernel, by decide +kernel⟩, by decide +kernel, by decide⟩
abbrev mX5_read : sm_MD := (yX5_read, cX5_read, 2, (some .int))
theorem mf_X5_read : sm_MF mX5_read 0 := ⟨(sm_t3 154 (by decide +kernel)), (sm_t1 9 (by decide +kernel)), ⟨by decide +kernel, by decide +kernel⟩, by decide +kernel, by decide⟩
abbrev mX5_readAtom : sm_MD := (yX5_readAtom, cX5_readAtom, 4, (some .boolean))
theorem mf_X5_readAtom : sm_MF mX5_readAtom 1 := ⟨(sm_t3 179 (by decide +kernel)), (sm_t1 9 (by decide +kernel)), ⟨by decide +kernel, by decide +kernel⟩, by decide +kernel, by decide⟩
abbrev mX5_readClause : sm_MD := (yX5_readClause, cX5_readClause, 3, (some .boolean))
theorem mf_X5_readClause : sm_MF mX5_readClause 0 := ⟨(sm_t3 161 (by decide +kernel)), (sm_t1 9 (by decide +kernel)), ⟨by decide +kernel, by decide +kernel⟩, by decide +kernel, by decide⟩
abbrev mX5_readCondition : sm_MD := (yX5_readCondition, cX5_readCondition, 4, (some .boolean))
theorem mf_X5_readCondition : sm_MF mX5_readCondition 2 := ⟨(sm_t3 209 (by decide +kernel)), (sm_t1 9 (by decide +kernel)), ⟨by decide +kernel, by decide +kernel⟩, by decide +kernel, by decide⟩
abbrev mX5_readDenied : sm_MD := (yX5_readDenied, cX5_readDenied, 2, (some .boolean))
theorem mf_X5_readDenied : sm_MF mX5_readDenied 1 := ⟨(sm_t3 221 (by decide +kernel)), (sm_t1 9 (by decide +kernel)), ⟨by decide +kernel, by decide +kernel⟩, by decide +kernel, by decide⟩
abbrev mX5_readNumber : sm_MD := (yX5_readNumber, cX5_readNumber, 3, (some .boolean))
theorem mf_X5_readNumber : sm_MF mX5_readNumber 0 := ⟨(sm_t3 189 (by decide +kernel)), (sm_t1 9 (by decide +kernel)), ⟨by decide +kernel, by decide +kernel⟩, by decide +kernel, by decide⟩
abbrev mX5_readSum : sm_MD := (yX5_readSum, cX5_readSum, 4, (some .boolean))
theorem mf_X5_readSum : sm_MF mX5_readSum 1 := ⟨(sm_t3 171 (by decide +kernel)), (sm_t1 9 (by decide +kernel)), ⟨by decide +kernel, by decide +kernel⟩, by decide +kernel, by decide⟩
abbrev mX5_readTerm : sm_MD := (yX5_readTerm, cX5_readTerm, 4, (some .boolean))
theorem mf_X5_readTerm : sm_MF mX5_readTerm 1 := ⟨(sm_t3 175 (by decide +kernel)), (sm_t1 9 (by decide +kernel)), ⟨by decide +kernel, by decide +kernel⟩, by decide +kernel, by decide⟩
abbrev mX5_readTruth : sm_MD := (yX5_readTruth, cX5_readTruth, 4, (some .boolean))
theorem mf_X5_readTruth : sm_MF mX5_readTruth 2 := ⟨(sm_t3 213 (by decide +kernel)), (sm_t1 9 (by decide +kernel)), ⟨by decide +kernel, by decide +kernel⟩, by decide +kernel, by decide⟩
abbrev mX5_readUnit : sm_MD := (yX5_readUnit, cX5_readUnit, 5, (some .boolean))
theorem mf_X5_readUnit : sm_MF mX5_readUnit 2 := ⟨(sm_t3 217 (by decide +kernel)), (sm_t1 9 (by decide +kernel)), ⟨by decide +kernel, by decide +kernel⟩, by decide +kernel, by decide⟩
abbrev mX5_write : sm_MD := (yX5_write, cX5_write, 3, none)
theorem mf_X5_write : sm_MF mX5_write 2 := ⟨(sm_t3 199 (by decide +kernel)), (sm_t1 9 (by decide +kernel)), ⟨by decide +kernel, by decide +kernel⟩, by decide +kernel, by decide⟩
abbrev mX6_add : sm_MD := (yX6_add, cX6_add, 5, none)
theorem mf_X6_add : sm_MF mX6_add 4 := ⟨(sm_t5 136 (by decide +kernel)), (sm_t1 15 (by decide +kernel)), ⟨by decide +kernel, by decide +kernel⟩, by decide +kernel, by decide⟩
abbrev mX6_allows : sm_MD := (yX6_allows, cX6_allows, 5, (some .boolean))
theorem mf_X6_allows : sm_MF mX6_allows 2 := ⟨(sm_t5 154 (by decide +kernel)), (sm_t1 15 (by decide +kernel)), ⟨by decide +kernel, by decide +kernel⟩, by decide +kernel, by decide⟩
abbrev mX6_forget : sm_MD := (yX6_forget, cX6_forget, 1, none)
theorem mf_X6_forget : sm_MF mX6_forget 0 := ⟨(sm_t4 9 (by decide +kernel)), (sm_t1 15 (by decide +kernel)), ⟨by decide +kernel, by decide +kernel⟩, by decide +kernel, by decide⟩
abbrev mX7_copy : sm_MD := (yX7_copy, cX7_copy, 2, none)
theorem mf_X7_copy : sm_MF mX7_copy 1 := ⟨(sm_t4 184 (by decide +kernel)), (sm_t1 13 (by decide +kernel)), ⟨by decide +kernel, by decide +kernel⟩, by decide +kernel, by decide⟩
abbrev mX8_addMoon : sm_MD := (yX8_addMoon, cX8_addMoon, 2, (some .boolean))
theorem mf_X8_addMoon : sm_MF mX8_addMoon 1 := ⟨(sm_t3 150 (by decide +kernel)), (sm_t1 7 (by decide +kernel)), ⟨by decide +kernel, by decide +kernel⟩, by decide +kernel, by decide⟩
abbrev mX8_addSleeper : sm_MD := (yX8_addSleeper, cX8_addSleeper, 2, (some .boolean))
theorem mf_X8_addSleeper : sm_MF mX8_addSleeper 1 := ⟨(sm_t3 135 (by decide +kernel)), (sm_t1 7 (by decide +kernel)), ⟨by decide +kernel, by decide +kernel⟩, by decide +kernel, by decide⟩
abbrev mX8_addThing : sm_MD := (yX8_addThing, cX8_addThing, 2, (some .boolean))
theorem mf_X8_addThing : sm_MF mX8_addThing 1 := ⟨(sm_t3 142 (by decide +kernel)), (sm_t1 7 (by decide +kernel)), ⟨by decide +kernel, by decide +kernel⟩, by decide +kernel, by decide⟩
abbrev mX8_around : sm_MD := (yX8_around, cX8_around, 3, (some .int))
theorem mf_X8_around : sm_MF mX8_around 2 := ⟨(sm_t5 19 (by decide +kernel)), (sm_t1 7 (by decide +kernel)), ⟨by decide +kernel, by decide +kernel⟩, by decide +kernel, by decide⟩
abbrev mX8_clear : sm_MD := (yX8_clear, cX8_clear, 1, none)
theorem mf_X8_clear : sm_MF mX8_clear 0 := ⟨(sm_t2 234 (by decide +kernel)), (sm_t1 7 (by decide +kernel)), ⟨by decide +kernel, by decide +kernel⟩, by decide +kernel, by decide⟩
abbrev mX8_copy : sm_MD := (yX8_copy, cX8_copy, 2, none)
theorem mf_X8_copy : sm_MF mX8_copy 1 := ⟨(sm_t3 236 (by decide +kernel)), (sm_t1 7 (by decide +kernel)), ⟨by decide +kernel, by decide +kernel⟩, by decide +kernel, by decide⟩
abbrev mX8_digitsOf : sm_MD := (yX8_digitsOf, cX8_digitsOf, 4, (some .int))
theorem mf_X8_digitsOf : sm_MF mX8_digitsOf 1 := ⟨(sm_t5 226 (by decide +kernel)), (sm_t1 7 (by decide +kernel)), ⟨by decide +kernel, by decide +kernel⟩, by decide +kernel, by decide⟩
abbrev mX8_elsewhere : sm_MD := (yX8_elsewhere, cX8_elsewhere, 5, (some .int))
theorem mf_X8_elsewhere : sm_MF mX8_elsewhere 2 := ⟨(sm_t5 128 (by decide +kernel)), (sm_t1 7 (by decide +kernel)), ⟨by decide +kernel, by decide +kernel⟩, by decide +kernel, by decide⟩
abbrev mX8_feverish : sm_MD := (yX8_feverish, cX8_feverish, 3, (some .int))
theorem mf_X8_feverish : sm_MF mX8_feverish 0 := ⟨(sm_t5 180 (by decide +kernel)), (sm_t1 7 (by decide +kernel)), ⟨by decide +kernel, by decide +kernel⟩, by decide +kernel, by decide⟩
abbrev mX8_fullestHouse : sm_MD := (yX8_fullestHouse, cX8_fullestHouse, 6, (some .int))
theorem mf_X8_fullestHouse : sm_MF mX8_fullestHouse 1 := ⟨(sm_t5 117 (by decide +kernel)), (sm_t1 7 (by decide +kernel)), ⟨by decide +kernel, by decide +kernel⟩, by decide +kernel, by decide⟩
abbrev mX8_hasHouse : sm_MD := (yX8_hasHouse, cX8_hasHouse, 2, (some .boolean))
theorem mf_X8_hasHouse : sm_MF mX8_hasHouse 1 := ⟨(sm_t4 110 (by decide +kernel)), (sm_t1 7 (by decide +kernel)), ⟨by decide +kernel, by decide +kernel⟩, by decide +kernel, by decide⟩
abbrev mX8_hasSleeper : sm_MD := (yX8_hasSleeper, cX8_hasSleeper, 2, (some .boolean))
theorem mf_X8_hasSleeper : sm_MF mX8_hasSleeper 1 := ⟨(sm_t4 141 (by decide +kernel)), (sm_t1 7 (by decide +kernel)), ⟨by decide +kernel, by decide +kernel⟩, by decide +kernel, by decide⟩
abbrev mX8_hasThing : sm_MD := (yX8_hasThing, cX8_hasThing, 2, (some .boolean))
theorem mf_X8_hasThing : sm_MF mX8_hasThing 1 := ⟨(sm_t4 98 (by decide +kernel)), (sm_t1 7 (by decide +kernel)), ⟨by decide +kernel, by decide +kernel⟩, by decide +kernel, by decide⟩
abbrev mX8_isFull : sm_MD := (yX8_isFull, cX8_isFull, 2, (some .boolean))
theorem mf_X8_isFull : sm_MF mX8_isFull 1 := ⟨(sm_t4 128 (by decide +kernel)), (sm_t1 7 (by decide +kernel)), ⟨by decide +kernel, by decide +kernel⟩, by decide +kernel, by decide⟩
abbrev mX8_isTold : sm_MD := (yX8_isTold, cX8_isTold, 1, (some .boolean))
theorem mf_X8_isTold : sm_MF mX8_isTold 0 := ⟨(sm_t4 124 (by decide +kernel)), (sm_t1 7 (by decide +kernel)), ⟨by decide +kernel, by decide +kernel⟩, by decide +kernel, by decide⟩
abbrev mX8_moonStand : sm_MD := (yX8_moonStand, cX8_moonStand, 2, (some .int))
theorem mf_X8_moonStand : sm_MF mX8_moonStand 1 := ⟨(sm_t5 96 (by decide +kernel)), (sm_t1 7 (by decide +kernel)), ⟨by decide +kernel, by decide +kernel⟩, by decide +kernel, by decide⟩
abbrev mX8_placesOf : sm_MD := (yX8_placesOf, cX8_placesOf, 5, (some .int))
theorem mf_X8_placesOf : sm_MF mX8_placesOf 1 := ⟨(sm_t5 218 (by decide +kernel)), (sm_t1 7 (by decide +kernel)), ⟨by decide +kernel, by decide +kernel⟩, by decide +kernel, by decide⟩
abbrev mX8_startOf : sm_MD := (yX8_startOf, cX8_startOf, 4, (some .int))
theorem mf_X8_startOf : sm_MF mX8_startOf 1 := ⟨(sm_t5 222 (by decide +kernel)), (sm_t1 7 (by decide +kernel)), ⟨by decide +kernel, by decide +kernel⟩, by decide +kernel, by decide⟩
abbrev mX8_starts : sm_MD := (yX8_starts, cX8_starts, 3, (some .int))
theorem mf_X8_starts : sm_MF mX8_starts 0 := ⟨(sm_t5 214 (by decide +kernel)), (sm_t1 7 (by decide +kernel)), ⟨by decide +kernel, by decide +kernel⟩, by decide +kernel, by decide⟩
abbrev mX8_thingsIn : sm_MD := (yX8_thingsIn, cX8_thingsIn, 5, (some .int))
theorem mf_X8_thingsIn : sm_MF mX8_thingsIn 2 := ⟨(sm_t4 114 (by decide +kernel)), (sm_t1 7 (by decide +kernel)), ⟨by decide +kernel, by decide +kernel⟩, by decide +kernel, by decide⟩
abbrev mX9_canCome : sm_MD := (yX9_canCome, cX9_canCome, 2, (some .boolean))
theorem mf_X9_canCome : sm_MF mX9_canCome 1 := ⟨(sm_t3 43 (by decide +kernel)), (sm_t1 6 (by decide +kernel)), ⟨by decide +kernel, by decide +kernel⟩, by decide +kernel, by decide⟩
abbrev mX9_mostOf : sm_MD := (yX9_mostOf, cX9_mostOf, 2, (some .int))
theorem mf_X9_mostOf : sm_MF mX9_mostOf 1 := ⟨(sm_t3 131 (by decide +kernel)), (sm_t1 6 (by decide +kernel)), ⟨by decide +kernel, by decide +kernel⟩, by decide +kernel, by decide⟩
abbrev mX9_read : sm_MD := (yX9_read, cX9_read, 2, (some .int))
theorem mf_X9_read : sm_MF mX9_read 0 := ⟨(sm_t2 224 (by decide +kernel)), (sm_t1 6 (by decide +kernel)), ⟨by decide +kernel, by decide +kernel⟩, by decide +kernel, by decide⟩
abbrev mX9_readClause : sm_MD := (yX9_readClause, cX9_readClause, 2, (some .boolean))
theorem mf_X9_readClause : sm_MF mX9_readClause 0 := ⟨(sm_t3 39 (by decide +kernel)), (sm_t1 6 (by decide +kernel)), ⟨by decide +kernel, by decide +kernel⟩, by decide +kernel, by decide⟩
abbrev mX9_readItems : sm_MD := (yX9_readItems, cX9_readItems, 6, (some .boolean))
theorem mf_X9_readItems : sm_MF mX9_readItems 1 := ⟨(sm_t3 124 (by decide +kernel)), (sm_t1 6 (by decide +kernel)), ⟨by decide +kernel, by decide +kernel⟩, by decide +kernel, by decide⟩
abbrev mX9_takeDigit : sm_MD := (yX9_takeDigit, cX9_takeDigit, 3, (some .boolean))
theorem mf_X9_takeDigit : sm_MF mX9_takeDigit 2 := ⟨(sm_t3 18 (by decide +kernel)), (sm_t1 6 (by decide +kernel)), ⟨by decide +kernel, by decide +kernel⟩, by decide +kernel, by decide⟩
abbrev mX10_add : sm_MD := (yX10_add, cX10_add, 4, none)
theorem mf_X10_add : sm_MF mX10_add 1 := ⟨(sm_t2 205 (by decide +kernel)), (sm_t1 2 (by decide +kernel)), ⟨by decide +kernel, by decide +kernel⟩, by decide +kernel, by decide⟩
abbrev mX10_bytesIn : sm_MD := (yX10_bytesIn, cX10_bytesIn, 3, (some .int))
theorem mf_X10_bytesIn : sm_MF mX10_bytesIn 1 := ⟨(sm_t2 201 (by decide +kernel)), (sm_t1 2 (by decide +kernel)), ⟨by decide +kernel, by decide +kernel⟩, by decide +kernel, by decide⟩
abbrev mX12_agrees : sm_MD := (yX12_agrees, cX12_agrees, 4, (some .boolean))
theorem mf_X12_agrees : sm_MF mX12_agrees 0 := ⟨(sm_t8 115 (by decide +kernel)), (sm_t1 17 (by decide +kernel)), ⟨by decide +kernel, by decide +kernel⟩, by decide +kernel, by decide⟩
abbrev mX12_areNights : sm_MD := (yX12_areNights, cX12_areNights, 2, (some .boolean))
theorem mf_X12_areNights : sm_MF mX12_areNights 1 := ⟨(sm_t8 1 (by decide +kernel)), (sm_t1 17 (by decide +kernel)), ⟨by decide +kernel, by decide +kernel⟩, by decide +kernel, by decide⟩
abbrev mX12_astray : sm_MD := (yX12_astray, cX12_astray, 4, (some .int))
theorem mf_X12_astray : sm_MF mX12_astray 1 := ⟨(sm_t8 206 (by decide +kernel)), (sm_t1 17 (by decide +kernel)), ⟨by decide +kernel, by decide +kernel⟩, by decide +kernel, by decide⟩
abbrev mX12_atEnd : sm_MD := (yX12_atEnd, cX12_atEnd, 1, (some .int))
theorem mf_X12_atEnd : sm_MF mX12_atEnd 0 := ⟨(sm_t7 165 (by decide +kernel)), (sm_t1 17 (by decide +kernel)), ⟨by decide +kernel, by decide +kernel⟩, by decide +kernel, by decide⟩
abbrev mX12_atom : sm_MD := (yX12_atom, cX12_atom, 2, none)
theorem mf_X12_atom : sm_MF mX12_atom 0 := ⟨(sm_t7 139 (by decide +kernel)), (sm_t1 17 (by decide +kernel)), ⟨by decide +kernel, by decide +kernel⟩, by decide +kernel, by decide⟩
abbrev mX12_awake : sm_MD := (yX12_awake, cX12_awake, 3, (some .int))
theorem mf_X12_awake : sm_MF mX12_awake 0 := ⟨(sm_t8 123 (by decide +kernel)), (sm_t1 17 (by decide +kernel)), ⟨by decide +kernel, by decide +kernel⟩, by decide +kernel, by decide⟩
abbrev mX12_back : sm_MD := (yX12_back, cX12_back, 2, (some .int))
theorem mf_X12_back : sm_MF mX12_back 0 := ⟨(sm_t8 214 (by decide +kernel)), (sm_t1 17 (by decide +kernel)), ⟨by decide +kernel, by decide +kernel⟩, by decide +kernel, by decide⟩
abbrev mX12_bad : sm_MD := (yX12_bad, cX12_bad, 1, none)
theorem mf_X12_bad : sm_MF mX12_bad 0 := ⟨(sm_t7 63 (by decide +kernel)), (sm_t1 17 (by decide +kernel)), ⟨by decide +kernel, by decide +kernel⟩, by decide +kernel, by decide⟩
abbrev mX12_bounded : sm_MD := (yX12_bounded, cX12_bounded, 2, (some .int))
theorem mf_X12_bounded : sm_MF mX12_bounded 1 := ⟨(sm_t8 35 (by decide +kernel)), (sm_t1 17 (by decide +kernel)), ⟨by decide +kernel, by decide +kernel⟩, by decide +kernel, by decide⟩
abbrev mX12_byteOf : sm_MD := (yX12_byteOf, cX12_byteOf, 7, (some .int))
theorem mf_X12_byteOf : sm_MF mX12_byteOf 6 := ⟨(sm_t7 39 (by decide +kernel)), (sm_t1 17 (by decide +kernel)), ⟨by decide +kernel, by decide +kernel⟩, by decide +kernel, by decide⟩
abbrev mX12_calmNight : sm_MD := (yX12_calmNight, cX12_calmNight, 2, none)
theorem mf_X12_calmNight : sm_MF mX12_calmNight 0 := ⟨(sm_t8 70 (by decide +kernel)), (sm_t1 17 (by decide +kernel)), ⟨by decide +kernel, by decide +kernel⟩, by decide +kernel, by decide⟩
abbrev mX12_calmNights : sm_MD := (yX12_calmNights, cX12_calmNights, 3, none)
theorem mf_X12_calmNights : sm_MF mX12_calmNights 1 := ⟨(sm_t8 66 (by decide +kernel)), (sm_t1 17 (by decide +kernel)), ⟨by decide +kernel, by decide +kernel⟩, by decide +kernel, by decide⟩
abbrev mX12_carries : sm_MD := (yX12_carries, cX12_carries, 5, (some .int))
theorem mf_X12_carries : sm_MF mX12_carries 2 := ⟨(sm_t8 78 (by decide +kernel)), (sm_t1 17 (by decide +kernel)), ⟨by decide +kernel, by decide +kernel⟩, by decide +kernel, by decide⟩
abbrev mX12_clause : sm_MD := (yX12_clause, cX12_clause, 3, none)
theorem mf_X12_clause : sm_MF mX12_clause 0 := ⟨(sm_t7 107 (by decide +kernel)), (sm_t1 17 (by decide +kernel)), ⟨by decide +kernel, by decide +kernel⟩, by decide +kernel, by decide⟩
abbrev mX12_closes : sm_MD := (yX12_closes, cX12_closes, 2, none)
theorem mf_X12_closes : sm_MF mX12_closes 1 := ⟨(sm_t7 127 (by decide +kernel)), (sm_t1 17 (by decide +kernel)), ⟨by decide +kernel, by decide +kernel⟩, by decide +kernel, by decide⟩
abbrev mX12_comeHome : sm_MD := (yX12_comeHome, cX12_comeHome, 4, (some .boolean))
theorem mf_X12_comeHome : sm_MF mX12_comeHome 1 := ⟨(sm_t8 165 (by decide +kernel)), (sm_t1 17 (by decide +kernel)), ⟨by decide +kernel, by decide +kernel⟩, by decide +kernel, by decide⟩
abbrev mX12_compare : sm_MD := (yX12_compare, cX12_compare, 2, none)
theorem mf_X12_compare : sm_MF mX12_compare 0 := ⟨(sm_t7 150 (by decide +kernel)), (sm_t1 17 (by decide +kernel)), ⟨by decide +kernel, by decide +kernel⟩, by decide +kernel, by decide⟩
abbrev mX12_condition : sm_MD := (yX12_condition, cX12_condition, 1, none)
theorem mf_X12_condition : sm_MF mX12_condition 0 := ⟨(sm_t7 111 (by decide +kernel)), (sm_t1 17 (by decide +kernel)), ⟨by decide +kernel, by decide +kernel⟩, by decide +kernel, by decide⟩
abbrev mX12_count : sm_MD := (yX12_count, cX12_count, 2, (some .int))
theorem mf_X12_count : sm_MF mX12_count 1 := ⟨(sm_t8 218 (by decide +kernel)), (sm_t1 17 (by decide +kernel)), ⟨by decide +kernel, by decide +kernel⟩, by decide +kernel, by decide⟩
abbrev mX12_culprit : sm_MD := (yX12_culprit, cX12_culprit, 4, (some .int))
theorem mf_X12_culprit : sm_MF mX12_culprit 1 := ⟨(sm_t8 185 (by decide +kernel)), (sm_t1 17 (by decide +kernel)), ⟨by decide +kernel, by decide +kernel⟩, by decide +kernel, by decide⟩
abbrev mX12_digit : sm_MD := (yX12_digit, cX12_digit, 4, (some .int))
theorem mf_X12_digit : sm_MF mX12_digit 2 := ⟨(sm_t7 67 (by decide +kernel)), (sm_t1 17 (by decide +kernel)), ⟨by decide +kernel, by decide +kernel⟩, by decide +kernel, by decide⟩
abbrev mX12_draw : sm_MD := (yX12_draw, cX12_draw, 1, (some .int))
theorem mf_X12_draw : sm_MF mX12_draw 0 := ⟨(sm_t8 9 (by decide +kernel)), (sm_t1 17 (by decide +kernel)), ⟨by decide +kernel, by decide +kernel⟩, by decide +kernel, by decide⟩
abbrev mX12_elsewhere : sm_MD := (yX12_elsewhere, cX12_elsewhere, 3, (some .int))
theorem mf_X12_elsewhere : sm_MF mX12_elsewhere 0 := ⟨(sm_t8 181 (by decide +kernel)), (sm_t1 17 (by decide +kernel)), ⟨by decide +kernel, by decide +kernel⟩, by decide +kernel, by decide⟩
abbrev mX12_empty : sm_MD := (yX12_empty, cX12_empty, 5, (some .int))
theorem mf_X12_empty : sm_MF mX12_empty 2 := ⟨(sm_t8 86 (by decide +kernel)), (sm_t1 17 (by decide +kernel)), ⟨by decide +kernel, by decide +kernel⟩, by decide +kernel, by decide⟩
abbrev mX12_end : sm_MD := (yX12_end, cX12_end, 2, (some .boolean))
theorem mf_X12_end : sm_MF mX12_end 1 := ⟨(sm_t7 43 (by decide +kernel)), (sm_t1 17 (by decide +kernel)), ⟨by decide +kernel, by decide +kernel⟩, by decide +kernel, by decide⟩
abbrev mX12_fault : sm_MD := (yX12_fault, cX12_fault, 2, (some .int))
theorem mf_X12_fault : sm_MF mX12_fault 1 := ⟨(sm_t7 47 (by decide +kernel)), (sm_t1 17 (by decide +kernel)), ⟨by decide +kernel, by decide +kernel⟩, by decide +kernel, by decide⟩
abbrev mX12_feed : sm_MD := (yX12_feed, cX12_feed, 9, (some .int))
theorem mf_X12_feed : sm_MF mX12_feed 5 := ⟨(sm_t7 36 (by decide +kernel)), (sm_t1 17 (by decide +kernel)), ⟨by decide +kernel, by decide +kernel⟩, by decide +kernel, by decide⟩
abbrev mX12_fits : sm_MD := (yX12_fits, cX12_fits, 2, (some .int))
theorem mf_X12_fits : sm_MF mX12_fits 1 := ⟨(sm_t8 107 (by decide +kernel)), (sm_t1 17 (by decide +kernel)), ⟨by decide +kernel, by decide +kernel⟩, by decide +kernel, by decide⟩
abbrev mX12_fitsOf : sm_MD := (yX12_fitsOf, cX12_fitsOf, 4, (some .int))
theorem mf_X12_fitsOf : sm_MF mX12_fitsOf 1 := ⟨(sm_t8 111 (by decide +kernel)), (sm_t1 17 (by decide +kernel)), ⟨by decide +kernel, by decide +kernel⟩, by decide +kernel, by decide⟩
abbrev mX12_fullest : sm_MD := (yX12_fullest, cX12_fullest, 8, (some .int))
theorem mf_X12_fullest : sm_MF mX12_fullest 2 := ⟨(sm_t8 202 (by decide +kernel)), (sm_t1 17 (by decide +kernel)), ⟨by decide +kernel, by decide +kernel⟩, by decide +kernel, by decide⟩
abbrev mX12_goOnAnd : sm_MD := (yX12_goOnAnd, cX12_goOnAnd, 1, none)
theorem mf_X12_goOnAnd : sm_MF mX12_goOnAnd 0 := ⟨(sm_t7 157 (by decide +kernel)), (sm_t1 17 (by decide +kernel)), ⟨by decide +kernel, by decide +kernel⟩, by decide +kernel, by decide⟩
abbrev mX12_goOnOr : sm_MD := (yX12_goOnOr, cX12_goOnOr, 1, none)
theorem mf_X12_goOnOr : sm_MF mX12_goOnOr 0 := ⟨(sm_t7 161 (by decide +kernel)), (sm_t1 17 (by decide +kernel)), ⟨by decide +kernel, by decide +kernel⟩, by decide +kernel, by decide⟩
abbrev mX12_guest : sm_MD := (yX12_guest, cX12_guest, 9, (some .int))
theorem mf_X12_guest : sm_MF mX12_guest 4 := ⟨(sm_t8 189 (by decide +kernel)), (sm_t1 17 (by decide +kernel)), ⟨by decide +kernel, by decide +kernel⟩, by decide +kernel, by decide⟩
abbrev mX12_has : sm_MD := (yX12_has, cX12_has, 2, (some .boolean))
theorem mf_X12_has : sm_MF mX12_has 2 := ⟨(sm_t7 83 (by decide +kernel)), (sm_t1 17 (by decide +kernel)), ⟨by decide +kernel, by decide +kernel⟩, by decide +kernel, by decide⟩
abbrev mX12_here : sm_MD := (yX12_here, cX12_here, 1, (some .int))
theorem mf_X12_here : sm_MF mX12_here 0 := ⟨(sm_t7 59 (by decide +kernel)), (sm_t1 17 (by decide +kernel)), ⟨by decide +kernel, by decide +kernel⟩, by decide +kernel, by decide⟩
abbrev mX12_highest : sm_MD := (yX12_highest, cX12_highest, 2, (some .int))
theorem mf_X12_highest : sm_MF mX12_highest 1 := ⟨(sm_t7 87 (by decide +kernel)), (sm_t1 17 (by decide +kernel)), ⟨by decide +kernel, by decide +kernel⟩, by decide +kernel, by decide⟩
abbrev mX12_homing : sm_MD := (yX12_homing, cX12_homing, 12, (some .int))
theorem mf_X12_homing : sm_MF mX12_homing 2 := ⟨(sm_t8 161 (by decide +kernel)), (sm_t1 17 (by decide +kernel)), ⟨by decide +kernel, by decide +kernel⟩, by decide +kernel, by decide⟩
abbrev mX12_house : sm_MD := (yX12_house, cX12_house, 3, (some .int))
theorem mf_X12_house : sm_MF mX12_house 2 := ⟨(sm_t7 197 (by decide +kernel)), (sm_t1 17 (by decide +kernel)), ⟨by decide +kernel, by decide +kernel⟩, by decide +kernel, by decide⟩
abbrev mX12_image : sm_MD := (yX12_image, cX12_image, 2, (some .int))
theorem mf_X12_image : sm_MF mX12_image 0 := ⟨(sm_t8 210 (by decide +kernel)), (sm_t1 17 (by decide +kernel)), ⟨by decide +kernel, by decide +kernel⟩, by decide +kernel, by decide⟩
abbrev mX12_in : sm_MD := (yX12_in, cX12_in, 3, (some .boolean))
theorem mf_X12_in : sm_MF mX12_in 3 := ⟨(sm_t7 70 (by decide +kernel)), (sm_t1 17 (by decide +kernel)), ⟨by decide +kernel, by decide +kernel⟩, by decide +kernel, by decide⟩
abbrev mX12_isDigit : sm_MD := (yX12_isDigit, cX12_isDigit, 1, (some .boolean))
theorem mf_X12_isDigit : sm_MF mX12_isDigit 1 := ⟨(sm_t7 73 (by decide +kernel)), (sm_t1 17 (by decide +kernel)), ⟨by decide +kernel, by decide +kernel⟩, by decide +kernel, by decide⟩
abbrev mX12_isFull : sm_MD := (yX12_isFull, cX12_isFull, 2, (some .boolean))
theorem mf_X12_isFull : sm_MF mX12_isFull 1 := ⟨(sm_t7 233 (by decide +kernel)), (sm_t1 17 (by decide +kernel)), ⟨by decide +kernel, by decide +kernel⟩, by decide +kernel, by decide⟩
abbrev mX12_isHouse : sm_MD := (yX12_isHouse, cX12_isHouse, 2, (some .boolean))
theorem mf_X12_isHouse : sm_MF mX12_isHouse 1 := ⟨(sm_t7 201 (by decide +kernel)), (sm_t1 17 (by decide +kernel)), ⟨by decide +kernel, by decide +kernel⟩, by decide +kernel, by decide⟩
abbrev mX12_isSign : sm_MD := (yX12_isSign, cX12_isSign, 1, (some .boolean))
theorem mf_X12_isSign : sm_MF mX12_isSign 1 := ⟨(sm_t7 153 (by decide +kernel)), (sm_t1 17 (by decide +kernel)), ⟨by decide +kernel, by decide +kernel⟩, by decide +kernel, by decide⟩
abbrev mX12_isSleeper : sm_MD := (yX12_isSleeper, cX12_isSleeper, 2, (some .boolean))
theorem mf_X12_isSleeper : sm_MF mX12_isSleeper 1 := ⟨(sm_t7 181 (by decide +kernel)), (sm_t1 17 (by decide +kernel)), ⟨by decide +kernel, by decide +kernel⟩, by decide +kernel, by decide⟩
abbrev mX12_isThing : sm_MD := (yX12_isThing, cX12_isThing, 2, (some .boolean))
theorem mf_X12_isThing : sm_MF mX12_isThing 1 := ⟨(sm_t7 193 (by decide +kernel)), (sm_t1 17 (by decide +kernel)), ⟨by decide +kernel, by decide +kernel⟩, by decide +kernel, by decide⟩
abbrev mX12_keep : sm_MD := (yX12_keep, cX12_keep, 2, none)
theorem mf_X12_keep : sm_MF mX12_keep 0 := ⟨(sm_t8 5 (by decide +kernel)), (sm_t1 17 (by decide +kernel)), ⟨by decide +kernel, by decide +kernel⟩, by decide +kernel, by decide⟩
abbrev mX12_keepWalk : sm_MD := (yX12_keepWalk, cX12_keepWalk, 3, none)
theorem mf_X12_keepWalk : sm_MF mX12_keepWalk 1 := ⟨(sm_t8 145 (by decide +kernel)), (sm_t1 17 (by decide +kernel)), ⟨by decide +kernel, by decide +kernel⟩, by decide +kernel, by decide⟩
abbrev mX12_kindsOf : sm_MD := (yX12_kindsOf, cX12_kindsOf, 6, (some .int))
theorem mf_X12_kindsOf : sm_MF mX12_kindsOf 3 := ⟨(sm_t8 131 (by decide +kernel)), (sm_t1 17 (by decide +kernel)), ⟨by decide +kernel, by decide +kernel⟩, by decide +kernel, by decide⟩
abbrev mX12_letterOf : sm_MD := (yX12_letterOf, cX12_letterOf, 1, (some .int))
theorem mf_X12_letterOf : sm_MF mX12_letterOf 1 := ⟨(sm_t7 146 (by decide +kernel)), (sm_t1 17 (by decide +kernel)), ⟨by decide +kernel, by decide +kernel⟩, by decide +kernel, by decide⟩
abbrev mX12_lock : sm_MD := (yX12_lock, cX12_lock, 3, (some .boolean))
theorem mf_X12_lock : sm_MF mX12_lock 2 := ⟨(sm_t7 225 (by decide +kernel)), (sm_t1 17 (by decide +kernel)), ⟨by decide +kernel, by decide +kernel⟩, by decide +kernel, by decide⟩
abbrev mX12_look : sm_MD := (yX12_look, cX12_look, 1, (some .int))
theorem mf_X12_look : sm_MF mX12_look 0 := ⟨(sm_t7 55 (by decide +kernel)), (sm_t1 17 (by decide +kernel)), ⟨by decide +kernel, by decide +kernel⟩, by decide +kernel, by decide⟩
abbrev mX12_met : sm_MD := (yX12_met, cX12_met, 8, (some .int))
theorem mf_X12_met : sm_MF mX12_met 4 := ⟨(sm_t8 90 (by decide +kernel)), (sm_t1 17 (by decide +kernel)), ⟨by decide +kernel, by decide +kernel⟩, by decide +kernel, by decide⟩
abbrev mX12_moon : sm_MD := (yX12_moon, cX12_moon, 2, (some .int))
theorem mf_X12_moon : sm_MF mX12_moon 1 := ⟨(sm_t7 229 (by decide +kernel)), (sm_t1 17 (by decide +kernel)), ⟨by decide +kernel, by decide +kernel⟩, by decide +kernel, by decide⟩
abbrev mX12_moonText : sm_MD := (yX12_moonText, cX12_moonText, 4, none)
theorem mf_X12_moonText : sm_MF mX12_moonText 0 := ⟨(sm_t7 95 (by decide +kernel)), (sm_t1 17 (by decide +kernel)), ⟨by decide +kernel, by decide +kernel⟩, by decide +kernel, by decide⟩
abbrev mX12_nights : sm_MD := (yX12_nights, cX12_nights, 5, (some .int))
theorem mf_X12_nights : sm_MF mX12_nights 1 := ⟨(sm_t7 237 (by decide +kernel)), (sm_t1 17 (by decide +kernel)), ⟨by decide +kernel, by decide +kernel⟩, by decide +kernel, by decide⟩
abbrev mX12_note : sm_MD := (yX12_note, cX12_note, 3, none)
theorem mf_X12_note : sm_MF mX12_note 2 := ⟨(sm_t7 123 (by decide +kernel)), (sm_t1 17 (by decide +kernel)), ⟨by decide +kernel, by decide +kernel⟩, by decide +kernel, by decide⟩
abbrev mX12_noteEnds : sm_MD := (yX12_noteEnds, cX12_noteEnds, 3, none)
theorem mf_X12_noteEnds : sm_MF mX12_noteEnds 1 := ⟨(sm_t8 173 (by decide +kernel)), (sm_t1 17 (by decide +kernel)), ⟨by decide +kernel, by decide +kernel⟩, by decide +kernel, by decide⟩
abbrev mX12_odds : sm_MD := (yX12_odds, cX12_odds, 7, (some .int))
theorem mf_X12_odds : sm_MF mX12_odds 3 := ⟨(sm_t8 136 (by decide +kernel)), (sm_t1 17 (by decide +kernel)), ⟨by decide +kernel, by decide +kernel⟩, by decide +kernel, by decide⟩
abbrev mX12_oddsFrom : sm_MD := (yX12_oddsFrom, cX12_oddsFrom, 13, (some .long))
theorem mf_X12_oddsFrom : sm_MF mX12_oddsFrom 5 := ⟨(sm_t8 141 (by decide +kernel)), (sm_t1 17 (by decide +kernel)), ⟨by decide +kernel, by decide +kernel⟩, by decide +kernel, by decide⟩
abbrev mX12_of : sm_MD := (yX12_of, cX12_of, 3, (some .int))
theorem mf_X12_of : sm_MF mX12_of 2 := ⟨(sm_t7 185 (by decide +kernel)), (sm_t1 17 (by decide +kernel)), ⟨by decide +kernel, by decide +kernel⟩, by decide +kernel, by decide⟩
abbrev mX12_open : sm_MD := (yX12_open, cX12_open, 2, none)
theorem mf_X12_open : sm_MF mX12_open 1 := ⟨(sm_t7 103 (by decide +kernel)), (sm_t1 17 (by decide +kernel)), ⟨by decide +kernel, by decide +kernel⟩, by decide +kernel, by decide⟩
abbrev mX12_opens : sm_MD := (yX12_opens, cX12_opens, 1, none)
theorem mf_X12_opens : sm_MF mX12_opens 0 := ⟨(sm_t7 119 (by decide +kernel)), (sm_t1 17 (by decide +kernel)), ⟨by decide +kernel, by decide +kernel⟩, by decide +kernel, by decide⟩
abbrev mX12_ownStride : sm_MD := (yX12_ownStride, cX12_ownStride, 3, (some .int))
theorem mf_X12_ownStride : sm_MF mX12_ownStride 2 := ⟨(sm_t8 20 (by decide +kernel)), (sm_t1 17 (by decide +kernel)), ⟨by decide +kernel, by decide +kernel⟩, by decide +kernel, by decide⟩
abbrev mX12_pairs : sm_MD := (yX12_pairs, cX12_pairs, 5, (some .int))
theorem mf_X12_pairs : sm_MF mX12_pairs 2 := ⟨(sm_t8 119 (by decide +kernel)), (sm_t1 17 (by decide +kernel)), ⟨by decide +kernel, by decide +kernel⟩, by decide +kernel, by decide⟩
abbrev mX12_path : sm_MD := (yX12_path, cX12_path, 8, (some .int))
theorem mf_X12_path : sm_MF mX12_path 3 := ⟨(sm_t8 193 (by decide +kernel)), (sm_t1 17 (by decide +kernel)), ⟨by decide +kernel, by decide +kernel⟩, by decide +kernel, by decide⟩
abbrev mX12_plainNumber : sm_MD := (yX12_plainNumber, cX12_plainNumber, 3, (some .int))
theorem mf_X12_plainNumber : sm_MF mX12_plainNumber 0 := ⟨(sm_t7 143 (by decide +kernel)), (sm_t1 17 (by decide +kernel)), ⟨by decide +kernel, by decide +kernel⟩, by decide +kernel, by decide⟩
abbrev mX12_put : sm_MD := (yX12_put, cX12_put, 3, (some .boolean))
theorem mf_X12_put : sm_MF mX12_put 2 := ⟨(sm_t7 221 (by decide +kernel)), (sm_t1 17 (by decide +kernel)), ⟨by decide +kernel, by decide +kernel⟩, by decide +kernel, by decide⟩
abbrev mX12_putAside : sm_MD := (yX12_putAside, cX12_putAside, 2, none)
theorem mf_X12_putAside : sm_MF mX12_putAside 0 := ⟨(sm_t8 62 (by decide +kernel)), (sm_t1 17 (by decide +kernel)), ⟨by decide +kernel, by decide +kernel⟩, by decide +kernel, by decide⟩
abbrev mX12_quiet : sm_MD := (yX12_quiet, cX12_quiet, 3, (some .int))
theorem mf_X12_quiet : sm_MF mX12_quiet 2 := ⟨(sm_t8 169 (by decide +kernel)), (sm_t1 17 (by decide +kernel)), ⟨by decide +kernel, by decide +kernel⟩, by decide +kernel, by decide⟩
abbrev mX12_quietOf : sm_MD := (yX12_quietOf, cX12_quietOf, 4, (some .int))
theorem mf_X12_quietOf : sm_MF mX12_quietOf 2 := ⟨(sm_t8 177 (by decide +kernel)), (sm_t1 17 (by decide +kernel)), ⟨by decide +kernel, by decide +kernel⟩, by decide +kernel, by decide⟩
abbrev mX12_readLaw : sm_MD := (yX12_readLaw, cX12_readLaw, 2, (some .int))
theorem mf_X12_readLaw : sm_MF mX12_readLaw 1 := ⟨(sm_t7 99 (by decide +kernel)), (sm_t1 17 (by decide +kernel)), ⟨by decide +kernel, by decide +kernel⟩, by decide +kernel, by decide⟩
abbrev mX12_readStreet : sm_MD := (yX12_readStreet, cX12_readStreet, 2, (some .int))
theorem mf_X12_readStreet : sm_MF mX12_readStreet 0 := ⟨(sm_t7 51 (by decide +kernel)), (sm_t1 17 (by decide +kernel)), ⟨by decide +kernel, by decide +kernel⟩, by decide +kernel, by decide⟩
abbrev mX12_risk : sm_MD := (yX12_risk, cX12_risk, 2, (some .boolean))
theorem mf_X12_risk : sm_MF mX12_risk 1 := ⟨(sm_t7 213 (by decide +kernel)), (sm_t1 17 (by decide +kernel)), ⟨by decide +kernel, by decide +kernel⟩, by decide +kernel, by decide⟩
abbrev mX12_round : sm_MD := (yX12_round, cX12_round, 6, (some .int))
theorem mf_X12_round : sm_MF mX12_round 1 := ⟨(sm_t8 95 (by decide +kernel)), (sm_t1 17 (by decide +kernel)), ⟨by decide +kernel, by decide +kernel⟩, by decide +kernel, by decide⟩
abbrev mX12_rule : sm_MD := (yX12_rule, cX12_rule, 3, (some .boolean))
theorem mf_X12_rule : sm_MF mX12_rule 2 := ⟨(sm_t7 209 (by decide +kernel)), (sm_t1 17 (by decide +kernel)), ⟨by decide +kernel, by decide +kernel⟩, by decide +kernel, by decide⟩
abbrev mX12_see : sm_MD := (yX12_see, cX12_see, 5, (some .int))
theorem mf_X12_see : sm_MF mX12_see 4 := ⟨(sm_t8 103 (by decide +kernel)), (sm_t1 17 (by decide +kernel)), ⟨by decide +kernel, by decide +kernel⟩, by decide +kernel, by decide⟩
abbrev mX12_seed : sm_MD := (yX12_seed, cX12_seed, 3, (some .boolean))
theorem mf_X12_seed : sm_MF mX12_seed 1 := ⟨(sm_t7 217 (by decide +kernel)), (sm_t1 17 (by decide +kernel)), ⟨by decide +kernel, by decide +kernel⟩, by decide +kernel, by decide⟩
abbrev mX12_sleeper : sm_MD := (yX12_sleeper, cX12_sleeper, 3, (some .int))
theorem mf_X12_sleeper : sm_MF mX12_sleeper 2 := ⟨(sm_t7 177 (by decide +kernel)), (sm_t1 17 (by decide +kernel)), ⟨by decide +kernel, by decide +kernel⟩, by decide +kernel, by decide⟩
abbrev mX12_sleeperItem : sm_MD := (yX12_sleeperItem, cX12_sleeperItem, 1, (some .int))
theorem mf_X12_sleeperItem : sm_MF mX12_sleeperItem 1 := ⟨(sm_t7 80 (by decide +kernel)), (sm_t1 17 (by decide +kernel)), ⟨by decide +kernel, by decide +kernel⟩, by decide +kernel, by decide⟩
abbrev mX12_sleeperText : sm_MD := (yX12_sleeperText, cX12_sleeperText, 4, none)
theorem mf_X12_sleeperText : sm_MF mX12_sleeperText 0 := ⟨(sm_t7 77 (by decide +kernel)), (sm_t1 17 (by decide +kernel)), ⟨by decide +kernel, by decide +kernel⟩, by decide +kernel, by decide⟩
abbrev mX12_span : sm_MD := (yX12_span, cX12_span, 7, (some .int))
theorem mf_X12_span : sm_MF mX12_span 2 := ⟨(sm_t8 197 (by decide +kernel)), (sm_t1 17 (by decide +kernel)), ⟨by decide +kernel, by decide +kernel⟩, by decide +kernel, by decide⟩
abbrev mX12_stand : sm_MD := (yX12_stand, cX12_stand, 3, (some .int))
theorem mf_X12_stand : sm_MF mX12_stand 0 := ⟨(sm_t8 99 (by decide +kernel)), (sm_t1 17 (by decide +kernel)), ⟨by decide +kernel, by decide +kernel⟩, by decide +kernel, by decide⟩
abbrev mX12_stay : sm_MD := (yX12_stay, cX12_stay, 6, (some .int))
theorem mf_X12_stay : sm_MF mX12_stay 2 := ⟨(sm_t8 153 (by decide +kernel)), (sm_t1 17 (by decide +kernel)), ⟨by decide +kernel, by decide +kernel⟩, by decide +kernel, by decide⟩
abbrev mX12_stays : sm_MD := (yX12_stays, cX12_stays, 5, (some .boolean))
theorem mf_X12_stays : sm_MF mX12_stays 2 := ⟨(sm_t8 157 (by decide +kernel)), (sm_t1 17 (by decide +kernel)), ⟨by decide +kernel, by decide +kernel⟩, by decide +kernel, by decide⟩
abbrev mX12_sum : sm_MD := (yX12_sum, cX12_sum, 2, none)
theorem mf_X12_sum : sm_MF mX12_sum 0 := ⟨(sm_t7 131 (by decide +kernel)), (sm_t1 17 (by decide +kernel)), ⟨by decide +kernel, by decide +kernel⟩, by decide +kernel, by decide⟩
abbrev mX12_takeBack : sm_MD := (yX12_takeBack, cX12_takeBack, 2, none)
theorem mf_X12_takeBack : sm_MF mX12_takeBack 0 := ⟨(sm_t8 74 (by decide +kernel)), (sm_t1 17 (by decide +kernel)), ⟨by decide +kernel, by decide +kernel⟩, by decide +kernel, by decide⟩
abbrev mX12_takeStreet : sm_MD := (yX12_takeStreet, cX12_takeStreet, 2, (some .int))
theorem mf_X12_takeStreet : sm_MF mX12_takeStreet 0 := ⟨(sm_t7 173 (by decide +kernel)), (sm_t1 17 (by decide +kernel)), ⟨by decide +kernel, by decide +kernel⟩, by decide +kernel, by decide⟩
abbrev mX12_takeWalk : sm_MD := (yX12_takeWalk, cX12_takeWalk, 3, none)
theorem mf_X12_takeWalk : sm_MF mX12_takeWalk 1 := ⟨(sm_t8 149 (by decide +kernel)), (sm_t1 17 (by decide +kernel)), ⟨by decide +kernel, by decide +kernel⟩, by decide +kernel, by decide⟩
abbrev mX12_takenFrom : sm_MD := (yX12_takenFrom, cX12_takenFrom, 4, (some .int))
theorem mf_X12_takenFrom : sm_MF mX12_takenFrom 2 := ⟨(sm_t8 48 (by decide +kernel)), (sm_t1 17 (by decide +kernel)), ⟨by decide +kernel, by decide +kernel⟩, by decide +kernel, by decide⟩
abbrev mX12_term : sm_MD := (yX12_term, cX12_term, 2, none)
theorem mf_X12_term : sm_MF mX12_term 0 := ⟨(sm_t7 135 (by decide +kernel)), (sm_t1 17 (by decide +kernel)), ⟨by decide +kernel, by decide +kernel⟩, by decide +kernel, by decide⟩
abbrev mX12_test : sm_MD := (yX12_test, cX12_test, 10, (some .int))
theorem mf_X12_test : sm_MF mX12_test 3 := ⟨(sm_t8 127 (by decide +kernel)), (sm_t1 17 (by decide +kernel)), ⟨by decide +kernel, by decide +kernel⟩, by decide +kernel, by decide⟩
abbrev mX12_text : sm_MD := (yX12_text, cX12_text, 2, (some .int))
theorem mf_X12_text : sm_MF mX12_text 1 := ⟨(sm_t7 169 (by decide +kernel)), (sm_t1 17 (by decide +kernel)), ⟨by decide +kernel, by decide +kernel⟩, by decide +kernel, by decide⟩
abbrev mX12_thing : sm_MD := (yX12_thing, cX12_thing, 3, (some .int))
theorem mf_X12_thing : sm_MF mX12_thing 2 := ⟨(sm_t7 189 (by decide +kernel)), (sm_t1 17 (by decide +kernel)), ⟨by decide +kernel, by decide +kernel⟩, by decide +kernel, by decide⟩
abbrev mX12_thingText : sm_MD := (yX12_thingText, cX12_thingText, 1, none)
theorem mf_X12_thingText : sm_MF mX12_thingText 0 := ⟨(sm_t7 91 (by decide +kernel)), (sm_t1 17 (by decide +kernel)), ⟨by decide +kernel, by decide +kernel⟩, by decide +kernel, by decide⟩
abbrev mX12_thingsIn : sm_MD := (yX12_thingsIn, cX12_thingsIn, 4, (some .int))
theorem mf_X12_thingsIn : sm_MF mX12_thingsIn 1 := ⟨(sm_t7 205 (by decide +kernel)), (sm_t1 17 (by decide +kernel)), ⟨by decide +kernel, by decide +kernel⟩, by decide +kernel, by decide⟩
abbrev mX12_thrown : sm_MD := (yX12_thrown, cX12_thrown, 1, (some .int))
theorem mf_X12_thrown : sm_MF mX12_thrown 0 := ⟨(sm_t7 32 (by decide +kernel)), (sm_t1 17 (by decide +kernel)), ⟨by decide +kernel, by decide +kernel⟩, by decide +kernel, by decide⟩
abbrev mX12_touched : sm_MD := (yX12_touched, cX12_touched, 6, (some .int))
theorem mf_X12_touched : sm_MF mX12_touched 2 := ⟨(sm_t8 82 (by decide +kernel)), (sm_t1 17 (by decide +kernel)), ⟨by decide +kernel, by decide +kernel⟩, by decide +kernel, by decide⟩
abbrev mX12_undo : sm_MD := (yX12_undo, cX12_undo, 2, (some .int))
theorem mf_X12_undo : sm_MF mX12_undo 0 := ⟨(sm_t8 54 (by decide +kernel)), (sm_t1 17 (by decide +kernel)), ⟨by decide +kernel, by decide +kernel⟩, by decide +kernel, by decide⟩
abbrev mX12_unit : sm_MD := (yX12_unit, cX12_unit, 2, none)
theorem mf_X12_unit : sm_MF mX12_unit 0 := ⟨(sm_t7 115 (by decide +kernel)), (sm_t1 17 (by decide +kernel)), ⟨by decide +kernel, by decide +kernel⟩, by decide +kernel, by decide⟩
abbrev mX12_walk : sm_MD := (yX12_walk, cX12_walk, 11, (some .int))
theorem mf_X12_walk : sm_MF mX12_walk 3 := ⟨(sm_t8 16 (by decide +kernel)), (sm_t1 17 (by decide +kernel)), ⟨by decide +kernel, by decide +kernel⟩, by decide +kernel, by decide⟩
abbrev mX12_where : sm_MD := (yX12_where, cX12_where, 4, (some .int))
theorem mf_X12_where : sm_MF mX12_where 2 := ⟨(sm_t8 58 (by decide +kernel)), (sm_t1 17 (by decide +kernel)), ⟨by decide +kernel, by decide +kernel⟩, by decide +kernel, by decide⟩
abbrev mX12_workOut : sm_MD := (yX12_workOut, cX12_workOut, 6, (some .int))
theorem mf_X12_workOut : sm_MF mX12_workOut 3 := ⟨(sm_t8 29 (by decide +kernel)), (sm_t1 17 (by decide +kernel)), ⟨by decide +kernel, by decide +kernel⟩, by decide +kernel, by decide⟩
abbrev mX12_worked : sm_MD := (yX12_worked, cX12_worked, 5, (some .int))
theorem mf_X12_worked : sm_MF mX12_worked 3 := ⟨(sm_t8 32 (by decide +kernel)), (sm_t1 17 (by decide +kernel)), ⟨by decide +kernel, by decide +kernel⟩, by decide +kernel, by decide⟩
abbrev mX12_worthOf : sm_MD := (yX12_worthOf, cX12_worthOf, 3, (some .int))
theorem mf_X12_worthOf : sm_MF mX12_worthOf 1 := ⟨(sm_t8 25 (by decide +kernel)), (sm_t1 17 (by decide +kernel)), ⟨by decide +kernel, by decide +kernel⟩, by decide +kernel, by decide⟩
abbrev mJ6_bitCount_0f7a4 : sm_MD := (yJ6_bitCount_0f7a4, cJ6_bitCount_0f7a4, 1, (some .int))
theorem mf_J6_bitCount_0f7a4 : sm_MF mJ6_bitCount_0f7a4 1 := ⟨(sm_t4 228 (by decide +kernel)), (sm_t1 31 (by decide +kernel)), ⟨by decide +kernel, by decide +kernel⟩, by decide +kernel, by decide⟩
abbrev mJ6_numberOfLeadingZeros_0f7a4 : sm_MD := (yJ6_numberOfLeadingZeros_0f7a4, cJ6_numberOfLeadingZeros_0f7a4, 2, (some .int))
theorem mf_J6_numberOfLeadingZeros_0f7a4 : sm_MF mJ6_numberOfLeadingZeros_0f7a4 1 := ⟨(sm_t5 34 (by decide +kernel)), (sm_t1 31 (by decide +kernel)), ⟨by decide +kernel, by decide +kernel⟩, by decide +kernel, by decide⟩
abbrev mJ6_numberOfTrailingZeros_0f7a4 : sm_MD := (yJ6_numberOfTrailingZeros_0f7a4, cJ6_numberOfTrailingZeros_0f7a4, 2, (some .int))
theorem mf_J6_numberOfTrailingZeros_0f7a4 : sm_MF mJ6_numberOfTrailingZeros_0f7a4 1 := ⟨(sm_t5 30 (by decide +kernel)), (sm_t1 31 (by decide +kernel)), ⟨by decide +kernel, by decide +kernel⟩, by decide +kernel, by decide⟩
abbrev mJ9_floorMod_7cf53 : sm_MD := (yJ9_floorMod_7cf53, cJ9_floorMod_7cf53, 3, (some .int))
theorem mf_J9_floorMod_7cf53 : sm_MF mJ9_floorMod_7cf53 2 := ⟨(sm_t5 22 (by decide +kernel)), (sm_t1 4 (by decide +kernel)), ⟨by decide +kernel, by decide +kernel⟩, by decide +kernel, by decide⟩
abbrev mJ0_coder_7d493 : sm_MD := (yJ0_coder_7d493, cJ0_coder_7d493, 1, (some .byte))
theorem mf_J0_coder_7d493 : sm_MF mJ0_coder_7d493 0 := ⟨(sm_t1 150 (by decide +kernel)), (sm_t1 8 (by decide +kernel)), ⟨by decide +kernel, by decide +kernel⟩, by decide +kernel, by decide⟩
abbrev mJ0_indexOf_0f7a4 : sm_MD := (yJ0_indexOf_0f7a4, cJ0_indexOf_0f7a4, 2, (some .int))
theorem mf_J0_indexOf_0f7a4 : sm_MF mJ0_indexOf_0f7a4 1 := ⟨(sm_t3 48 (by decide +kernel)), (sm_t1 8 (by decide +kernel)), ⟨by decide +kernel, by decide +kernel⟩, by decide +kernel, by decide⟩
abbrev mJ0_indexOf_7cf53 : sm_MD := (yJ0_indexOf_7cf53, cJ0_indexOf_7cf53, 3, (some .int))
theorem mf_J0_indexOf_7cf53 : sm_MF mJ0_indexOf_7cf53 2 := ⟨(sm_t3 52 (by decide +kernel)), (sm_t1 8 (by decide +kernel)), ⟨by decide +kernel, by decide +kernel⟩, by decide +kernel, by decide⟩
abbrev mJ0_isLatin1_aae02 : sm_MD := (yJ0_isLatin1_aae02, cJ0_isLatin1_aae02, 1, (some .boolean))
theorem mf_J0_isLatin1_aae02 : sm_MF mJ0_isLatin1_aae02 0 := ⟨(sm_t3 56 (by decide +kernel)), (sm_t1 8 (by decide +kernel)), ⟨by decide +kernel, by decide +kernel⟩, by decide +kernel, by decide⟩
abbrev mJ0_length_8abf5 : sm_MD := (yJ0_length_8abf5, cJ0_length_8abf5, 1, (some .int))
theorem mf_J0_length_8abf5 : sm_MF mJ0_length_8abf5 0 := ⟨(sm_t1 146 (by decide +kernel)), (sm_t1 8 (by decide +kernel)), ⟨by decide +kernel, by decide +kernel⟩, by decide +kernel, by decide⟩
abbrev mJ1_canEncode_9a6ad : sm_MD := (yJ1_canEncode_9a6ad, cJ1_canEncode_9a6ad, 1, (some .boolean))
theorem mf_J1_canEncode_9a6ad : sm_MF mJ1_canEncode_9a6ad 1 := ⟨(sm_t3 63 (by decide +kernel)), (sm_t1 18 (by decide +kernel)), ⟨by decide +kernel, by decide +kernel⟩, by decide +kernel, by decide⟩
abbrev mJ1_indexOf_4cfef : sm_MD := (yJ1_indexOf_4cfef, cJ1_indexOf_4cfef, 4, (some .int))
theorem mf_J1_indexOf_4cfef : sm_MF mJ1_indexOf_4cfef 4 := ⟨(sm_t3 60 (by decide +kernel)), (sm_t1 18 (by decide +kernel)), ⟨by decide +kernel, by decide +kernel⟩, by decide +kernel, by decide⟩
abbrev mJ1_indexOfChar_4cfef : sm_MD := (yJ1_indexOfChar_4cfef, cJ1_indexOfChar_4cfef, 6, (some .int))
theorem mf_J1_indexOfChar_4cfef : sm_MF mJ1_indexOfChar_4cfef 4 := ⟨(sm_t3 70 (by decide +kernel)), (sm_t1 18 (by decide +kernel)), ⟨by decide +kernel, by decide +kernel⟩, by decide +kernel, by decide⟩
abbrev mJ2_indexOf_4cfef : sm_MD := (yJ2_indexOf_4cfef, cJ2_indexOf_4cfef, 4, (some .int))
theorem mf_J2_indexOf_4cfef : sm_MF mJ2_indexOf_4cfef 4 := ⟨(sm_t3 73 (by decide +kernel)), (sm_t1 19 (by decide +kernel)), ⟨by decide +kernel, by decide +kernel⟩, by decide +kernel, by decide⟩
abbrev mJx4a65c_elementData_915e3 : sm_MD := (yJx4a65c_elementData_915e3, cJx4a65c_elementData_915e3, 2, (some (.object "java/lang/Object")))
theorem mf_Jx4a65c_elementData_915e3 : sm_MF mJx4a65c_elementData_915e3 1 := ⟨(sm_t4 223 (by decide +kernel)), (sm_t1 12 (by decide +kernel)), ⟨by decide +kernel, by decide +kernel⟩, by decide +kernel, by decide⟩
abbrev mJx4a65c_get_915e3 : sm_MD := (yJx4a65c_get_915e3, cJx4a65c_get_915e3, 2, (some (.object "java/lang/Object")))
theorem mf_Jx4a65c_get_915e3 : sm_MF mJx4a65c_get_915e3 1 := ⟨(sm_t4 213 (by decide +kernel)), (sm_t1 12 (by decide +kernel)), ⟨by decide +kernel, by decide +kernel⟩, by decide +kernel, by decide⟩
abbrev mJx4a65c_size_8abf5 : sm_MD := (yJx4a65c_size_8abf5, cJx4a65c_size_8abf5, 1, (some .int))
theorem mf_Jx4a65c_size_8abf5 : sm_MF mJx4a65c_size_8abf5 0 := ⟨(sm_t4 13 (by decide +kernel)), (sm_t1 12 (by decide +kernel)), ⟨by decide +kernel, by decide +kernel⟩, by decide +kernel, by decide⟩
abbrev mJ15_checkIndex_7cf53 : sm_MD := (yJ15_checkIndex_7cf53, cJ15_checkIndex_7cf53, 2, (some .int))
theorem mf_J15_checkIndex_7cf53 : sm_MF mJ15_checkIndex_7cf53 2 := ⟨(sm_t4 216 (by decide +kernel)), (sm_t1 30 (by decide +kernel)), ⟨by decide +kernel, by decide +kernel⟩, by decide +kernel, by decide⟩
abbrev mJ3_checkIndex_8e157 : sm_MD := (yJ3_checkIndex_8e157, cJ3_checkIndex_8e157, 3, (some .int))
theorem mf_J3_checkIndex_8e157 : sm_MF mJ3_checkIndex_8e157 3 := ⟨(sm_t4 219 (by decide +kernel)), (sm_t1 20 (by decide +kernel)), ⟨by decide +kernel, by decide +kernel⟩, by decide +kernel, by decide⟩
theorem ls_X0_156 : sm_LS RX0 156 mJ6_bitCount_0f7a4 1 := ⟨mf_J6_bitCount_0f7a4, (Or.inl (sm_t4 226 (by decide +kernel))), (sm_t4 227 (by decide +kernel))⟩
theorem ls_X0_191 : sm_LS RX0 191 mX11_bitOf 2 := ⟨mf_X11_bitOf, (Or.inr ⟨"SleepMoves", (sm_t5 27 (by decide +kernel))⟩), (sm_t3 126 (by decide +kernel))⟩
theorem ls_X0_194 : sm_LS RX0 194 mJ6_numberOfTrailingZeros_0f7a4 1 := ⟨mf_J6_numberOfTrailingZeros_0f7a4, (Or.inl (sm_t5 28 (by decide +kernel))), (sm_t5 29 (by decide +kernel))⟩
theorem ls_X0_197 : sm_LS RX0 197 mJ6_numberOfLeadingZeros_0f7a4 1 := ⟨mf_J6_numberOfLeadingZeros_0f7a4, (Or.inl (sm_t5 32 (by decide +kernel))), (sm_t5 33 (by decide +kernel))⟩
theorem ls_X0_200 : sm_LS RX0 200 mX11_placed 3 := ⟨mf_X11_placed, (Or.inr ⟨"SleepMoves", (sm_t5 35 (by decide +kernel))⟩), (sm_t3 144 (by decide +kernel))⟩
theorem ls_X0_210 : sm_LS RX0 210 mX11_placeIn 2 := ⟨mf_X11_placeIn, (Or.inr ⟨"SleepMoves", (sm_t5 190 (by decide +kernel))⟩), (sm_t4 101 (by decide +kernel))⟩
theorem ls_X4_45 : sm_LS RX4 45 mX4_joined 3 := ⟨mf_X4_joined, (Or.inl (sm_t5 9 (by decide +kernel))), (sm_t5 10 (by decide +kernel))⟩
theorem ls_X5_54 : sm_LS RX5 54 mX5_isRelation 1 := ⟨mf_X5_isRelation, (Or.inl (sm_t3 203 (by decide +kernel))), (sm_t3 204 (by decide +kernel))⟩
theorem ls_X5_86 : sm_LS RX5 86 mX5_isDigit 1 := ⟨mf_X5_isDigit, (Or.inl (sm_t3 183 (by decide +kernel))), (sm_t3 184 (by decide +kernel))⟩
theorem ls_X6_50 : sm_LS RX6 50 mX11_placeIn 2 := ⟨mf_X11_placeIn, (Or.inr ⟨"SleepMoves", (sm_t5 156 (by decide +kernel))⟩), (sm_t4 101 (by decide +kernel))⟩
theorem ls_X8_66 : sm_LS RX8 66 mX11_placed 3 := ⟨mf_X11_placed, (Or.inr ⟨"SleepMoves", (sm_t3 143 (by decide +kernel))⟩), (sm_t3 144 (by decide +kernel))⟩
theorem ls_X8_70 : sm_LS RX8 70 mX11_within 3 := ⟨mf_X11_within, (Or.inr ⟨"SleepMoves", (sm_t4 99 (by decide +kernel))⟩), (sm_t2 215 (by decide +kernel))⟩
theorem ls_X8_74 : sm_LS RX8 74 mJ9_floorMod_7cf53 2 := ⟨mf_J9_floorMod_7cf53, (Or.inl (sm_t5 20 (by decide +kernel))), (sm_t5 21 (by decide +kernel))⟩
theorem ls_X8_80 : sm_LS RX8 80 mX11_placeIn 2 := ⟨mf_X11_placeIn, (Or.inr ⟨"SleepMoves", (sm_t4 115 (by decide +kernel))⟩), (sm_t4 101 (by decide +kernel))⟩
theorem ls_X8_86 : sm_LS RX8 86 mJ6_bitCount_0f7a4 1 := ⟨mf_J6_bitCount_0f7a4, (Or.inl (sm_t5 119 (by decide +kernel))), (sm_t4 227 (by decide +kernel))⟩
theorem ls_X9_112 : sm_LS RX9 112 mX11_bitOf 2 := ⟨mf_X11_bitOf, (Or.inr ⟨"SleepMoves", (sm_t3 125 (by decide +kernel))⟩), (sm_t3 126 (by decide +kernel))⟩
theorem ls_X9_119 : sm_LS RX9 119 mX11_within 3 := ⟨mf_X11_within, (Or.inr ⟨"SleepMoves", (sm_t3 23 (by decide +kernel))⟩), (sm_t2 215 (by decide +kernel))⟩
theorem ls_X11_105 : sm_LS RX11 105 mX10_bytesIn 1 := ⟨mf_X10_bytesIn, (Or.inl (sm_t2 199 (by decide +kernel))), (sm_t2 200 (by decide +kernel))⟩
theorem ls_X11_115 : sm_LS RX11 115 mX11_within 3 := ⟨mf_X11_within, (Or.inl (sm_t2 214 (by decide +kernel))), (sm_t2 215 (by decide +kernel))⟩
theorem ls_X11_197 : sm_LS RX11 197 mX11_placeIn 2 := ⟨mf_X11_placeIn, (Or.inl (sm_t4 100 (by decide +kernel))), (sm_t4 101 (by decide +kernel))⟩
theorem ls_X11_207 : sm_LS RX11 207 mX11_bitOf 2 := ⟨mf_X11_bitOf, (Or.inl (sm_t4 116 (by decide +kernel))), (sm_t3 126 (by decide +kernel))⟩
theorem ls_X11_242 : sm_LS RX11 242 mX11_placed 3 := ⟨mf_X11_placed, (Or.inl (sm_t4 160 (by decide +kernel))), (sm_t3 144 (by decide +kernel))⟩
theorem ls_X11_276 : sm_LS RX11 276 mX11_firstOf 2 := ⟨mf_X11_firstOf, (Or.inl (sm_t5 97 (by decide +kernel))), (sm_t5 98 (by decide +kernel))⟩
theorem ls_X11_288 : sm_LS RX11 288 mJ6_bitCount_0f7a4 1 := ⟨mf_J6_bitCount_0f7a4, (Or.inl (sm_t5 120 (by decide +kernel))), (sm_t4 227 (by decide +kernel))⟩
theorem ls_X12_115 : sm_LS RX12 115 mX12_byteOf 6 := ⟨mf_X12_byteOf, (Or.inl (sm_t7 37 (by decide +kernel))), (sm_t7 38 (by decide +kernel))⟩
theorem ls_X12_144 : sm_LS RX12 144 mX12_isDigit 1 := ⟨mf_X12_isDigit, (Or.inl (sm_t7 71 (by decide +kernel))), (sm_t7 72 (by decide +kernel))⟩
theorem ls_X12_155 : sm_LS RX12 155 mX12_letterOf 1 := ⟨mf_X12_letterOf, (Or.inl (sm_t7 144 (by decide +kernel))), (sm_t7 145 (by decide +kernel))⟩
theorem ls_X12_175 : sm_LS RX12 175 mX12_isSign 1 := ⟨mf_X12_isSign, (Or.inl (sm_t7 151 (by decide +kernel))), (sm_t7 152 (by decide +kernel))⟩
theorem ls_X12_215 : sm_LS RX12 215 mX12_bounded 1 := ⟨mf_X12_bounded, (Or.inl (sm_t8 33 (by decide +kernel))), (sm_t8 34 (by decide +kernel))⟩
theorem ls_X12_219 : sm_LS RX12 219 mX12_worked 3 := ⟨mf_X12_worked, (Or.inl (sm_t8 30 (by decide +kernel))), (sm_t8 31 (by decide +kernel))⟩
theorem ls_X12_227 : sm_LS RX12 227 mX12_in 3 := ⟨mf_X12_in, (Or.inl (sm_t7 68 (by decide +kernel))), (sm_t7 69 (by decide +kernel))⟩
theorem ls_X12_237 : sm_LS RX12 237 mX12_sleeperItem 1 := ⟨mf_X12_sleeperItem, (Or.inl (sm_t7 78 (by decide +kernel))), (sm_t7 79 (by decide +kernel))⟩
theorem ls_X12_240 : sm_LS RX12 240 mX12_has 2 := ⟨mf_X12_has, (Or.inl (sm_t7 81 (by decide +kernel))), (sm_t7 82 (by decide +kernel))⟩
theorem ls_X12_337 : sm_LS RX12 337 mJ6_bitCount_0f7a4 1 := ⟨mf_J6_bitCount_0f7a4, (Or.inl (sm_t8 21 (by decide +kernel))), (sm_t4 227 (by decide +kernel))⟩
theorem ls_X12_345 : sm_LS RX12 345 mJ6_numberOfLeadingZeros_0f7a4 1 := ⟨mf_J6_numberOfLeadingZeros_0f7a4, (Or.inl (sm_t8 49 (by decide +kernel))), (sm_t5 33 (by decide +kernel))⟩
theorem ls_X12_348 : sm_LS RX12 348 mJ6_numberOfTrailingZeros_0f7a4 1 := ⟨mf_J6_numberOfTrailingZeros_0f7a4, (Or.inl (sm_t8 50 (by decide +kernel))), (sm_t5 29 (by decide +kernel))⟩
theorem ls_X12_354 : sm_LS RX12 354 mJ9_floorMod_7cf53 2 := ⟨mf_J9_floorMod_7cf53, (Or.inl (sm_t8 44 (by decide +kernel))), (sm_t5 21 (by decide +kernel))⟩
theorem ls_J0_637 : sm_LS RJ0 637 mJ1_indexOf_4cfef 4 := ⟨mf_J1_indexOf_4cfef, (Or.inl (sm_t3 58 (by decide +kernel))), (sm_t3 59 (by decide +kernel))⟩
theorem ls_J0_640 : sm_LS RJ0 640 mJ2_indexOf_4cfef 4 := ⟨mf_J2_indexOf_4cfef, (Or.inl (sm_t3 71 (by decide +kernel))), (sm_t3 72 (by decide +kernel))⟩
theorem ls_J1_88 : sm_LS RJ1 88 mJ1_canEncode_9a6ad 1 := ⟨mf_J1_canEncode_9a6ad, (Or.inl (sm_t3 61 (by decide +kernel))), (sm_t3 62 (by decide +kernel))⟩
theorem ls_J1_95 : sm_LS RJ1 95 mJ1_indexOfChar_4cfef 4 := ⟨mf_J1_indexOfChar_4cfef, (Or.inl (sm_t3 68 (by decide +kernel))), (sm_t3 69 (by decide +kernel))⟩
theorem ls_Jx4a65c_118 : sm_LS RJx4a65c 118 mJ15_checkIndex_7cf53 2 := ⟨mf_J15_checkIndex_7cf53, (Or.inl (sm_t4 214 (by decide +kernel))), (sm_t4 215 (by decide +kernel))⟩
theorem ls_J15_105 : sm_LS RJ15 105 mJ3_checkIndex_8e157 3 := ⟨mf_J3_checkIndex_8e157, (Or.inl (sm_t4 217 (by decide +kernel))), (sm_t4 218 (by decide +kernel))⟩
theorem lu_X0_81_1 : sm_LU RX0 81 mX7_copy 1 RX0 := ⟨⟨"SleepMoves$Dream", "copy", "(LSleepMoves$Stand;)V"⟩, mf_X7_copy, rfl, (sm_t4 179 (by decide +kernel)), (sm_t4 180 (by decide +kernel)), (sm_t4 183 (by decide +kernel)), (sm_t4 182 (by decide +kernel))⟩
theorem lu_X5_100_5 : sm_LU RX5 100 mX2_signHere 0 RX5 := ⟨⟨"SleepMoves$RuleReader", "signHere", "()I"⟩, mf_X2_signHere, rfl, (sm_t3 190 (by decide +kernel)), (sm_t3 191 (by decide +kernel)), (sm_t3 194 (by decide +kernel)), (sm_t3 193 (by decide +kernel))⟩
theorem lu_X5_32_5 : sm_LU RX5 32 mX2_begin 0 RX5 := ⟨⟨"SleepMoves$RuleReader", "begin", "()V"⟩, mf_X2_begin, rfl, (sm_t3 155 (by decide +kernel)), (sm_t3 156 (by decide +kernel)), (sm_t2 229 (by decide +kernel)), (sm_t3 157 (by decide +kernel))⟩
theorem lu_X5_40_5 : sm_LU RX5 40 mX2_take 1 RX5 := ⟨⟨"SleepMoves$RuleReader", "take", "(I)Z"⟩, mf_X2_take, rfl, (sm_t3 162 (by decide +kernel)), (sm_t3 163 (by decide +kernel)), (sm_t3 3 (by decide +kernel)), (sm_t3 164 (by decide +kernel))⟩
theorem lu_X5_44_5 : sm_LU RX5 44 mX2_nextSign 0 RX5 := ⟨⟨"SleepMoves$RuleReader", "nextSign", "()I"⟩, mf_X2_nextSign, rfl, (sm_t3 165 (by decide +kernel)), (sm_t3 166 (by decide +kernel)), (sm_t3 6 (by decide +kernel)), (sm_t3 167 (by decide +kernel))⟩
theorem lu_X5_48_5 : sm_LU RX5 48 mX2_faultHere 0 RX5 := ⟨⟨"SleepMoves$RuleReader", "faultHere", "()I"⟩, mf_X2_faultHere, rfl, (sm_t3 222 (by decide +kernel)), (sm_t3 223 (by decide +kernel)), (sm_t3 34 (by decide +kernel)), (sm_t3 224 (by decide +kernel))⟩
theorem lu_X5_74_5 : sm_LU RX5 74 mX2_goOn 0 RX5 := ⟨⟨"SleepMoves$RuleReader", "goOn", "()V"⟩, mf_X2_goOn, rfl, (sm_t3 180 (by decide +kernel)), (sm_t3 181 (by decide +kernel)), (sm_t3 28 (by decide +kernel)), (sm_t3 182 (by decide +kernel))⟩
theorem lu_X9_41_9 : sm_LU RX9 41 mX2_begin 0 RX9 := ⟨⟨"SleepMoves$StreetReader", "begin", "()V"⟩, mf_X2_begin, rfl, (sm_t2 225 (by decide +kernel)), (sm_t2 226 (by decide +kernel)), (sm_t2 229 (by decide +kernel)), (sm_t2 228 (by decide +kernel))⟩
theorem lu_X9_47_9 : sm_LU RX9 47 mX2_take 1 RX9 := ⟨⟨"SleepMoves$StreetReader", "take", "(I)Z"⟩, mf_X2_take, rfl, (sm_t2 239 (by decide +kernel)), (sm_t3 0 (by decide +kernel)), (sm_t3 3 (by decide +kernel)), (sm_t3 2 (by decide +kernel))⟩
theorem lu_X9_55_9 : sm_LU RX9 55 mX2_faultHere 0 RX9 := ⟨⟨"SleepMoves$StreetReader", "faultHere", "()I"⟩, mf_X2_faultHere, rfl, (sm_t3 30 (by decide +kernel)), (sm_t3 31 (by decide +kernel)), (sm_t3 34 (by decide +kernel)), (sm_t3 33 (by decide +kernel))⟩
theorem lu_X9_65_9 : sm_LU RX9 65 mX2_nextSign 0 RX9 := ⟨⟨"SleepMoves$StreetReader", "nextSign", "()I"⟩, mf_X2_nextSign, rfl, (sm_t3 19 (by decide +kernel)), (sm_t3 20 (by decide +kernel)), (sm_t3 6 (by decide +kernel)), (sm_t3 22 (by decide +kernel))⟩
theorem lu_X9_77_9 : sm_LU RX9 77 mX2_goOn 0 RX9 := ⟨⟨"SleepMoves$StreetReader", "goOn", "()V"⟩, mf_X2_goOn, rfl, (sm_t3 24 (by decide +kernel)), (sm_t3 25 (by decide +kernel)), (sm_t3 28 (by decide +kernel)), (sm_t3 27 (by decide +kernel))⟩
theorem lv_X0_103_1 : sm_LV RX0 103 mX0_carry 4 RX0 := ⟨mf_X0_carry, (sm_t5 23 (by decide +kernel)), (sm_t5 25 (by decide +kernel)), (sm_p 24 (by decide +kernel))⟩
theorem lv_X0_110_8 : sm_LV RX0 110 mX8_moonStand 1 RX8 := ⟨mf_X8_moonStand, (sm_t5 93 (by decide +kernel)), (sm_t5 94 (by decide +kernel)), (sm_t5 95 (by decide +kernel))⟩
theorem lv_X0_120_3 : sm_LV RX0 120 mX3_at 1 RX3 := ⟨mf_X3_at, (sm_t4 193 (by decide +kernel)), (sm_t3 12 (by decide +kernel)), (sm_t3 13 (by decide +kernel))⟩
theorem lv_X0_123_1 : sm_LV RX0 123 mX0_hasFever 0 RX0 := ⟨mf_X0_hasFever, (sm_t4 194 (by decide +kernel)), (sm_t4 196 (by decide +kernel)), (sm_p 20 (by decide +kernel))⟩
theorem lv_X0_127_1 : sm_LV RX0 127 mX0_ownStride 1 RX0 := ⟨mf_X0_ownStride, (sm_t4 201 (by decide +kernel)), (sm_t4 203 (by decide +kernel)), (sm_p 21 (by decide +kernel))⟩
theorem lv_X0_146_1 : sm_LV RX0 146 mX0_ruleOf 1 RX0 := ⟨mf_X0_ruleOf, (sm_t4 205 (by decide +kernel)), (sm_t4 207 (by decide +kernel)), (sm_p 22 (by decide +kernel))⟩
theorem lv_X0_153_8 : sm_LV RX0 153 mX8_thingsIn 2 RX8 := ⟨mf_X8_thingsIn, (sm_t4 225 (by decide +kernel)), (sm_t4 112 (by decide +kernel)), (sm_t4 113 (by decide +kernel))⟩
theorem lv_X0_161_1 : sm_LV RX0 161 mX0_tellLetters 2 RX0 := ⟨mf_X0_tellLetters, (sm_t4 232 (by decide +kernel)), (sm_t4 234 (by decide +kernel)), (sm_p 23 (by decide +kernel))⟩
theorem lv_X0_165_4 : sm_LV RX0 165 mX4_worth 2 RX4 := ⟨mf_X4_worth, (sm_t4 238 (by decide +kernel)), (sm_t4 239 (by decide +kernel)), (sm_t5 0 (by decide +kernel))⟩
theorem lv_X0_169_3 : sm_LV RX0 169 mX3_set 2 RX3 := ⟨mf_X3_set, (sm_t4 236 (by decide +kernel)), (sm_t2 207 (by decide +kernel)), (sm_t2 208 (by decide +kernel))⟩
theorem lv_X0_172_8 : sm_LV RX0 172 mX8_isFull 1 RX8 := ⟨mf_X8_isFull, (sm_t4 237 (by decide +kernel)), (sm_t4 126 (by decide +kernel)), (sm_t4 127 (by decide +kernel))⟩
theorem lv_X0_179_0 : sm_LV RX0 179 mJx4a65c_size_8abf5 0 RJx4a65c := ⟨mf_Jx4a65c_size_8abf5, (sm_t4 209 (by decide +kernel)), (sm_t4 11 (by decide +kernel)), (sm_t4 12 (by decide +kernel))⟩
theorem lv_X0_184_0 : sm_LV RX0 184 mJx4a65c_get_915e3 1 RJx4a65c := ⟨mf_Jx4a65c_get_915e3, (sm_t4 210 (by decide +kernel)), (sm_t4 211 (by decide +kernel)), (sm_t4 212 (by decide +kernel))⟩
theorem lv_X0_206_1 : sm_LV RX0 206 mX0_partsFrom 4 RX0 := ⟨mf_X0_partsFrom, (sm_t5 186 (by decide +kernel)), (sm_t5 188 (by decide +kernel)), (sm_p 29 (by decide +kernel))⟩
theorem lv_X0_213_1 : sm_LV RX0 213 mX0_splitParts 4 RX0 := ⟨mf_X0_splitParts, (sm_t5 191 (by decide +kernel)), (sm_t5 193 (by decide +kernel)), (sm_p 30 (by decide +kernel))⟩
theorem lv_X0_85_3 : sm_LV RX0 85 mX3_fill 1 RX3 := ⟨mf_X3_fill, (sm_t4 147 (by decide +kernel)), (sm_t2 236 (by decide +kernel)), (sm_t2 237 (by decide +kernel))⟩
theorem lv_X0_88_1 : sm_LV RX0 88 mX0_goOneNight 0 RX0 := ⟨mf_X0_goOneNight, (sm_t5 67 (by decide +kernel)), (sm_t4 186 (by decide +kernel)), (sm_t4 187 (by decide +kernel))⟩
theorem lv_X0_96_1 : sm_LV RX0 96 mX0_walk 1 RX0 := ⟨mf_X0_walk, (sm_t4 189 (by decide +kernel)), (sm_t4 191 (by decide +kernel)), (sm_p 19 (by decide +kernel))⟩
theorem lv_X0_99_8 : sm_LV RX0 99 mX8_around 2 RX8 := ⟨mf_X8_around, (sm_t5 16 (by decide +kernel)), (sm_t5 17 (by decide +kernel)), (sm_t5 18 (by decide +kernel))⟩
theorem lv_X1_37_3 : sm_LV RX1 37 mX3_set 2 RX3 := ⟨mf_X3_set, (sm_t4 173 (by decide +kernel)), (sm_t2 207 (by decide +kernel)), (sm_t2 208 (by decide +kernel))⟩
theorem lv_X1_51_3 : sm_LV RX1 51 mX3_at 1 RX3 := ⟨mf_X3_at, (sm_t5 45 (by decide +kernel)), (sm_t3 12 (by decide +kernel)), (sm_t3 13 (by decide +kernel))⟩
theorem lv_X2_28_3 : sm_LV RX2 28 mX3_at 1 RX3 := ⟨mf_X3_at, (sm_t3 11 (by decide +kernel)), (sm_t3 12 (by decide +kernel)), (sm_t3 13 (by decide +kernel))⟩
theorem lv_X2_33_5 : sm_LV RX2 33 mX2_nextSign 0 RX5 := ⟨mf_X2_nextSign, (sm_t3 5 (by decide +kernel)), (sm_t3 6 (by decide +kernel)), (sm_t3 8 (by decide +kernel))⟩
theorem lv_X2_33_9 : sm_LV RX2 33 mX2_nextSign 0 RX9 := ⟨mf_X2_nextSign, (sm_t3 5 (by decide +kernel)), (sm_t3 6 (by decide +kernel)), (sm_t3 9 (by decide +kernel))⟩
theorem lv_X3_19_3 : sm_LV RX3 19 mX3_at 1 RX3 := ⟨mf_X3_at, (sm_t4 1 (by decide +kernel)), (sm_t3 12 (by decide +kernel)), (sm_t3 13 (by decide +kernel))⟩
theorem lv_X4_27_3 : sm_LV RX4 27 mX3_length 0 RX3 := ⟨mf_X3_length, (sm_t5 2 (by decide +kernel)), (sm_t5 3 (by decide +kernel)), (sm_t5 4 (by decide +kernel))⟩
theorem lv_X4_31_3 : sm_LV RX4 31 mX3_at 1 RX3 := ⟨mf_X3_at, (sm_t5 6 (by decide +kernel)), (sm_t3 12 (by decide +kernel)), (sm_t3 13 (by decide +kernel))⟩
theorem lv_X4_35_3 : sm_LV RX4 35 mX3_set 2 RX3 := ⟨mf_X3_set, (sm_t5 7 (by decide +kernel)), (sm_t2 207 (by decide +kernel)), (sm_t2 208 (by decide +kernel))⟩
theorem lv_X5_36_5 : sm_LV RX5 36 mX5_readClause 0 RX5 := ⟨mf_X5_readClause, (sm_t3 158 (by decide +kernel)), (sm_t3 160 (by decide +kernel)), (sm_p 5 (by decide +kernel))⟩
theorem lv_X5_51_5 : sm_LV RX5 51 mX5_readSum 1 RX5 := ⟨mf_X5_readSum, (sm_t3 168 (by decide +kernel)), (sm_t3 170 (by decide +kernel)), (sm_p 6 (by decide +kernel))⟩
theorem lv_X5_57_5 : sm_LV RX5 57 mX5_write 2 RX5 := ⟨mf_X5_write, (sm_t3 196 (by decide +kernel)), (sm_t3 198 (by decide +kernel)), (sm_p 10 (by decide +kernel))⟩
theorem lv_X5_61_5 : sm_LV RX5 61 mX5_readCondition 2 RX5 := ⟨mf_X5_readCondition, (sm_t3 206 (by decide +kernel)), (sm_t3 208 (by decide +kernel)), (sm_p 11 (by decide +kernel))⟩
theorem lv_X5_65_3 : sm_LV RX5 65 mX3_set 2 RX3 := ⟨mf_X3_set, (sm_t3 200 (by decide +kernel)), (sm_t2 207 (by decide +kernel)), (sm_t2 208 (by decide +kernel))⟩
theorem lv_X5_68_5 : sm_LV RX5 68 mX5_readTruth 2 RX5 := ⟨mf_X5_readTruth, (sm_t3 210 (by decide +kernel)), (sm_t3 212 (by decide +kernel)), (sm_p 12 (by decide +kernel))⟩
theorem lv_X5_71_5 : sm_LV RX5 71 mX5_readUnit 2 RX5 := ⟨mf_X5_readUnit, (sm_t3 214 (by decide +kernel)), (sm_t3 216 (by decide +kernel)), (sm_p 13 (by decide +kernel))⟩
theorem lv_X5_77_5 : sm_LV RX5 77 mX5_readDenied 1 RX5 := ⟨mf_X5_readDenied, (sm_t3 218 (by decide +kernel)), (sm_t3 220 (by decide +kernel)), (sm_p 14 (by decide +kernel))⟩
theorem lv_X5_80_5 : sm_LV RX5 80 mX5_readTerm 1 RX5 := ⟨mf_X5_readTerm, (sm_t3 172 (by decide +kernel)), (sm_t3 174 (by decide +kernel)), (sm_p 7 (by decide +kernel))⟩
theorem lv_X5_83_5 : sm_LV RX5 83 mX5_readAtom 1 RX5 := ⟨mf_X5_readAtom, (sm_t3 176 (by decide +kernel)), (sm_t3 178 (by decide +kernel)), (sm_p 8 (by decide +kernel))⟩
theorem lv_X5_89_5 : sm_LV RX5 89 mX5_readNumber 0 RX5 := ⟨mf_X5_readNumber, (sm_t3 186 (by decide +kernel)), (sm_t3 188 (by decide +kernel)), (sm_p 9 (by decide +kernel))⟩
theorem lv_X5_94_x : sm_LV RX5 94 mJ0_indexOf_0f7a4 1 RJ0 := ⟨mf_J0_indexOf_0f7a4, (sm_t3 202 (by decide +kernel)), (sm_t3 46 (by decide +kernel)), (sm_t3 47 (by decide +kernel))⟩
theorem lv_X6_36_3 : sm_LV RX6 36 mX3_set 2 RX3 := ⟨mf_X3_set, (sm_t5 137 (by decide +kernel)), (sm_t2 207 (by decide +kernel)), (sm_t2 208 (by decide +kernel))⟩
theorem lv_X6_46_3 : sm_LV RX6 46 mX3_at 1 RX3 := ⟨mf_X3_at, (sm_t5 155 (by decide +kernel)), (sm_t3 12 (by decide +kernel)), (sm_t3 13 (by decide +kernel))⟩
theorem lv_X8_51_3 : sm_LV RX8 51 mX3_fill 1 RX3 := ⟨mf_X3_fill, (sm_t2 235 (by decide +kernel)), (sm_t2 236 (by decide +kernel)), (sm_t2 237 (by decide +kernel))⟩
theorem lv_X8_54_3 : sm_LV RX8 54 mX3_copy 1 RX3 := ⟨mf_X3_copy, (sm_t3 237 (by decide +kernel)), (sm_t3 238 (by decide +kernel)), (sm_t3 239 (by decide +kernel))⟩
theorem lv_X8_58_3 : sm_LV RX8 58 mX3_at 1 RX3 := ⟨mf_X3_at, (sm_t3 136 (by decide +kernel)), (sm_t3 12 (by decide +kernel)), (sm_t3 13 (by decide +kernel))⟩
theorem lv_X8_62_3 : sm_LV RX8 62 mX3_set 2 RX3 := ⟨mf_X3_set, (sm_t3 137 (by decide +kernel)), (sm_t2 207 (by decide +kernel)), (sm_t2 208 (by decide +kernel))⟩
theorem lv_X8_83_8 : sm_LV RX8 83 mX8_thingsIn 2 RX8 := ⟨mf_X8_thingsIn, (sm_t5 118 (by decide +kernel)), (sm_t4 112 (by decide +kernel)), (sm_t4 113 (by decide +kernel))⟩
theorem lv_X9_101_8 : sm_LV RX9 101 mX8_addThing 1 RX8 := ⟨mf_X8_addThing, (sm_t3 139 (by decide +kernel)), (sm_t3 140 (by decide +kernel)), (sm_t3 141 (by decide +kernel))⟩
theorem lv_X9_106_8 : sm_LV RX9 106 mX8_addMoon 1 RX8 := ⟨mf_X8_addMoon, (sm_t3 147 (by decide +kernel)), (sm_t3 148 (by decide +kernel)), (sm_t3 149 (by decide +kernel))⟩
theorem lv_X9_116_9 : sm_LV RX9 116 mX9_mostOf 1 RX9 := ⟨mf_X9_mostOf, (sm_t3 128 (by decide +kernel)), (sm_t3 130 (by decide +kernel)), (sm_p 4 (by decide +kernel))⟩
theorem lv_X9_24_x : sm_LV RX9 24 mJ0_length_8abf5 0 RJ0 := ⟨mf_J0_length_8abf5, (sm_t1 143 (by decide +kernel)), (sm_t1 144 (by decide +kernel)), (sm_t1 145 (by decide +kernel))⟩
theorem lv_X9_44_8 : sm_LV RX9 44 mX8_clear 0 RX8 := ⟨mf_X8_clear, (sm_t2 231 (by decide +kernel)), (sm_t2 232 (by decide +kernel)), (sm_t2 233 (by decide +kernel))⟩
theorem lv_X9_51_9 : sm_LV RX9 51 mX9_takeDigit 2 RX9 := ⟨mf_X9_takeDigit, (sm_t3 15 (by decide +kernel)), (sm_t3 17 (by decide +kernel)), (sm_p 0 (by decide +kernel))⟩
theorem lv_X9_61_9 : sm_LV RX9 61 mX9_readClause 0 RX9 := ⟨mf_X9_readClause, (sm_t3 36 (by decide +kernel)), (sm_t3 38 (by decide +kernel)), (sm_p 1 (by decide +kernel))⟩
theorem lv_X9_74_9 : sm_LV RX9 74 mX9_canCome 1 RX9 := ⟨mf_X9_canCome, (sm_t3 40 (by decide +kernel)), (sm_t3 42 (by decide +kernel)), (sm_p 2 (by decide +kernel))⟩
theorem lv_X9_80_3 : sm_LV RX9 80 mX3_fill 1 RX3 := ⟨mf_X3_fill, (sm_t3 44 (by decide +kernel)), (sm_t2 236 (by decide +kernel)), (sm_t2 237 (by decide +kernel))⟩
theorem lv_X9_83_x : sm_LV RX9 83 mJ0_indexOf_0f7a4 1 RJ0 := ⟨mf_J0_indexOf_0f7a4, (sm_t3 45 (by decide +kernel)), (sm_t3 46 (by decide +kernel)), (sm_t3 47 (by decide +kernel))⟩
theorem lv_X9_87_3 : sm_LV RX9 87 mX3_set 2 RX3 := ⟨mf_X3_set, (sm_t3 120 (by decide +kernel)), (sm_t2 207 (by decide +kernel)), (sm_t2 208 (by decide +kernel))⟩
theorem lv_X9_91_9 : sm_LV RX9 91 mX9_readItems 1 RX9 := ⟨mf_X9_readItems, (sm_t3 121 (by decide +kernel)), (sm_t3 123 (by decide +kernel)), (sm_p 3 (by decide +kernel))⟩
theorem lv_X9_95_8 : sm_LV RX9 95 mX8_addSleeper 1 RX8 := ⟨mf_X8_addSleeper, (sm_t3 132 (by decide +kernel)), (sm_t3 133 (by decide +kernel)), (sm_t3 134 (by decide +kernel))⟩
theorem lv_X10_24_3 : sm_LV RX10 24 mX3_set 2 RX3 := ⟨mf_X3_set, (sm_t2 206 (by decide +kernel)), (sm_t2 207 (by decide +kernel)), (sm_t2 208 (by decide +kernel))⟩
theorem lv_X11_112_10 : sm_LV RX11 112 mX10_add 1 RX10 := ⟨mf_X10_add, (sm_t2 202 (by decide +kernel)), (sm_t2 203 (by decide +kernel)), (sm_t2 204 (by decide +kernel))⟩
theorem lv_X11_119_9 : sm_LV RX11 119 mX9_read 0 RX9 := ⟨mf_X9_read, (sm_t2 221 (by decide +kernel)), (sm_t2 222 (by decide +kernel)), (sm_t2 223 (by decide +kernel))⟩
theorem lv_X11_123_5 : sm_LV RX11 123 mX5_read 0 RX5 := ⟨mf_X5_read, (sm_t3 151 (by decide +kernel)), (sm_t3 152 (by decide +kernel)), (sm_t3 153 (by decide +kernel))⟩
theorem lv_X11_134_0 : sm_LV RX11 134 mJx4a65c_size_8abf5 0 RJx4a65c := ⟨mf_Jx4a65c_size_8abf5, (sm_t4 10 (by decide +kernel)), (sm_t4 11 (by decide +kernel)), (sm_t4 12 (by decide +kernel))⟩
theorem lv_X11_144_8 : sm_LV RX11 144 mX8_copy 1 RX8 := ⟨mf_X8_copy, (sm_t3 233 (by decide +kernel)), (sm_t3 234 (by decide +kernel)), (sm_t3 235 (by decide +kernel))⟩
theorem lv_X11_159_2 : sm_LV RX11 159 mX1_forget 0 RX1 := ⟨mf_X1_forget, (sm_t4 2 (by decide +kernel)), (sm_t4 3 (by decide +kernel)), (sm_t4 4 (by decide +kernel))⟩
theorem lv_X11_162_6 : sm_LV RX11 162 mX6_forget 0 RX6 := ⟨mf_X6_forget, (sm_t4 6 (by decide +kernel)), (sm_t4 7 (by decide +kernel)), (sm_t4 8 (by decide +kernel))⟩
theorem lv_X11_163_8 : sm_LV RX11 163 mX8_hasSleeper 1 RX8 := ⟨mf_X8_hasSleeper, (sm_t4 138 (by decide +kernel)), (sm_t4 139 (by decide +kernel)), (sm_t4 140 (by decide +kernel))⟩
theorem lv_X11_177_3 : sm_LV RX11 177 mX3_at 1 RX3 := ⟨mf_X3_at, (sm_t5 72 (by decide +kernel)), (sm_t3 12 (by decide +kernel)), (sm_t3 13 (by decide +kernel))⟩
theorem lv_X11_194_8 : sm_LV RX11 194 mX8_hasThing 1 RX8 := ⟨mf_X8_hasThing, (sm_t4 95 (by decide +kernel)), (sm_t4 96 (by decide +kernel)), (sm_t4 97 (by decide +kernel))⟩
theorem lv_X11_201_8 : sm_LV RX11 201 mX8_hasHouse 1 RX8 := ⟨mf_X8_hasHouse, (sm_t4 107 (by decide +kernel)), (sm_t4 108 (by decide +kernel)), (sm_t4 109 (by decide +kernel))⟩
theorem lv_X11_204_8 : sm_LV RX11 204 mX8_thingsIn 2 RX8 := ⟨mf_X8_thingsIn, (sm_t4 111 (by decide +kernel)), (sm_t4 112 (by decide +kernel)), (sm_t4 113 (by decide +kernel))⟩
theorem lv_X11_210_8 : sm_LV RX11 210 mX8_isTold 0 RX8 := ⟨mf_X8_isTold, (sm_t4 121 (by decide +kernel)), (sm_t4 122 (by decide +kernel)), (sm_t4 123 (by decide +kernel))⟩
theorem lv_X11_214_8 : sm_LV RX11 214 mX8_isFull 1 RX8 := ⟨mf_X8_isFull, (sm_t4 125 (by decide +kernel)), (sm_t4 126 (by decide +kernel)), (sm_t4 127 (by decide +kernel))⟩
theorem lv_X11_231_3 : sm_LV RX11 231 mX3_set 2 RX3 := ⟨mf_X3_set, (sm_t4 142 (by decide +kernel)), (sm_t2 207 (by decide +kernel)), (sm_t2 208 (by decide +kernel))⟩
theorem lv_X11_235_1 : sm_LV RX11 235 mX0_forgetWorths 0 RX0 := ⟨mf_X0_forgetWorths, (sm_t4 143 (by decide +kernel)), (sm_t4 144 (by decide +kernel)), (sm_t4 145 (by decide +kernel))⟩
theorem lv_X11_246_2 : sm_LV RX11 246 mX1_keep 1 RX1 := ⟨mf_X1_keep, (sm_t4 169 (by decide +kernel)), (sm_t4 170 (by decide +kernel)), (sm_t4 171 (by decide +kernel))⟩
theorem lv_X11_250_1 : sm_LV RX11 250 mX0_begin 1 RX0 := ⟨mf_X0_begin, (sm_t4 175 (by decide +kernel)), (sm_t4 176 (by decide +kernel)), (sm_t4 177 (by decide +kernel))⟩
theorem lv_X11_254_1 : sm_LV RX11 254 mX0_goOneNight 0 RX0 := ⟨mf_X0_goOneNight, (sm_t4 185 (by decide +kernel)), (sm_t4 186 (by decide +kernel)), (sm_t4 187 (by decide +kernel))⟩
theorem lv_X11_257_7 : sm_LV RX11 257 mX7_copy 1 RX7 := ⟨mf_X7_copy, (sm_t5 36 (by decide +kernel)), (sm_t4 183 (by decide +kernel)), (sm_t8 222 (by decide +kernel))⟩
theorem lv_X11_259_2 : sm_LV RX11 259 mX1_takeBack 1 RX1 := ⟨mf_X1_takeBack, (sm_t5 41 (by decide +kernel)), (sm_t5 42 (by decide +kernel)), (sm_t5 43 (by decide +kernel))⟩
theorem lv_X11_263_11 : sm_LV RX11 263 mX11_dreamOf 1 RX11 := ⟨mf_X11_dreamOf, (sm_t5 59 (by decide +kernel)), (sm_t5 61 (by decide +kernel)), (sm_p 25 (by decide +kernel))⟩
theorem lv_X11_273_1 : sm_LV RX11 273 mX0_roundKey 0 RX0 := ⟨mf_X0_roundKey, (sm_t5 89 (by decide +kernel)), (sm_t5 90 (by decide +kernel)), (sm_t5 91 (by decide +kernel))⟩
theorem lv_X11_285_8 : sm_LV RX11 285 mX8_fullestHouse 1 RX8 := ⟨mf_X8_fullestHouse, (sm_t5 114 (by decide +kernel)), (sm_t5 115 (by decide +kernel)), (sm_t5 116 (by decide +kernel))⟩
theorem lv_X11_293_8 : sm_LV RX11 293 mX8_elsewhere 2 RX8 := ⟨mf_X8_elsewhere, (sm_t5 125 (by decide +kernel)), (sm_t5 126 (by decide +kernel)), (sm_t5 127 (by decide +kernel))⟩
theorem lv_X11_296_6 : sm_LV RX11 296 mX6_add 4 RX6 := ⟨mf_X6_add, (sm_t5 133 (by decide +kernel)), (sm_t5 134 (by decide +kernel)), (sm_t5 135 (by decide +kernel))⟩
theorem lv_X11_299_11 : sm_LV RX11 299 mX11_fittingSteps 1 RX11 := ⟨mf_X11_fittingSteps, (sm_t5 143 (by decide +kernel)), (sm_t5 145 (by decide +kernel)), (sm_p 26 (by decide +kernel))⟩
theorem lv_X11_305_11 : sm_LV RX11 305 mX11_dreamIsAsSeen 0 RX11 := ⟨mf_X11_dreamIsAsSeen, (sm_t5 147 (by decide +kernel)), (sm_t5 149 (by decide +kernel)), (sm_p 27 (by decide +kernel))⟩
theorem lv_X11_308_11 : sm_LV RX11 308 mX11_kindsOfPlaces 4 RX11 := ⟨mf_X11_kindsOfPlaces, (sm_t5 169 (by decide +kernel)), (sm_t5 171 (by decide +kernel)), (sm_p 28 (by decide +kernel))⟩
theorem lv_X11_312_8 : sm_LV RX11 312 mX8_feverish 0 RX8 := ⟨mf_X8_feverish, (sm_t5 177 (by decide +kernel)), (sm_t5 178 (by decide +kernel)), (sm_t5 179 (by decide +kernel))⟩
theorem lv_X11_315_1 : sm_LV RX11 315 mX0_partsInto 4 RX0 := ⟨mf_X0_partsInto, (sm_t5 181 (by decide +kernel)), (sm_t5 182 (by decide +kernel)), (sm_t5 183 (by decide +kernel))⟩
theorem lv_X11_319_11 : sm_LV RX11 319 mX11_staysBehind 3 RX11 := ⟨mf_X11_staysBehind, (sm_t5 199 (by decide +kernel)), (sm_t5 201 (by decide +kernel)), (sm_p 31 (by decide +kernel))⟩
theorem lv_X11_322_11 : sm_LV RX11 322 mX11_landAllStarts 1 RX11 := ⟨mf_X11_landAllStarts, (sm_t5 207 (by decide +kernel)), (sm_t5 209 (by decide +kernel)), (sm_p 32 (by decide +kernel))⟩
theorem lv_X11_325_8 : sm_LV RX11 325 mX8_startOf 1 RX8 := ⟨mf_X8_startOf, (sm_t5 219 (by decide +kernel)), (sm_t5 220 (by decide +kernel)), (sm_t5 221 (by decide +kernel))⟩
theorem lv_X11_328_8 : sm_LV RX11 328 mX8_starts 0 RX8 := ⟨mf_X8_starts, (sm_t5 211 (by decide +kernel)), (sm_t5 212 (by decide +kernel)), (sm_t5 213 (by decide +kernel))⟩
theorem lv_X11_331_8 : sm_LV RX11 331 mX8_placesOf 1 RX8 := ⟨mf_X8_placesOf, (sm_t5 215 (by decide +kernel)), (sm_t5 216 (by decide +kernel)), (sm_t5 217 (by decide +kernel))⟩
theorem lv_X11_334_8 : sm_LV RX11 334 mX8_digitsOf 1 RX8 := ⟨mf_X8_digitsOf, (sm_t5 223 (by decide +kernel)), (sm_t5 224 (by decide +kernel)), (sm_t5 225 (by decide +kernel))⟩
theorem lv_X11_337_11 : sm_LV RX11 337 mX11_changedWithout 3 RX11 := ⟨mf_X11_changedWithout, (sm_t5 231 (by decide +kernel)), (sm_t5 233 (by decide +kernel)), (sm_p 33 (by decide +kernel))⟩
theorem lv_X11_346_1 : sm_LV RX11 346 mX0_goOn 1 RX0 := ⟨mf_X0_goOn, (sm_t5 63 (by decide +kernel)), (sm_t5 64 (by decide +kernel)), (sm_t5 65 (by decide +kernel))⟩
theorem lv_X11_352_6 : sm_LV RX11 352 mX6_allows 2 RX6 := ⟨mf_X6_allows, (sm_t5 151 (by decide +kernel)), (sm_t5 152 (by decide +kernel)), (sm_t5 153 (by decide +kernel))⟩
theorem lv_X11_361_3 : sm_LV RX11 361 mX3_length 0 RX3 := ⟨mf_X3_length, (sm_t5 100 (by decide +kernel)), (sm_t5 3 (by decide +kernel)), (sm_t5 4 (by decide +kernel))⟩
theorem lv_X12_125_12 : sm_LV RX12 125 mX12_here 0 RX12 := ⟨mf_X12_here, (sm_t7 56 (by decide +kernel)), (sm_t7 58 (by decide +kernel)), (sm_p 37 (by decide +kernel))⟩
theorem lv_X12_138_12 : sm_LV RX12 138 mX12_bad 0 RX12 := ⟨mf_X12_bad, (sm_t7 60 (by decide +kernel)), (sm_t7 62 (by decide +kernel)), (sm_p 38 (by decide +kernel))⟩
theorem lv_X12_141_12 : sm_LV RX12 141 mX12_look 0 RX12 := ⟨mf_X12_look, (sm_t7 52 (by decide +kernel)), (sm_t7 54 (by decide +kernel)), (sm_p 36 (by decide +kernel))⟩
theorem lv_X12_148_12 : sm_LV RX12 148 mX12_plainNumber 0 RX12 := ⟨mf_X12_plainNumber, (sm_t7 140 (by decide +kernel)), (sm_t7 142 (by decide +kernel)), (sm_p 55 (by decide +kernel))⟩
theorem lv_X12_151_12 : sm_LV RX12 151 mX12_note 2 RX12 := ⟨mf_X12_note, (sm_t7 120 (by decide +kernel)), (sm_t7 122 (by decide +kernel)), (sm_p 50 (by decide +kernel))⟩
theorem lv_X12_159_12 : sm_LV RX12 159 mX12_opens 0 RX12 := ⟨mf_X12_opens, (sm_t7 116 (by decide +kernel)), (sm_t7 118 (by decide +kernel)), (sm_p 49 (by decide +kernel))⟩
theorem lv_X12_162_12 : sm_LV RX12 162 mX12_sum 0 RX12 := ⟨mf_X12_sum, (sm_t7 128 (by decide +kernel)), (sm_t7 130 (by decide +kernel)), (sm_p 52 (by decide +kernel))⟩
theorem lv_X12_165_12 : sm_LV RX12 165 mX12_closes 1 RX12 := ⟨mf_X12_closes, (sm_t7 124 (by decide +kernel)), (sm_t7 126 (by decide +kernel)), (sm_p 51 (by decide +kernel))⟩
theorem lv_X12_169_12 : sm_LV RX12 169 mX12_atom 0 RX12 := ⟨mf_X12_atom, (sm_t7 136 (by decide +kernel)), (sm_t7 138 (by decide +kernel)), (sm_p 54 (by decide +kernel))⟩
theorem lv_X12_172_12 : sm_LV RX12 172 mX12_term 0 RX12 := ⟨mf_X12_term, (sm_t7 132 (by decide +kernel)), (sm_t7 134 (by decide +kernel)), (sm_p 53 (by decide +kernel))⟩
theorem lv_X12_178_12 : sm_LV RX12 178 mX12_unit 0 RX12 := ⟨mf_X12_unit, (sm_t7 112 (by decide +kernel)), (sm_t7 114 (by decide +kernel)), (sm_p 48 (by decide +kernel))⟩
theorem lv_X12_181_12 : sm_LV RX12 181 mX12_condition 0 RX12 := ⟨mf_X12_condition, (sm_t7 108 (by decide +kernel)), (sm_t7 110 (by decide +kernel)), (sm_p 47 (by decide +kernel))⟩
theorem lv_X12_184_12 : sm_LV RX12 184 mX12_compare 0 RX12 := ⟨mf_X12_compare, (sm_t7 147 (by decide +kernel)), (sm_t7 149 (by decide +kernel)), (sm_p 56 (by decide +kernel))⟩
theorem lv_X12_187_12 : sm_LV RX12 187 mX12_goOnAnd 0 RX12 := ⟨mf_X12_goOnAnd, (sm_t7 154 (by decide +kernel)), (sm_t7 156 (by decide +kernel)), (sm_p 57 (by decide +kernel))⟩
theorem lv_X12_190_12 : sm_LV RX12 190 mX12_goOnOr 0 RX12 := ⟨mf_X12_goOnOr, (sm_t7 158 (by decide +kernel)), (sm_t7 160 (by decide +kernel)), (sm_p 58 (by decide +kernel))⟩
theorem lv_X12_193_12 : sm_LV RX12 193 mX12_open 1 RX12 := ⟨mf_X12_open, (sm_t7 100 (by decide +kernel)), (sm_t7 102 (by decide +kernel)), (sm_p 45 (by decide +kernel))⟩
theorem lv_X12_196_12 : sm_LV RX12 196 mX12_clause 0 RX12 := ⟨mf_X12_clause, (sm_t7 104 (by decide +kernel)), (sm_t7 106 (by decide +kernel)), (sm_p 46 (by decide +kernel))⟩
theorem lv_X12_199_12 : sm_LV RX12 199 mX12_atEnd 0 RX12 := ⟨mf_X12_atEnd, (sm_t7 162 (by decide +kernel)), (sm_t7 164 (by decide +kernel)), (sm_p 59 (by decide +kernel))⟩
theorem lv_X12_223_12 : sm_LV RX12 223 mX12_workOut 3 RX12 := ⟨mf_X12_workOut, (sm_t8 26 (by decide +kernel)), (sm_t8 28 (by decide +kernel)), (sm_p 73 (by decide +kernel))⟩
theorem lv_X12_244_12 : sm_LV RX12 244 mX12_highest 1 RX12 := ⟨mf_X12_highest, (sm_t7 84 (by decide +kernel)), (sm_t7 86 (by decide +kernel)), (sm_p 41 (by decide +kernel))⟩
theorem lv_X12_247_12 : sm_LV RX12 247 mX12_digit 2 RX12 := ⟨mf_X12_digit, (sm_t7 64 (by decide +kernel)), (sm_t7 66 (by decide +kernel)), (sm_p 39 (by decide +kernel))⟩
theorem lv_X12_260_12 : sm_LV RX12 260 mX12_sleeperText 0 RX12 := ⟨mf_X12_sleeperText, (sm_t7 74 (by decide +kernel)), (sm_t7 76 (by decide +kernel)), (sm_p 40 (by decide +kernel))⟩
theorem lv_X12_263_12 : sm_LV RX12 263 mX12_thingText 0 RX12 := ⟨mf_X12_thingText, (sm_t7 88 (by decide +kernel)), (sm_t7 90 (by decide +kernel)), (sm_p 42 (by decide +kernel))⟩
theorem lv_X12_266_12 : sm_LV RX12 266 mX12_moonText 0 RX12 := ⟨mf_X12_moonText, (sm_t7 92 (by decide +kernel)), (sm_t7 94 (by decide +kernel)), (sm_p 43 (by decide +kernel))⟩
theorem lv_X12_269_12 : sm_LV RX12 269 mX12_readStreet 0 RX12 := ⟨mf_X12_readStreet, (sm_t7 48 (by decide +kernel)), (sm_t7 50 (by decide +kernel)), (sm_p 35 (by decide +kernel))⟩
theorem lv_X12_272_12 : sm_LV RX12 272 mX12_readLaw 1 RX12 := ⟨mf_X12_readLaw, (sm_t7 96 (by decide +kernel)), (sm_t7 98 (by decide +kernel)), (sm_p 44 (by decide +kernel))⟩
theorem lv_X12_306_12 : sm_LV RX12 306 mX12_takeStreet 0 RX12 := ⟨mf_X12_takeStreet, (sm_t7 170 (by decide +kernel)), (sm_t7 172 (by decide +kernel)), (sm_p 60 (by decide +kernel))⟩
theorem lv_X12_312_12 : sm_LV RX12 312 mX12_isSleeper 1 RX12 := ⟨mf_X12_isSleeper, (sm_t7 178 (by decide +kernel)), (sm_t7 180 (by decide +kernel)), (sm_p 61 (by decide +kernel))⟩
theorem lv_X12_315_12 : sm_LV RX12 315 mX12_of 2 RX12 := ⟨mf_X12_of, (sm_t7 182 (by decide +kernel)), (sm_t7 184 (by decide +kernel)), (sm_p 62 (by decide +kernel))⟩
theorem lv_X12_318_12 : sm_LV RX12 318 mX12_isThing 1 RX12 := ⟨mf_X12_isThing, (sm_t7 190 (by decide +kernel)), (sm_t7 192 (by decide +kernel)), (sm_p 63 (by decide +kernel))⟩
theorem lv_X12_321_12 : sm_LV RX12 321 mX12_isHouse 1 RX12 := ⟨mf_X12_isHouse, (sm_t7 198 (by decide +kernel)), (sm_t7 200 (by decide +kernel)), (sm_p 64 (by decide +kernel))⟩
theorem lv_X12_324_12 : sm_LV RX12 324 mX12_thingsIn 1 RX12 := ⟨mf_X12_thingsIn, (sm_t7 202 (by decide +kernel)), (sm_t7 204 (by decide +kernel)), (sm_p 65 (by decide +kernel))⟩
theorem lv_X12_334_12 : sm_LV RX12 334 mX12_isFull 1 RX12 := ⟨mf_X12_isFull, (sm_t7 230 (by decide +kernel)), (sm_t7 232 (by decide +kernel)), (sm_p 66 (by decide +kernel))⟩
theorem lv_X12_342_12 : sm_LV RX12 342 mX12_worthOf 1 RX12 := ⟨mf_X12_worthOf, (sm_t8 22 (by decide +kernel)), (sm_t8 24 (by decide +kernel)), (sm_p 72 (by decide +kernel))⟩
theorem lv_X12_351_12 : sm_LV RX12 351 mX12_ownStride 2 RX12 := ⟨mf_X12_ownStride, (sm_t8 17 (by decide +kernel)), (sm_t8 19 (by decide +kernel)), (sm_p 71 (by decide +kernel))⟩
theorem lv_X12_357_12 : sm_LV RX12 357 mX12_takenFrom 2 RX12 := ⟨mf_X12_takenFrom, (sm_t8 45 (by decide +kernel)), (sm_t8 47 (by decide +kernel)), (sm_p 74 (by decide +kernel))⟩
theorem lv_X12_366_12 : sm_LV RX12 366 mX12_areNights 1 RX12 := ⟨mf_X12_areNights, (sm_t7 238 (by decide +kernel)), (sm_t8 0 (by decide +kernel)), (sm_p 67 (by decide +kernel))⟩
theorem lv_X12_369_12 : sm_LV RX12 369 mX12_keep 0 RX12 := ⟨mf_X12_keep, (sm_t8 2 (by decide +kernel)), (sm_t8 4 (by decide +kernel)), (sm_p 68 (by decide +kernel))⟩
theorem lv_X12_372_12 : sm_LV RX12 372 mX12_draw 0 RX12 := ⟨mf_X12_draw, (sm_t8 6 (by decide +kernel)), (sm_t8 8 (by decide +kernel)), (sm_p 69 (by decide +kernel))⟩
theorem lv_X12_375_12 : sm_LV RX12 375 mX12_walk 3 RX12 := ⟨mf_X12_walk, (sm_t8 13 (by decide +kernel)), (sm_t8 15 (by decide +kernel)), (sm_p 70 (by decide +kernel))⟩
theorem lv_X12_382_12 : sm_LV RX12 382 mX12_calmNight 0 RX12 := ⟨mf_X12_calmNight, (sm_t8 67 (by decide +kernel)), (sm_t8 69 (by decide +kernel)), (sm_p 77 (by decide +kernel))⟩
theorem lv_X12_385_12 : sm_LV RX12 385 mX12_putAside 0 RX12 := ⟨mf_X12_putAside, (sm_t8 59 (by decide +kernel)), (sm_t8 61 (by decide +kernel)), (sm_p 75 (by decide +kernel))⟩
theorem lv_X12_388_12 : sm_LV RX12 388 mX12_calmNights 1 RX12 := ⟨mf_X12_calmNights, (sm_t8 63 (by decide +kernel)), (sm_t8 65 (by decide +kernel)), (sm_p 76 (by decide +kernel))⟩
theorem lv_X12_391_12 : sm_LV RX12 391 mX12_takeBack 0 RX12 := ⟨mf_X12_takeBack, (sm_t8 71 (by decide +kernel)), (sm_t8 73 (by decide +kernel)), (sm_p 78 (by decide +kernel))⟩
theorem lv_X12_395_12 : sm_LV RX12 395 mX12_stand 0 RX12 := ⟨mf_X12_stand, (sm_t8 96 (by decide +kernel)), (sm_t8 98 (by decide +kernel)), (sm_p 79 (by decide +kernel))⟩
theorem lv_X12_398_12 : sm_LV RX12 398 mX12_agrees 0 RX12 := ⟨mf_X12_agrees, (sm_t8 112 (by decide +kernel)), (sm_t8 114 (by decide +kernel)), (sm_p 81 (by decide +kernel))⟩
theorem lv_X12_402_12 : sm_LV RX12 402 mX12_fitsOf 1 RX12 := ⟨mf_X12_fitsOf, (sm_t8 108 (by decide +kernel)), (sm_t8 110 (by decide +kernel)), (sm_p 80 (by decide +kernel))⟩
theorem lv_X12_405_12 : sm_LV RX12 405 mX12_where 2 RX12 := ⟨mf_X12_where, (sm_t8 132 (by decide +kernel)), (sm_t8 56 (by decide +kernel)), (sm_t8 57 (by decide +kernel))⟩
theorem lv_X12_408_12 : sm_LV RX12 408 mX12_kindsOf 3 RX12 := ⟨mf_X12_kindsOf, (sm_t8 128 (by decide +kernel)), (sm_t8 130 (by decide +kernel)), (sm_p 82 (by decide +kernel))⟩
theorem lv_X12_411_12 : sm_LV RX12 411 mX12_keepWalk 1 RX12 := ⟨mf_X12_keepWalk, (sm_t8 142 (by decide +kernel)), (sm_t8 144 (by decide +kernel)), (sm_p 84 (by decide +kernel))⟩
theorem lv_X12_414_12 : sm_LV RX12 414 mX12_oddsFrom 5 RX12 := ⟨mf_X12_oddsFrom, (sm_t8 138 (by decide +kernel)), (sm_t8 140 (by decide +kernel)), (sm_p 83 (by decide +kernel))⟩
theorem lv_X12_418_12 : sm_LV RX12 418 mX12_takeWalk 1 RX12 := ⟨mf_X12_takeWalk, (sm_t8 146 (by decide +kernel)), (sm_t8 148 (by decide +kernel)), (sm_p 85 (by decide +kernel))⟩
theorem lv_X12_423_12 : sm_LV RX12 423 mX12_stays 2 RX12 := ⟨mf_X12_stays, (sm_t8 154 (by decide +kernel)), (sm_t8 156 (by decide +kernel)), (sm_p 86 (by decide +kernel))⟩
theorem lv_X12_426_12 : sm_LV RX12 426 mX12_comeHome 1 RX12 := ⟨mf_X12_comeHome, (sm_t8 162 (by decide +kernel)), (sm_t8 164 (by decide +kernel)), (sm_p 87 (by decide +kernel))⟩
theorem lv_X12_429_12 : sm_LV RX12 429 mX12_elsewhere 0 RX12 := ⟨mf_X12_elsewhere, (sm_t8 178 (by decide +kernel)), (sm_t8 180 (by decide +kernel)), (sm_p 90 (by decide +kernel))⟩
theorem lv_X12_432_12 : sm_LV RX12 432 mX12_noteEnds 1 RX12 := ⟨mf_X12_noteEnds, (sm_t8 170 (by decide +kernel)), (sm_t8 172 (by decide +kernel)), (sm_p 88 (by decide +kernel))⟩
theorem lv_X12_435_12 : sm_LV RX12 435 mX12_quietOf 2 RX12 := ⟨mf_X12_quietOf, (sm_t8 174 (by decide +kernel)), (sm_t8 176 (by decide +kernel)), (sm_p 89 (by decide +kernel))⟩
theorem lv_J0_335_x : sm_LV RJ0 335 mJ0_coder_7d493 0 RJ0 := ⟨mf_J0_coder_7d493, (sm_t1 147 (by decide +kernel)), (sm_t1 148 (by decide +kernel)), (sm_t1 149 (by decide +kernel))⟩
theorem lv_J0_492_x : sm_LV RJ0 492 mJ0_isLatin1_aae02 0 RJ0 := ⟨mf_J0_isLatin1_aae02, (sm_t3 53 (by decide +kernel)), (sm_t3 54 (by decide +kernel)), (sm_t3 55 (by decide +kernel))⟩
theorem lv_J0_505_x : sm_LV RJ0 505 mJ0_length_8abf5 0 RJ0 := ⟨mf_J0_length_8abf5, (sm_t3 57 (by decide +kernel)), (sm_t1 144 (by decide +kernel)), (sm_t1 145 (by decide +kernel))⟩
theorem lv_J0_633_x : sm_LV RJ0 633 mJ0_indexOf_7cf53 2 RJ0 := ⟨mf_J0_indexOf_7cf53, (sm_t3 49 (by decide +kernel)), (sm_t3 50 (by decide +kernel)), (sm_t3 51 (by decide +kernel))⟩
theorem lv_Jx4a65c_123_0 : sm_LV RJx4a65c 123 mJx4a65c_elementData_915e3 1 RJx4a65c := ⟨mf_Jx4a65c_elementData_915e3, (sm_t4 220 (by decide +kernel)), (sm_t4 221 (by decide +kernel)), (sm_t4 222 (by decide +kernel))⟩
theorem kc_X0_51 : Cond.classLink RX0 51 RX4 ∈ lw_tbl := (sm_t4 224 (by decide +kernel))
theorem ml_X1_45 : Cond.methodLink RX1 45 Lib.Math.min.name ∈ lw_tbl := (sm_t4 174 (by decide +kernel))
theorem ml_X4_39 : Cond.methodLink RX4 39 Lib.Math.max.name ∈ lw_tbl := (sm_t5 8 (by decide +kernel))
theorem ml_X6_40 : Cond.methodLink RX6 40 Lib.Math.max.name ∈ lw_tbl := (sm_t5 138 (by decide +kernel))
theorem ml_X11_280 : Cond.methodLink RX11 280 Lib.Math.max.name ∈ lw_tbl := (sm_t5 109 (by decide +kernel))
theorem ml_X12_206 : Cond.methodLink RX12 206 Lib.MathLoose.min_long.x ∈ lw_tbl := (sm_t8 38 (by decide +kernel))
theorem ml_X12_212 : Cond.methodLink RX12 212 Lib.MathLoose.max_long.x ∈ lw_tbl := (sm_t8 41 (by decide +kernel))
theorem ml_X12_438 : Cond.methodLink RX12 438 Lib.Math.max.name ∈ lw_tbl := (sm_t8 198 (by decide +kernel))
theorem ml_J1_38 : Cond.methodLink RJ1 38 Lib.Math.min.name ∈ lw_tbl := (sm_t3 65 (by decide +kernel))
theorem ml_J1_92 : Cond.methodLink RJ1 92 Lib.Math.max.name ∈ lw_tbl := (sm_t3 64 (by decide +kernel))
theorem mm_2 : Cond.initialized "java/lang/Math" ∈ lw_tbl := (sm_t1 4 (by decide +kernel))
theorem mm_max1 : Cond.static Lib.Math.max.name ∈ lw_tbl := (sm_t1 53 (by decide +kernel))
theorem mm_max3 : Cond.code Lib.Math.max.name Lib.Math.max.code 2 (some .int) ∈ lw_tbl := (sm_t1 54 (by decide +kernel))
theorem mm_min1 : Cond.static Lib.Math.min.name ∈ lw_tbl := (sm_t3 66 (by decide +kernel))
theorem mm_min3 : Cond.code Lib.Math.min.name Lib.Math.min.code 2 (some .int) ∈ lw_tbl := (sm_t3 67 (by decide +kernel))
theorem mm_max_long1 : Cond.static Lib.MathLoose.max_long.x ∈ lw_tbl := (sm_t8 42 (by decide +kernel))
theorem mm_max_long3 : Cond.code Lib.MathLoose.max_long.x Lib.MathLoose.max_long.code 4 (some .long) ∈ lw_tbl := (sm_t8 43 (by decide +kernel))
theorem mm_min_long1 : Cond.static Lib.MathLoose.min_long.x ∈ lw_tbl := (sm_t8 39 (by decide +kernel))
theorem mm_min_long3 : Cond.code Lib.MathLoose.min_long.x Lib.MathLoose.min_long.code 4 (some .long) ∈ lw_tbl := (sm_t8 40 (by decide +kernel))
