/-! ROWS of the constructors, laid by program (wip/gen/gctor.py). -/
abbrev mX0_init : sm_MD := (yX0_init, cX0_init, 3, none)
theorem mf_X0_init : sm_MF mX0_init 2 := ⟨(sm_t2 75 (by decide +kernel)), (sm_t1 16 (by decide +kernel)), ⟨by decide +kernel, by decide +kernel⟩, by decide +kernel, by decide⟩
theorem dX0_init_0 : decode cX0_init 0 = .ok (.aload_n 0, 1) := by decide +kernel
theorem dX0_init_1 : decode cX0_init 1 = .ok (.invokespecial 5, 3) := by decide +kernel
abbrev mX7_init : sm_MD := (yX7_init, cX7_init, 1, none)
theorem mf_X7_init : sm_MF mX7_init 0 := ⟨(sm_t1 224 (by decide +kernel)), (sm_t1 13 (by decide +kernel)), ⟨by decide +kernel, by decide +kernel⟩, by decide +kernel, by decide⟩
theorem li_X0_5 : sm_LI RX0 5 mX7_init 0 := ⟨mf_X7_init, (Or.inr ⟨"SleepMoves", (sm_t2 76 (by decide +kernel))⟩), (sm_t1 223 (by decide +kernel)), rfl, rfl⟩
theorem dX0_init_4 : decode cX0_init 4 = .ok (.aload_n 0, 1) := by decide +kernel
theorem dX0_init_5 : decode cX0_init 5 = .ok (.new 11, 3) := by decide +kernel
theorem kc_X0_11 : Cond.classLink RX0 11 "SleepMoves$Row" ∈ lw_tbl := (sm_t2 77 (by decide +kernel))
theorem dX0_init_8 : decode cX0_init 8 = .ok (.dup, 1) := by decide +kernel
theorem dX0_init_9 : decode cX0_init 9 = .ok (.iconst 5, 1) := by decide +kernel
theorem dX0_init_10 : decode cX0_init 10 = .ok (.invokespecial 13, 3) := by decide +kernel
theorem li_X0_13 : sm_LI RX0 13 mX3_init 1 := ⟨mf_X3_init, (Or.inl (sm_t2 78 (by decide +kernel))), (sm_t1 49 (by decide +kernel)), rfl, rfl⟩
theorem dX0_init_13 : decode cX0_init 13 = .ok (.putfield 16, 3) := by decide +kernel
theorem ff_X0_16_1 : sm_FLf RX0 16 1 6 (.object "SleepMoves$Row") := ⟨RX0, TX0, 21, tyX0, cf_X0, by decide, (sm_t2 83 (by decide +kernel)), rfl, tyX0_ok 6 (by decide), rfl⟩
theorem dX0_init_16 : decode cX0_init 16 = .ok (.aload_n 0, 1) := by decide +kernel
theorem dX0_init_17 : decode cX0_init 17 = .ok (.new 11, 3) := by decide +kernel
theorem dX0_init_20 : decode cX0_init 20 = .ok (.dup, 1) := by decide +kernel
theorem dX0_init_21 : decode cX0_init 21 = .ok (.bipush 6, 2) := by decide +kernel
theorem dX0_init_23 : decode cX0_init 23 = .ok (.invokespecial 13, 3) := by decide +kernel
theorem dX0_init_26 : decode cX0_init 26 = .ok (.putfield 20, 3) := by decide +kernel
theorem ff_X0_20_1 : sm_FLf RX0 20 1 7 (.object "SleepMoves$Row") := ⟨RX0, TX0, 21, tyX0, cf_X0, by decide, (sm_t2 85 (by decide +kernel)), rfl, tyX0_ok 7 (by decide), rfl⟩
theorem dX0_init_29 : decode cX0_init 29 = .ok (.aload_n 0, 1) := by decide +kernel
theorem dX0_init_30 : decode cX0_init 30 = .ok (.new 11, 3) := by decide +kernel
theorem dX0_init_33 : decode cX0_init 33 = .ok (.dup, 1) := by decide +kernel
theorem dX0_init_34 : decode cX0_init 34 = .ok (.bipush 8, 2) := by decide +kernel
theorem dX0_init_36 : decode cX0_init 36 = .ok (.invokespecial 13, 3) := by decide +kernel
theorem dX0_init_39 : decode cX0_init 39 = .ok (.putfield 23, 3) := by decide +kernel
theorem ff_X0_23_1 : sm_FLf RX0 23 1 8 (.object "SleepMoves$Row") := ⟨RX0, TX0, 21, tyX0, cf_X0, by decide, (sm_t2 87 (by decide +kernel)), rfl, tyX0_ok 8 (by decide), rfl⟩
theorem dX0_init_42 : decode cX0_init 42 = .ok (.aload_n 0, 1) := by decide +kernel
theorem dX0_init_43 : decode cX0_init 43 = .ok (.iconst 0, 1) := by decide +kernel
theorem dX0_init_44 : decode cX0_init 44 = .ok (.putfield 26, 3) := by decide +kernel
theorem dX0_init_47 : decode cX0_init 47 = .ok (.aload_n 0, 1) := by decide +kernel
theorem dX0_init_48 : decode cX0_init 48 = .ok (.iconst (-1), 1) := by decide +kernel
theorem dX0_init_49 : decode cX0_init 49 = .ok (.putfield 30, 3) := by decide +kernel
theorem dX0_init_52 : decode cX0_init 52 = .ok (.aload_n 0, 1) := by decide +kernel
theorem dX0_init_53 : decode cX0_init 53 = .ok (.iconst (-1), 1) := by decide +kernel
theorem dX0_init_54 : decode cX0_init 54 = .ok (.putfield 33, 3) := by decide +kernel
theorem dX0_init_57 : decode cX0_init 57 = .ok (.aload_n 0, 1) := by decide +kernel
theorem dX0_init_58 : decode cX0_init 58 = .ok (.iconst 0, 1) := by decide +kernel
theorem dX0_init_59 : decode cX0_init 59 = .ok (.putfield 36, 3) := by decide +kernel
theorem dX0_init_62 : decode cX0_init 62 = .ok (.aload_n 0, 1) := by decide +kernel
theorem dX0_init_63 : decode cX0_init 63 = .ok (.iconst 0, 1) := by decide +kernel
theorem dX0_init_64 : decode cX0_init 64 = .ok (.putfield 39, 3) := by decide +kernel
theorem dX0_init_67 : decode cX0_init 67 = .ok (.aload_n 0, 1) := by decide +kernel
theorem dX0_init_68 : decode cX0_init 68 = .ok (.iconst 0, 1) := by decide +kernel
theorem dX0_init_69 : decode cX0_init 69 = .ok (.putfield 42, 3) := by decide +kernel
theorem dX0_init_72 : decode cX0_init 72 = .ok (.aload_n 0, 1) := by decide +kernel
theorem dX0_init_73 : decode cX0_init 73 = .ok (.iconst 0, 1) := by decide +kernel
theorem dX0_init_74 : decode cX0_init 74 = .ok (.putfield 45, 3) := by decide +kernel
theorem dX0_init_77 : decode cX0_init 77 = .ok (.aload_n 0, 1) := by decide +kernel
theorem dX0_init_78 : decode cX0_init 78 = .ok (.iconst 0, 1) := by decide +kernel
theorem dX0_init_79 : decode cX0_init 79 = .ok (.putfield 48, 3) := by decide +kernel
theorem dX0_init_82 : decode cX0_init 82 = .ok (.aload_n 0, 1) := by decide +kernel
theorem dX0_init_83 : decode cX0_init 83 = .ok (.new 11, 3) := by decide +kernel
theorem dX0_init_86 : decode cX0_init 86 = .ok (.dup, 1) := by decide +kernel
theorem dX0_init_87 : decode cX0_init 87 = .ok (.ldc 53, 2) := by decide +kernel
theorem dX0_init_89 : decode cX0_init 89 = .ok (.invokevirtual 55, 3) := by decide +kernel
theorem lv_X0_55_x : sm_LV RX0 55 mJ0_length_8abf5 0 RJ0 := ⟨mf_J0_length_8abf5, (sm_t2 80 (by decide +kernel)), (sm_t1 144 (by decide +kernel)), (sm_t1 145 (by decide +kernel))⟩
theorem dX0_init_92 : decode cX0_init 92 = .ok (.invokespecial 13, 3) := by decide +kernel
theorem dX0_init_95 : decode cX0_init 95 = .ok (.putfield 61, 3) := by decide +kernel
theorem ff_X0_61_1 : sm_FLf RX0 61 1 17 (.object "SleepMoves$Row") := ⟨RX0, TX0, 21, tyX0, cf_X0, by decide, (sm_t2 101 (by decide +kernel)), rfl, tyX0_ok 17 (by decide), rfl⟩
theorem dX0_init_98 : decode cX0_init 98 = .ok (.aload_n 0, 1) := by decide +kernel
theorem dX0_init_99 : decode cX0_init 99 = .ok (.new 11, 3) := by decide +kernel
theorem dX0_init_102 : decode cX0_init 102 = .ok (.dup, 1) := by decide +kernel
theorem dX0_init_103 : decode cX0_init 103 = .ok (.sipush 160, 3) := by decide +kernel
theorem dX0_init_106 : decode cX0_init 106 = .ok (.invokespecial 13, 3) := by decide +kernel
theorem dX0_init_109 : decode cX0_init 109 = .ok (.putfield 64, 3) := by decide +kernel
theorem ff_X0_64_1 : sm_FLf RX0 64 1 18 (.object "SleepMoves$Row") := ⟨RX0, TX0, 21, tyX0, cf_X0, by decide, (sm_t2 102 (by decide +kernel)), rfl, tyX0_ok 18 (by decide), rfl⟩
theorem dX0_init_112 : decode cX0_init 112 = .ok (.aload_n 0, 1) := by decide +kernel
theorem dX0_init_113 : decode cX0_init 113 = .ok (.new 11, 3) := by decide +kernel
theorem dX0_init_116 : decode cX0_init 116 = .ok (.dup, 1) := by decide +kernel
theorem dX0_init_117 : decode cX0_init 117 = .ok (.sipush 2880, 3) := by decide +kernel
theorem dX0_init_120 : decode cX0_init 120 = .ok (.invokespecial 13, 3) := by decide +kernel
theorem dX0_init_123 : decode cX0_init 123 = .ok (.putfield 67, 3) := by decide +kernel
theorem ff_X0_67_1 : sm_FLf RX0 67 1 19 (.object "SleepMoves$Row") := ⟨RX0, TX0, 21, tyX0, cf_X0, by decide, (sm_t2 103 (by decide +kernel)), rfl, tyX0_ok 19 (by decide), rfl⟩
theorem dX0_init_126 : decode cX0_init 126 = .ok (.aload_n 0, 1) := by decide +kernel
theorem dX0_init_127 : decode cX0_init 127 = .ok (.new 11, 3) := by decide +kernel
theorem dX0_init_130 : decode cX0_init 130 = .ok (.dup, 1) := by decide +kernel
theorem dX0_init_131 : decode cX0_init 131 = .ok (.sipush 2880, 3) := by decide +kernel
theorem dX0_init_134 : decode cX0_init 134 = .ok (.invokespecial 13, 3) := by decide +kernel
theorem dX0_init_137 : decode cX0_init 137 = .ok (.putfield 70, 3) := by decide +kernel
theorem ff_X0_70_1 : sm_FLf RX0 70 1 20 (.object "SleepMoves$Row") := ⟨RX0, TX0, 21, tyX0, cf_X0, by decide, (sm_t2 104 (by decide +kernel)), rfl, tyX0_ok 20 (by decide), rfl⟩
theorem dX0_init_140 : decode cX0_init 140 = .ok (.aload_n 0, 1) := by decide +kernel
theorem dX0_init_141 : decode cX0_init 141 = .ok (.aload_n 1, 1) := by decide +kernel
theorem dX0_init_142 : decode cX0_init 142 = .ok (.putfield 73, 3) := by decide +kernel
theorem ff_X0_73_1 : sm_FLf RX0 73 1 4 (.object "SleepMoves$Street") := ⟨RX0, TX0, 21, tyX0, cf_X0, by decide, (sm_t2 81 (by decide +kernel)), rfl, tyX0_ok 4 (by decide), rfl⟩
theorem dX0_init_145 : decode cX0_init 145 = .ok (.aload_n 0, 1) := by decide +kernel
theorem dX0_init_146 : decode cX0_init 146 = .ok (.aload_n 2, 1) := by decide +kernel
theorem dX0_init_147 : decode cX0_init 147 = .ok (.putfield 77, 3) := by decide +kernel
theorem ff_X0_77_1 : sm_FLf RX0 77 1 5 (.object "java/util/ArrayList") := ⟨RX0, TX0, 21, tyX0, cf_X0, by decide, (sm_t2 82 (by decide +kernel)), rfl, tyX0_ok 5 (by decide), rfl⟩
theorem dX0_init_150 : decode cX0_init 150 = .ok (.return_, 1) := by decide +kernel
abbrev mX1_init : sm_MD := (yX1_init, cX1_init, 1, none)
theorem mf_X1_init : sm_MF mX1_init 0 := ⟨(sm_t2 21 (by decide +kernel)), (sm_t1 14 (by decide +kernel)), ⟨by decide +kernel, by decide +kernel⟩, by decide +kernel, by decide⟩
theorem dX1_init_0 : decode cX1_init 0 = .ok (.aload_n 0, 1) := by decide +kernel
theorem dX1_init_1 : decode cX1_init 1 = .ok (.invokespecial 3, 3) := by decide +kernel
theorem oi_X1_3 : Cond.methodLink RX1 3 Lib.objectInit ∈ lw_tbl := (sm_t2 22 (by decide +kernel))
theorem dX1_init_4 : decode cX1_init 4 = .ok (.aload_n 0, 1) := by decide +kernel
theorem dX1_init_5 : decode cX1_init 5 = .ok (.new 9, 3) := by decide +kernel
theorem kc_X1_9 : Cond.classLink RX1 9 "SleepMoves$Row" ∈ lw_tbl := (sm_t2 23 (by decide +kernel))
theorem dX1_init_8 : decode cX1_init 8 = .ok (.dup, 1) := by decide +kernel
theorem dX1_init_9 : decode cX1_init 9 = .ok (.bipush 60, 2) := by decide +kernel
theorem dX1_init_11 : decode cX1_init 11 = .ok (.invokespecial 11, 3) := by decide +kernel
theorem li_X1_11 : sm_LI RX1 11 mX3_init 1 := ⟨mf_X3_init, (Or.inl (sm_t2 24 (by decide +kernel))), (sm_t1 49 (by decide +kernel)), rfl, rfl⟩
theorem dX1_init_14 : decode cX1_init 14 = .ok (.putfield 14, 3) := by decide +kernel
theorem ff_X1_14_2 : sm_FLf RX1 14 2 0 (.object "SleepMoves$Row") := ⟨RX1, TX1, 5, tyX1, cf_X1, by decide, (sm_t2 25 (by decide +kernel)), rfl, tyX1_ok 0 (by decide), rfl⟩
theorem dX1_init_17 : decode cX1_init 17 = .ok (.aload_n 0, 1) := by decide +kernel
theorem dX1_init_18 : decode cX1_init 18 = .ok (.new 9, 3) := by decide +kernel
theorem dX1_init_21 : decode cX1_init 21 = .ok (.dup, 1) := by decide +kernel
theorem dX1_init_22 : decode cX1_init 22 = .ok (.bipush 60, 2) := by decide +kernel
theorem dX1_init_24 : decode cX1_init 24 = .ok (.invokespecial 11, 3) := by decide +kernel
theorem dX1_init_27 : decode cX1_init 27 = .ok (.putfield 20, 3) := by decide +kernel
theorem ff_X1_20_2 : sm_FLf RX1 20 2 1 (.object "SleepMoves$Row") := ⟨RX1, TX1, 5, tyX1, cf_X1, by decide, (sm_t2 26 (by decide +kernel)), rfl, tyX1_ok 1 (by decide), rfl⟩
theorem dX1_init_30 : decode cX1_init 30 = .ok (.aload_n 0, 1) := by decide +kernel
theorem dX1_init_31 : decode cX1_init 31 = .ok (.new 9, 3) := by decide +kernel
theorem dX1_init_34 : decode cX1_init 34 = .ok (.dup, 1) := by decide +kernel
theorem dX1_init_35 : decode cX1_init 35 = .ok (.bipush 60, 2) := by decide +kernel
theorem dX1_init_37 : decode cX1_init 37 = .ok (.invokespecial 11, 3) := by decide +kernel
theorem dX1_init_40 : decode cX1_init 40 = .ok (.putfield 23, 3) := by decide +kernel
theorem ff_X1_23_2 : sm_FLf RX1 23 2 2 (.object "SleepMoves$Row") := ⟨RX1, TX1, 5, tyX1, cf_X1, by decide, (sm_t2 27 (by decide +kernel)), rfl, tyX1_ok 2 (by decide), rfl⟩
theorem dX1_init_43 : decode cX1_init 43 = .ok (.aload_n 0, 1) := by decide +kernel
theorem dX1_init_44 : decode cX1_init 44 = .ok (.iconst 0, 1) := by decide +kernel
theorem dX1_init_45 : decode cX1_init 45 = .ok (.putfield 26, 3) := by decide +kernel
theorem dX1_init_48 : decode cX1_init 48 = .ok (.aload_n 0, 1) := by decide +kernel
theorem dX1_init_49 : decode cX1_init 49 = .ok (.iconst 0, 1) := by decide +kernel
theorem dX1_init_50 : decode cX1_init 50 = .ok (.putfield 30, 3) := by decide +kernel
theorem dX1_init_53 : decode cX1_init 53 = .ok (.return_, 1) := by decide +kernel
abbrev mX2_init : sm_MD := (yX2_init, cX2_init, 2, none)
theorem mf_X2_init : sm_MF mX2_init 1 := ⟨(sm_t1 77 (by decide +kernel)), (sm_t1 5 (by decide +kernel)), ⟨by decide +kernel, by decide +kernel⟩, by decide +kernel, by decide⟩
theorem dX2_init_0 : decode cX2_init 0 = .ok (.aload_n 0, 1) := by decide +kernel
theorem dX2_init_1 : decode cX2_init 1 = .ok (.invokespecial 3, 3) := by decide +kernel
theorem oi_X2_3 : Cond.methodLink RX2 3 Lib.objectInit ∈ lw_tbl := (sm_t1 78 (by decide +kernel))
theorem dX2_init_4 : decode cX2_init 4 = .ok (.aload_n 0, 1) := by decide +kernel
theorem dX2_init_5 : decode cX2_init 5 = .ok (.iconst 0, 1) := by decide +kernel
theorem dX2_init_6 : decode cX2_init 6 = .ok (.putfield 9, 3) := by decide +kernel
theorem dX2_init_9 : decode cX2_init 9 = .ok (.aload_n 0, 1) := by decide +kernel
theorem dX2_init_10 : decode cX2_init 10 = .ok (.aload_n 1, 1) := by decide +kernel
theorem dX2_init_11 : decode cX2_init 11 = .ok (.putfield 15, 3) := by decide +kernel
theorem ff_X2_15_5 : sm_FLf RX2 15 5 0 (.object "SleepMoves$Tape") := ⟨RX5, TX5, 5, tyX5, cf_X5, by decide, (sm_t1 158 (by decide +kernel)), rfl, tyX5_ok 0 (by decide), rfl⟩
theorem ff_X2_15_9 : sm_FLf RX2 15 9 0 (.object "SleepMoves$Tape") := ⟨RX9, TX9, 5, tyX9, cf_X9, by decide, (sm_t1 158 (by decide +kernel)), rfl, tyX9_ok 0 (by decide), rfl⟩
theorem dX2_init_14 : decode cX2_init 14 = .ok (.return_, 1) := by decide +kernel
abbrev mX5_init : sm_MD := (yX5_init, cX5_init, 2, none)
theorem mf_X5_init : sm_MF mX5_init 1 := ⟨(sm_t1 176 (by decide +kernel)), (sm_t1 9 (by decide +kernel)), ⟨by decide +kernel, by decide +kernel⟩, by decide +kernel, by decide⟩
theorem dX5_init_0 : decode cX5_init 0 = .ok (.aload_n 0, 1) := by decide +kernel
theorem dX5_init_1 : decode cX5_init 1 = .ok (.aload_n 1, 1) := by decide +kernel
theorem dX5_init_2 : decode cX5_init 2 = .ok (.invokespecial 3, 3) := by decide +kernel
theorem li_X5_3 : sm_LI RX5 3 mX2_init 1 := ⟨mf_X2_init, (Or.inl (sm_t1 177 (by decide +kernel))), (sm_t1 76 (by decide +kernel)), rfl, rfl⟩
theorem dX5_init_5 : decode cX5_init 5 = .ok (.aload_n 0, 1) := by decide +kernel
theorem dX5_init_6 : decode cX5_init 6 = .ok (.new 9, 3) := by decide +kernel
theorem kc_X5_9 : Cond.classLink RX5 9 "SleepMoves$Row" ∈ lw_tbl := (sm_t1 178 (by decide +kernel))
theorem dX5_init_9 : decode cX5_init 9 = .ok (.dup, 1) := by decide +kernel
theorem dX5_init_10 : decode cX5_init 10 = .ok (.sipush 160, 3) := by decide +kernel
theorem dX5_init_13 : decode cX5_init 13 = .ok (.invokespecial 11, 3) := by decide +kernel
theorem li_X5_11 : sm_LI RX5 11 mX3_init 1 := ⟨mf_X3_init, (Or.inl (sm_t1 179 (by decide +kernel))), (sm_t1 49 (by decide +kernel)), rfl, rfl⟩
theorem dX5_init_16 : decode cX5_init 16 = .ok (.putfield 14, 3) := by decide +kernel
theorem ff_X5_14_5 : sm_FLf RX5 14 5 2 (.object "SleepMoves$Row") := ⟨RX5, TX5, 5, tyX5, cf_X5, by decide, (sm_t1 180 (by decide +kernel)), rfl, tyX5_ok 2 (by decide), rfl⟩
theorem dX5_init_19 : decode cX5_init 19 = .ok (.aload_n 0, 1) := by decide +kernel
theorem dX5_init_20 : decode cX5_init 20 = .ok (.new 9, 3) := by decide +kernel
theorem dX5_init_23 : decode cX5_init 23 = .ok (.dup, 1) := by decide +kernel
theorem dX5_init_24 : decode cX5_init 24 = .ok (.sipush 160, 3) := by decide +kernel
theorem dX5_init_27 : decode cX5_init 27 = .ok (.invokespecial 11, 3) := by decide +kernel
theorem dX5_init_30 : decode cX5_init 30 = .ok (.putfield 20, 3) := by decide +kernel
theorem ff_X5_20_5 : sm_FLf RX5 20 5 3 (.object "SleepMoves$Row") := ⟨RX5, TX5, 5, tyX5, cf_X5, by decide, (sm_t1 181 (by decide +kernel)), rfl, tyX5_ok 3 (by decide), rfl⟩
theorem dX5_init_33 : decode cX5_init 33 = .ok (.aload_n 0, 1) := by decide +kernel
theorem dX5_init_34 : decode cX5_init 34 = .ok (.iconst 0, 1) := by decide +kernel
theorem dX5_init_35 : decode cX5_init 35 = .ok (.putfield 23, 3) := by decide +kernel
theorem dX5_init_38 : decode cX5_init 38 = .ok (.return_, 1) := by decide +kernel
abbrev mX6_init : sm_MD := (yX6_init, cX6_init, 1, none)
theorem mf_X6_init : sm_MF mX6_init 0 := ⟨(sm_t2 46 (by decide +kernel)), (sm_t1 15 (by decide +kernel)), ⟨by decide +kernel, by decide +kernel⟩, by decide +kernel, by decide⟩
theorem dX6_init_0 : decode cX6_init 0 = .ok (.aload_n 0, 1) := by decide +kernel
theorem dX6_init_1 : decode cX6_init 1 = .ok (.invokespecial 3, 3) := by decide +kernel
theorem oi_X6_3 : Cond.methodLink RX6 3 Lib.objectInit ∈ lw_tbl := (sm_t2 47 (by decide +kernel))
theorem dX6_init_4 : decode cX6_init 4 = .ok (.aload_n 0, 1) := by decide +kernel
theorem dX6_init_5 : decode cX6_init 5 = .ok (.new 9, 3) := by decide +kernel
theorem kc_X6_9 : Cond.classLink RX6 9 "SleepMoves$Row" ∈ lw_tbl := (sm_t2 48 (by decide +kernel))
theorem dX6_init_8 : decode cX6_init 8 = .ok (.dup, 1) := by decide +kernel
theorem dX6_init_9 : decode cX6_init 9 = .ok (.bipush 20, 2) := by decide +kernel
theorem dX6_init_11 : decode cX6_init 11 = .ok (.invokespecial 11, 3) := by decide +kernel
theorem li_X6_11 : sm_LI RX6 11 mX3_init 1 := ⟨mf_X3_init, (Or.inl (sm_t2 49 (by decide +kernel))), (sm_t1 49 (by decide +kernel)), rfl, rfl⟩
theorem dX6_init_14 : decode cX6_init 14 = .ok (.putfield 14, 3) := by decide +kernel
theorem ff_X6_14_6 : sm_FLf RX6 14 6 0 (.object "SleepMoves$Row") := ⟨RX6, TX6, 6, tyX6, cf_X6, by decide, (sm_t2 50 (by decide +kernel)), rfl, tyX6_ok 0 (by decide), rfl⟩
theorem dX6_init_17 : decode cX6_init 17 = .ok (.aload_n 0, 1) := by decide +kernel
theorem dX6_init_18 : decode cX6_init 18 = .ok (.new 9, 3) := by decide +kernel
theorem dX6_init_21 : decode cX6_init 21 = .ok (.dup, 1) := by decide +kernel
theorem dX6_init_22 : decode cX6_init 22 = .ok (.bipush 20, 2) := by decide +kernel
theorem dX6_init_24 : decode cX6_init 24 = .ok (.invokespecial 11, 3) := by decide +kernel
theorem dX6_init_27 : decode cX6_init 27 = .ok (.putfield 20, 3) := by decide +kernel
theorem ff_X6_20_6 : sm_FLf RX6 20 6 1 (.object "SleepMoves$Row") := ⟨RX6, TX6, 6, tyX6, cf_X6, by decide, (sm_t2 51 (by decide +kernel)), rfl, tyX6_ok 1 (by decide), rfl⟩
theorem dX6_init_30 : decode cX6_init 30 = .ok (.aload_n 0, 1) := by decide +kernel
theorem dX6_init_31 : decode cX6_init 31 = .ok (.new 9, 3) := by decide +kernel
theorem dX6_init_34 : decode cX6_init 34 = .ok (.dup, 1) := by decide +kernel
theorem dX6_init_35 : decode cX6_init 35 = .ok (.bipush 20, 2) := by decide +kernel
theorem dX6_init_37 : decode cX6_init 37 = .ok (.invokespecial 11, 3) := by decide +kernel
theorem dX6_init_40 : decode cX6_init 40 = .ok (.putfield 23, 3) := by decide +kernel
theorem ff_X6_23_6 : sm_FLf RX6 23 6 2 (.object "SleepMoves$Row") := ⟨RX6, TX6, 6, tyX6, cf_X6, by decide, (sm_t2 52 (by decide +kernel)), rfl, tyX6_ok 2 (by decide), rfl⟩
theorem dX6_init_43 : decode cX6_init 43 = .ok (.aload_n 0, 1) := by decide +kernel
theorem dX6_init_44 : decode cX6_init 44 = .ok (.new 9, 3) := by decide +kernel
theorem dX6_init_47 : decode cX6_init 47 = .ok (.dup, 1) := by decide +kernel
theorem dX6_init_48 : decode cX6_init 48 = .ok (.bipush 20, 2) := by decide +kernel
theorem dX6_init_50 : decode cX6_init 50 = .ok (.invokespecial 11, 3) := by decide +kernel
theorem dX6_init_53 : decode cX6_init 53 = .ok (.putfield 26, 3) := by decide +kernel
theorem ff_X6_26_6 : sm_FLf RX6 26 6 3 (.object "SleepMoves$Row") := ⟨RX6, TX6, 6, tyX6, cf_X6, by decide, (sm_t2 53 (by decide +kernel)), rfl, tyX6_ok 3 (by decide), rfl⟩
theorem dX6_init_56 : decode cX6_init 56 = .ok (.aload_n 0, 1) := by decide +kernel
theorem dX6_init_57 : decode cX6_init 57 = .ok (.iconst 0, 1) := by decide +kernel
theorem dX6_init_58 : decode cX6_init 58 = .ok (.putfield 29, 3) := by decide +kernel
theorem dX6_init_61 : decode cX6_init 61 = .ok (.aload_n 0, 1) := by decide +kernel
theorem dX6_init_62 : decode cX6_init 62 = .ok (.iconst 0, 1) := by decide +kernel
theorem dX6_init_63 : decode cX6_init 63 = .ok (.putfield 33, 3) := by decide +kernel
theorem dX6_init_66 : decode cX6_init 66 = .ok (.return_, 1) := by decide +kernel
theorem dX7_init_0 : decode cX7_init 0 = .ok (.aload_n 0, 1) := by decide +kernel
theorem dX7_init_1 : decode cX7_init 1 = .ok (.invokespecial 1, 3) := by decide +kernel
theorem oi_X7_1 : Cond.methodLink RX7 1 Lib.objectInit ∈ lw_tbl := (sm_t1 225 (by decide +kernel))
theorem dX7_init_4 : decode cX7_init 4 = .ok (.aload_n 0, 1) := by decide +kernel
theorem dX7_init_5 : decode cX7_init 5 = .ok (.iconst 0, 1) := by decide +kernel
theorem dX7_init_6 : decode cX7_init 6 = .ok (.putfield 7, 3) := by decide +kernel
theorem dX7_init_9 : decode cX7_init 9 = .ok (.aload_n 0, 1) := by decide +kernel
theorem dX7_init_10 : decode cX7_init 10 = .ok (.iconst 0, 1) := by decide +kernel
theorem dX7_init_11 : decode cX7_init 11 = .ok (.putfield 13, 3) := by decide +kernel
theorem dX7_init_14 : decode cX7_init 14 = .ok (.aload_n 0, 1) := by decide +kernel
theorem dX7_init_15 : decode cX7_init 15 = .ok (.iconst 0, 1) := by decide +kernel
theorem dX7_init_16 : decode cX7_init 16 = .ok (.putfield 16, 3) := by decide +kernel
theorem dX7_init_19 : decode cX7_init 19 = .ok (.aload_n 0, 1) := by decide +kernel
theorem dX7_init_20 : decode cX7_init 20 = .ok (.lconst 0, 1) := by decide +kernel
theorem dX7_init_21 : decode cX7_init 21 = .ok (.putfield 19, 3) := by decide +kernel
theorem dX7_init_24 : decode cX7_init 24 = .ok (.return_, 1) := by decide +kernel
abbrev mX8_init : sm_MD := (yX8_init, cX8_init, 1, none)
theorem mf_X8_init : sm_MF mX8_init 0 := ⟨(sm_t1 83 (by decide +kernel)), (sm_t1 7 (by decide +kernel)), ⟨by decide +kernel, by decide +kernel⟩, by decide +kernel, by decide⟩
theorem dX8_init_0 : decode cX8_init 0 = .ok (.aload_n 0, 1) := by decide +kernel
theorem dX8_init_1 : decode cX8_init 1 = .ok (.invokespecial 3, 3) := by decide +kernel
theorem oi_X8_3 : Cond.methodLink RX8 3 Lib.objectInit ∈ lw_tbl := (sm_t1 84 (by decide +kernel))
theorem dX8_init_4 : decode cX8_init 4 = .ok (.aload_n 0, 1) := by decide +kernel
theorem dX8_init_5 : decode cX8_init 5 = .ok (.iconst 0, 1) := by decide +kernel
theorem dX8_init_6 : decode cX8_init 6 = .ok (.putfield 9, 3) := by decide +kernel
theorem dX8_init_9 : decode cX8_init 9 = .ok (.aload_n 0, 1) := by decide +kernel
theorem dX8_init_10 : decode cX8_init 10 = .ok (.iconst 0, 1) := by decide +kernel
theorem dX8_init_11 : decode cX8_init 11 = .ok (.putfield 15, 3) := by decide +kernel
theorem dX8_init_14 : decode cX8_init 14 = .ok (.aload_n 0, 1) := by decide +kernel
theorem dX8_init_15 : decode cX8_init 15 = .ok (.iconst 0, 1) := by decide +kernel
theorem dX8_init_16 : decode cX8_init 16 = .ok (.putfield 18, 3) := by decide +kernel
theorem dX8_init_19 : decode cX8_init 19 = .ok (.aload_n 0, 1) := by decide +kernel
theorem dX8_init_20 : decode cX8_init 20 = .ok (.iconst 0, 1) := by decide +kernel
theorem dX8_init_21 : decode cX8_init 21 = .ok (.putfield 21, 3) := by decide +kernel
theorem dX8_init_24 : decode cX8_init 24 = .ok (.aload_n 0, 1) := by decide +kernel
theorem dX8_init_25 : decode cX8_init 25 = .ok (.iconst 0, 1) := by decide +kernel
theorem dX8_init_26 : decode cX8_init 26 = .ok (.putfield 24, 3) := by decide +kernel
theorem dX8_init_29 : decode cX8_init 29 = .ok (.aload_n 0, 1) := by decide +kernel
theorem dX8_init_30 : decode cX8_init 30 = .ok (.iconst 0, 1) := by decide +kernel
theorem dX8_init_31 : decode cX8_init 31 = .ok (.putfield 27, 3) := by decide +kernel
theorem dX8_init_34 : decode cX8_init 34 = .ok (.aload_n 0, 1) := by decide +kernel
theorem dX8_init_35 : decode cX8_init 35 = .ok (.new 30, 3) := by decide +kernel
theorem kc_X8_30 : Cond.classLink RX8 30 "SleepMoves$Row" ∈ lw_tbl := (sm_t1 85 (by decide +kernel))
theorem dX8_init_38 : decode cX8_init 38 = .ok (.dup, 1) := by decide +kernel
theorem dX8_init_39 : decode cX8_init 39 = .ok (.iconst 5, 1) := by decide +kernel
theorem dX8_init_40 : decode cX8_init 40 = .ok (.invokespecial 32, 3) := by decide +kernel
theorem li_X8_32 : sm_LI RX8 32 mX3_init 1 := ⟨mf_X3_init, (Or.inl (sm_t1 86 (by decide +kernel))), (sm_t1 49 (by decide +kernel)), rfl, rfl⟩
theorem dX8_init_43 : decode cX8_init 43 = .ok (.putfield 35, 3) := by decide +kernel
theorem ff_X8_35_8 : sm_FLf RX8 35 8 6 (.object "SleepMoves$Row") := ⟨RX8, TX8, 11, tyX8, cf_X8, by decide, (sm_t1 103 (by decide +kernel)), rfl, tyX8_ok 6 (by decide), rfl⟩
theorem dX8_init_46 : decode cX8_init 46 = .ok (.aload_n 0, 1) := by decide +kernel
theorem dX8_init_47 : decode cX8_init 47 = .ok (.new 30, 3) := by decide +kernel
theorem dX8_init_50 : decode cX8_init 50 = .ok (.dup, 1) := by decide +kernel
theorem dX8_init_51 : decode cX8_init 51 = .ok (.iconst 5, 1) := by decide +kernel
theorem dX8_init_52 : decode cX8_init 52 = .ok (.invokespecial 32, 3) := by decide +kernel
theorem dX8_init_55 : decode cX8_init 55 = .ok (.putfield 39, 3) := by decide +kernel
theorem ff_X8_39_8 : sm_FLf RX8 39 8 7 (.object "SleepMoves$Row") := ⟨RX8, TX8, 11, tyX8, cf_X8, by decide, (sm_t1 106 (by decide +kernel)), rfl, tyX8_ok 7 (by decide), rfl⟩
theorem dX8_init_58 : decode cX8_init 58 = .ok (.aload_n 0, 1) := by decide +kernel
theorem dX8_init_59 : decode cX8_init 59 = .ok (.new 30, 3) := by decide +kernel
theorem dX8_init_62 : decode cX8_init 62 = .ok (.dup, 1) := by decide +kernel
theorem dX8_init_63 : decode cX8_init 63 = .ok (.iconst 5, 1) := by decide +kernel
theorem dX8_init_64 : decode cX8_init 64 = .ok (.invokespecial 32, 3) := by decide +kernel
theorem dX8_init_67 : decode cX8_init 67 = .ok (.putfield 42, 3) := by decide +kernel
theorem ff_X8_42_8 : sm_FLf RX8 42 8 8 (.object "SleepMoves$Row") := ⟨RX8, TX8, 11, tyX8, cf_X8, by decide, (sm_t1 109 (by decide +kernel)), rfl, tyX8_ok 8 (by decide), rfl⟩
theorem dX8_init_70 : decode cX8_init 70 = .ok (.aload_n 0, 1) := by decide +kernel
theorem dX8_init_71 : decode cX8_init 71 = .ok (.new 30, 3) := by decide +kernel
theorem dX8_init_74 : decode cX8_init 74 = .ok (.dup, 1) := by decide +kernel
theorem dX8_init_75 : decode cX8_init 75 = .ok (.iconst 5, 1) := by decide +kernel
theorem dX8_init_76 : decode cX8_init 76 = .ok (.invokespecial 32, 3) := by decide +kernel
theorem dX8_init_79 : decode cX8_init 79 = .ok (.putfield 45, 3) := by decide +kernel
theorem ff_X8_45_8 : sm_FLf RX8 45 8 9 (.object "SleepMoves$Row") := ⟨RX8, TX8, 11, tyX8, cf_X8, by decide, (sm_t1 112 (by decide +kernel)), rfl, tyX8_ok 9 (by decide), rfl⟩
theorem dX8_init_82 : decode cX8_init 82 = .ok (.aload_n 0, 1) := by decide +kernel
theorem dX8_init_83 : decode cX8_init 83 = .ok (.new 30, 3) := by decide +kernel
theorem dX8_init_86 : decode cX8_init 86 = .ok (.dup, 1) := by decide +kernel
theorem dX8_init_87 : decode cX8_init 87 = .ok (.iconst 5, 1) := by decide +kernel
theorem dX8_init_88 : decode cX8_init 88 = .ok (.invokespecial 32, 3) := by decide +kernel
theorem dX8_init_91 : decode cX8_init 91 = .ok (.putfield 48, 3) := by decide +kernel
theorem ff_X8_48_8 : sm_FLf RX8 48 8 10 (.object "SleepMoves$Row") := ⟨RX8, TX8, 11, tyX8, cf_X8, by decide, (sm_t1 115 (by decide +kernel)), rfl, tyX8_ok 10 (by decide), rfl⟩
theorem dX8_init_94 : decode cX8_init 94 = .ok (.return_, 1) := by decide +kernel
abbrev mX9_init : sm_MD := (yX9_init, cX9_init, 2, none)
theorem mf_X9_init : sm_MF mX9_init 1 := ⟨(sm_t1 74 (by decide +kernel)), (sm_t1 6 (by decide +kernel)), ⟨by decide +kernel, by decide +kernel⟩, by decide +kernel, by decide⟩
theorem dX9_init_0 : decode cX9_init 0 = .ok (.aload_n 0, 1) := by decide +kernel
theorem dX9_init_1 : decode cX9_init 1 = .ok (.aload_n 1, 1) := by decide +kernel
theorem dX9_init_2 : decode cX9_init 2 = .ok (.invokespecial 3, 3) := by decide +kernel
theorem li_X9_3 : sm_LI RX9 3 mX2_init 1 := ⟨mf_X2_init, (Or.inl (sm_t1 75 (by decide +kernel))), (sm_t1 76 (by decide +kernel)), rfl, rfl⟩
theorem dX9_init_5 : decode cX9_init 5 = .ok (.aload_n 0, 1) := by decide +kernel
theorem dX9_init_6 : decode cX9_init 6 = .ok (.new 9, 3) := by decide +kernel
theorem kc_X9_9 : Cond.classLink RX9 9 "SleepMoves$Street" ∈ lw_tbl := (sm_t1 79 (by decide +kernel))
theorem in_X8 : Cond.instantiable RX8 11 ∈ lw_tbl := (sm_t1 80 (by decide +kernel))
theorem ic_X8 : Cond.initialized RX8 ∈ lw_tbl := (sm_t1 7 (by decide +kernel))
theorem dX9_init_9 : decode cX9_init 9 = .ok (.dup, 1) := by decide +kernel
theorem dX9_init_10 : decode cX9_init 10 = .ok (.invokespecial 11, 3) := by decide +kernel
theorem li_X9_11 : sm_LI RX9 11 mX8_init 0 := ⟨mf_X8_init, (Or.inr ⟨"SleepMoves", (sm_t1 81 (by decide +kernel))⟩), (sm_t1 82 (by decide +kernel)), rfl, rfl⟩
theorem dX9_init_13 : decode cX9_init 13 = .ok (.putfield 14, 3) := by decide +kernel
theorem ff_X9_14_9 : sm_FLf RX9 14 9 2 (.object "SleepMoves$Street") := ⟨RX9, TX9, 5, tyX9, cf_X9, by decide, (sm_t1 154 (by decide +kernel)), rfl, tyX9_ok 2 (by decide), rfl⟩
theorem dX9_init_16 : decode cX9_init 16 = .ok (.aload_n 0, 1) := by decide +kernel
theorem dX9_init_17 : decode cX9_init 17 = .ok (.new 20, 3) := by decide +kernel
theorem kc_X9_20 : Cond.classLink RX9 20 "SleepMoves$Row" ∈ lw_tbl := (sm_t1 141 (by decide +kernel))
theorem dX9_init_20 : decode cX9_init 20 = .ok (.dup, 1) := by decide +kernel
theorem dX9_init_21 : decode cX9_init 21 = .ok (.ldc 22, 2) := by decide +kernel
theorem dX9_init_23 : decode cX9_init 23 = .ok (.invokevirtual 24, 3) := by decide +kernel
theorem dX9_init_26 : decode cX9_init 26 = .ok (.invokespecial 30, 3) := by decide +kernel
theorem li_X9_30 : sm_LI RX9 30 mX3_init 1 := ⟨mf_X3_init, (Or.inl (sm_t1 153 (by decide +kernel))), (sm_t1 49 (by decide +kernel)), rfl, rfl⟩
theorem dX9_init_29 : decode cX9_init 29 = .ok (.putfield 33, 3) := by decide +kernel
theorem ff_X9_33_9 : sm_FLf RX9 33 9 3 (.object "SleepMoves$Row") := ⟨RX9, TX9, 5, tyX9, cf_X9, by decide, (sm_t1 156 (by decide +kernel)), rfl, tyX9_ok 3 (by decide), rfl⟩
theorem dX9_init_32 : decode cX9_init 32 = .ok (.aload_n 0, 1) := by decide +kernel
theorem dX9_init_33 : decode cX9_init 33 = .ok (.iconst 0, 1) := by decide +kernel
theorem dX9_init_34 : decode cX9_init 34 = .ok (.putfield 37, 3) := by decide +kernel
theorem dX9_init_37 : decode cX9_init 37 = .ok (.return_, 1) := by decide +kernel
abbrev mX10_init : sm_MD := (yX10_init, cX10_init, 1, none)
theorem mf_X10_init : sm_MF mX10_init 0 := ⟨(sm_t1 44 (by decide +kernel)), (sm_t1 2 (by decide +kernel)), ⟨by decide +kernel, by decide +kernel⟩, by decide +kernel, by decide⟩
theorem dX10_init_0 : decode cX10_init 0 = .ok (.aload_n 0, 1) := by decide +kernel
theorem dX10_init_1 : decode cX10_init 1 = .ok (.invokespecial 3, 3) := by decide +kernel
theorem oi_X10_3 : Cond.methodLink RX10 3 Lib.objectInit ∈ lw_tbl := (sm_t1 45 (by decide +kernel))
theorem dX10_init_4 : decode cX10_init 4 = .ok (.aload_n 0, 1) := by decide +kernel
theorem dX10_init_5 : decode cX10_init 5 = .ok (.new 9, 3) := by decide +kernel
theorem kc_X10_9 : Cond.classLink RX10 9 "SleepMoves$Row" ∈ lw_tbl := (sm_t1 46 (by decide +kernel))
theorem dX10_init_8 : decode cX10_init 8 = .ok (.dup, 1) := by decide +kernel
theorem dX10_init_9 : decode cX10_init 9 = .ok (.sipush 160, 3) := by decide +kernel
theorem dX10_init_12 : decode cX10_init 12 = .ok (.invokespecial 11, 3) := by decide +kernel
theorem li_X10_11 : sm_LI RX10 11 mX3_init 1 := ⟨mf_X3_init, (Or.inl (sm_t1 48 (by decide +kernel))), (sm_t1 49 (by decide +kernel)), rfl, rfl⟩
theorem dX10_init_15 : decode cX10_init 15 = .ok (.putfield 14, 3) := by decide +kernel
theorem ff_X10_14_10 : sm_FLf RX10 14 10 0 (.object "SleepMoves$Row") := ⟨RX10, TX10, 2, tyX10, cf_X10, by decide, (sm_t1 60 (by decide +kernel)), rfl, tyX10_ok 0 (by decide), rfl⟩
theorem dX10_init_18 : decode cX10_init 18 = .ok (.aload_n 0, 1) := by decide +kernel
theorem dX10_init_19 : decode cX10_init 19 = .ok (.iconst 0, 1) := by decide +kernel
theorem dX10_init_20 : decode cX10_init 20 = .ok (.putfield 20, 3) := by decide +kernel
theorem dX10_init_23 : decode cX10_init 23 = .ok (.return_, 1) := by decide +kernel
abbrev mX11_init : sm_MD := (yX11_init, cX11_init, 1, none)
theorem mf_X11_init : sm_MF mX11_init 0 := ⟨(sm_t1 36 (by decide +kernel)), (sm_t1 1 (by decide +kernel)), ⟨by decide +kernel, by decide +kernel⟩, by decide +kernel, by decide⟩
theorem dX11_init_0 : decode cX11_init 0 = .ok (.aload_n 0, 1) := by decide +kernel
theorem dX11_init_1 : decode cX11_init 1 = .ok (.invokespecial 1, 3) := by decide +kernel
theorem oi_X11_1 : Cond.methodLink RX11 1 Lib.objectInit ∈ lw_tbl := (sm_t1 37 (by decide +kernel))
theorem dX11_init_4 : decode cX11_init 4 = .ok (.aload_n 0, 1) := by decide +kernel
theorem dX11_init_5 : decode cX11_init 5 = .ok (.new 7, 3) := by decide +kernel
theorem kc_X11_7 : Cond.classLink RX11 7 "SleepMoves$Tape" ∈ lw_tbl := (sm_t1 40 (by decide +kernel))
theorem in_X10 : Cond.instantiable RX10 2 ∈ lw_tbl := (sm_t1 41 (by decide +kernel))
theorem ic_X10 : Cond.initialized RX10 ∈ lw_tbl := (sm_t1 2 (by decide +kernel))
theorem dX11_init_8 : decode cX11_init 8 = .ok (.dup, 1) := by decide +kernel
theorem dX11_init_9 : decode cX11_init 9 = .ok (.invokespecial 9, 3) := by decide +kernel
theorem li_X11_9 : sm_LI RX11 9 mX10_init 0 := ⟨mf_X10_init, (Or.inr ⟨"SleepMoves", (sm_t1 42 (by decide +kernel))⟩), (sm_t1 43 (by decide +kernel)), rfl, rfl⟩
theorem dX11_init_12 : decode cX11_init 12 = .ok (.putfield 10, 3) := by decide +kernel
theorem ff_X11_10_11 : sm_FLf RX11 10 11 0 (.object "SleepMoves$Tape") := ⟨RX11, TX11, 16, tyX11, cf_X11, by decide, (sm_t2 146 (by decide +kernel)), rfl, tyX11_ok 0 (by decide), rfl⟩
theorem dX11_init_15 : decode cX11_init 15 = .ok (.aload_n 0, 1) := by decide +kernel
theorem dX11_init_16 : decode cX11_init 16 = .ok (.new 16, 3) := by decide +kernel
theorem kc_X11_16 : Cond.classLink RX11 16 "SleepMoves$StreetReader" ∈ lw_tbl := (sm_t1 70 (by decide +kernel))
theorem in_X9 : Cond.instantiable RX9 5 ∈ lw_tbl := (sm_t1 71 (by decide +kernel))
theorem ic_X9 : Cond.initialized RX9 ∈ lw_tbl := (sm_t1 6 (by decide +kernel))
theorem dX11_init_19 : decode cX11_init 19 = .ok (.dup, 1) := by decide +kernel
theorem dX11_init_20 : decode cX11_init 20 = .ok (.aload_n 0, 1) := by decide +kernel
theorem dX11_init_21 : decode cX11_init 21 = .ok (.getfield 10, 3) := by decide +kernel
theorem dX11_init_24 : decode cX11_init 24 = .ok (.invokespecial 18, 3) := by decide +kernel
theorem li_X11_18 : sm_LI RX11 18 mX9_init 1 := ⟨mf_X9_init, (Or.inl (sm_t1 72 (by decide +kernel))), (sm_t1 73 (by decide +kernel)), rfl, rfl⟩
theorem dX11_init_27 : decode cX11_init 27 = .ok (.putfield 21, 3) := by decide +kernel
theorem ff_X11_21_11 : sm_FLf RX11 21 11 1 (.object "SleepMoves$StreetReader") := ⟨RX11, TX11, 16, tyX11, cf_X11, by decide, (sm_t2 147 (by decide +kernel)), rfl, tyX11_ok 1 (by decide), rfl⟩
theorem dX11_init_30 : decode cX11_init 30 = .ok (.aload_n 0, 1) := by decide +kernel
theorem dX11_init_31 : decode cX11_init 31 = .ok (.new 25, 3) := by decide +kernel
theorem kc_X11_25 : Cond.classLink RX11 25 "SleepMoves$RuleReader" ∈ lw_tbl := (sm_t1 172 (by decide +kernel))
theorem in_X5 : Cond.instantiable RX5 5 ∈ lw_tbl := (sm_t1 173 (by decide +kernel))
theorem ic_X5 : Cond.initialized RX5 ∈ lw_tbl := (sm_t1 9 (by decide +kernel))
theorem dX11_init_34 : decode cX11_init 34 = .ok (.dup, 1) := by decide +kernel
theorem dX11_init_35 : decode cX11_init 35 = .ok (.aload_n 0, 1) := by decide +kernel
theorem dX11_init_36 : decode cX11_init 36 = .ok (.getfield 10, 3) := by decide +kernel
theorem dX11_init_39 : decode cX11_init 39 = .ok (.invokespecial 27, 3) := by decide +kernel
theorem li_X11_27 : sm_LI RX11 27 mX5_init 1 := ⟨mf_X5_init, (Or.inl (sm_t1 174 (by decide +kernel))), (sm_t1 175 (by decide +kernel)), rfl, rfl⟩
theorem dX11_init_42 : decode cX11_init 42 = .ok (.putfield 28, 3) := by decide +kernel
theorem ff_X11_28_11 : sm_FLf RX11 28 11 2 (.object "SleepMoves$RuleReader") := ⟨RX11, TX11, 16, tyX11, cf_X11, by decide, (sm_t2 148 (by decide +kernel)), rfl, tyX11_ok 2 (by decide), rfl⟩
theorem dX11_init_45 : decode cX11_init 45 = .ok (.aload_n 0, 1) := by decide +kernel
theorem dX11_init_46 : decode cX11_init 46 = .ok (.new 32, 3) := by decide +kernel
theorem kc_X11_32 : Cond.classLink RX11 32 "java/util/ArrayList" ∈ lw_tbl := (sm_t1 192 (by decide +kernel))
theorem in_Jx4a65c : Cond.instantiable RJx4a65c 3 ∈ lw_tbl := (sm_t1 193 (by decide +kernel))
theorem ic_Jx4a65c : Cond.initialized RJx4a65c ∈ lw_tbl := (sm_t1 12 (by decide +kernel))
theorem dX11_init_49 : decode cX11_init 49 = .ok (.dup, 1) := by decide +kernel
theorem dX11_init_50 : decode cX11_init 50 = .ok (.invokespecial 34, 3) := by decide +kernel
abbrev mJx4a65c_init_da8c8 : sm_MD := (yJx4a65c_init_da8c8, cJx4a65c_init_da8c8, 1, none)
theorem mf_Jx4a65c_init_da8c8 : sm_MF mJx4a65c_init_da8c8 0 := ⟨(sm_t1 196 (by decide +kernel)), (sm_t1 12 (by decide +kernel)), ⟨by decide +kernel, by decide +kernel⟩, by decide +kernel, by decide⟩
theorem li_X11_34 : sm_LI RX11 34 mJx4a65c_init_da8c8 0 := ⟨mf_Jx4a65c_init_da8c8, (Or.inl (sm_t1 194 (by decide +kernel))), (sm_t1 195 (by decide +kernel)), rfl, rfl⟩
theorem dX11_init_53 : decode cX11_init 53 = .ok (.putfield 35, 3) := by decide +kernel
theorem ff_X11_35_11 : sm_FLf RX11 35 11 3 (.object "java/util/ArrayList") := ⟨RX11, TX11, 16, tyX11, cf_X11, by decide, (sm_t2 149 (by decide +kernel)), rfl, tyX11_ok 3 (by decide), rfl⟩
theorem dX11_init_56 : decode cX11_init 56 = .ok (.aload_n 0, 1) := by decide +kernel
theorem dX11_init_57 : decode cX11_init 57 = .ok (.new 39, 3) := by decide +kernel
theorem kc_X11_39 : Cond.classLink RX11 39 "SleepMoves$Street" ∈ lw_tbl := (sm_t1 218 (by decide +kernel))
theorem dX11_init_60 : decode cX11_init 60 = .ok (.dup, 1) := by decide +kernel
theorem dX11_init_61 : decode cX11_init 61 = .ok (.invokespecial 41, 3) := by decide +kernel
theorem li_X11_41 : sm_LI RX11 41 mX8_init 0 := ⟨mf_X8_init, (Or.inr ⟨"SleepMoves", (sm_t1 219 (by decide +kernel))⟩), (sm_t1 82 (by decide +kernel)), rfl, rfl⟩
theorem dX11_init_64 : decode cX11_init 64 = .ok (.putfield 42, 3) := by decide +kernel
theorem ff_X11_42_11 : sm_FLf RX11 42 11 4 (.object "SleepMoves$Street") := ⟨RX11, TX11, 16, tyX11, cf_X11, by decide, (sm_t2 150 (by decide +kernel)), rfl, tyX11_ok 4 (by decide), rfl⟩
theorem dX11_init_67 : decode cX11_init 67 = .ok (.aload_n 0, 1) := by decide +kernel
theorem dX11_init_68 : decode cX11_init 68 = .ok (.new 46, 3) := by decide +kernel
theorem kc_X11_46 : Cond.classLink RX11 46 "SleepMoves$Stand" ∈ lw_tbl := (sm_t1 220 (by decide +kernel))
theorem in_X7 : Cond.instantiable RX7 4 ∈ lw_tbl := (sm_t1 221 (by decide +kernel))
theorem ic_X7 : Cond.initialized RX7 ∈ lw_tbl := (sm_t1 13 (by decide +kernel))
theorem dX11_init_71 : decode cX11_init 71 = .ok (.dup, 1) := by decide +kernel
theorem dX11_init_72 : decode cX11_init 72 = .ok (.invokespecial 48, 3) := by decide +kernel
theorem li_X11_48 : sm_LI RX11 48 mX7_init 0 := ⟨mf_X7_init, (Or.inr ⟨"SleepMoves", (sm_t1 222 (by decide +kernel))⟩), (sm_t1 223 (by decide +kernel)), rfl, rfl⟩
theorem dX11_init_75 : decode cX11_init 75 = .ok (.putfield 49, 3) := by decide +kernel
theorem ff_X11_49_11 : sm_FLf RX11 49 11 5 (.object "SleepMoves$Stand") := ⟨RX11, TX11, 16, tyX11, cf_X11, by decide, (sm_t2 151 (by decide +kernel)), rfl, tyX11_ok 5 (by decide), rfl⟩
theorem dX11_init_78 : decode cX11_init 78 = .ok (.aload_n 0, 1) := by decide +kernel
theorem dX11_init_79 : decode cX11_init 79 = .ok (.new 46, 3) := by decide +kernel
theorem dX11_init_82 : decode cX11_init 82 = .ok (.dup, 1) := by decide +kernel
theorem dX11_init_83 : decode cX11_init 83 = .ok (.invokespecial 48, 3) := by decide +kernel
theorem dX11_init_86 : decode cX11_init 86 = .ok (.putfield 53, 3) := by decide +kernel
theorem ff_X11_53_11 : sm_FLf RX11 53 11 6 (.object "SleepMoves$Stand") := ⟨RX11, TX11, 16, tyX11, cf_X11, by decide, (sm_t2 152 (by decide +kernel)), rfl, tyX11_ok 6 (by decide), rfl⟩
theorem dX11_init_89 : decode cX11_init 89 = .ok (.aload_n 0, 1) := by decide +kernel
theorem dX11_init_90 : decode cX11_init 90 = .ok (.iconst 0, 1) := by decide +kernel
theorem dX11_init_91 : decode cX11_init 91 = .ok (.putfield 56, 3) := by decide +kernel
theorem dX11_init_94 : decode cX11_init 94 = .ok (.aload_n 0, 1) := by decide +kernel
theorem dX11_init_95 : decode cX11_init 95 = .ok (.new 60, 3) := by decide +kernel
theorem kc_X11_60 : Cond.classLink RX11 60 "SleepMoves$Past" ∈ lw_tbl := (sm_t2 17 (by decide +kernel))
theorem in_X1 : Cond.instantiable RX1 5 ∈ lw_tbl := (sm_t2 18 (by decide +kernel))
theorem ic_X1 : Cond.initialized RX1 ∈ lw_tbl := (sm_t1 14 (by decide +kernel))
theorem dX11_init_98 : decode cX11_init 98 = .ok (.dup, 1) := by decide +kernel
theorem dX11_init_99 : decode cX11_init 99 = .ok (.invokespecial 62, 3) := by decide +kernel
theorem li_X11_62 : sm_LI RX11 62 mX1_init 0 := ⟨mf_X1_init, (Or.inr ⟨"SleepMoves", (sm_t2 19 (by decide +kernel))⟩), (sm_t2 20 (by decide +kernel)), rfl, rfl⟩
theorem dX11_init_102 : decode cX11_init 102 = .ok (.putfield 63, 3) := by decide +kernel
theorem ff_X11_63_11 : sm_FLf RX11 63 11 8 (.object "SleepMoves$Past") := ⟨RX11, TX11, 16, tyX11, cf_X11, by decide, (sm_t2 154 (by decide +kernel)), rfl, tyX11_ok 8 (by decide), rfl⟩
theorem dX11_init_105 : decode cX11_init 105 = .ok (.aload_n 0, 1) := by decide +kernel
theorem dX11_init_106 : decode cX11_init 106 = .ok (.new 67, 3) := by decide +kernel
theorem kc_X11_67 : Cond.classLink RX11 67 "SleepMoves$Seen" ∈ lw_tbl := (sm_t2 42 (by decide +kernel))
theorem in_X6 : Cond.instantiable RX6 6 ∈ lw_tbl := (sm_t2 43 (by decide +kernel))
theorem ic_X6 : Cond.initialized RX6 ∈ lw_tbl := (sm_t1 15 (by decide +kernel))
theorem dX11_init_109 : decode cX11_init 109 = .ok (.dup, 1) := by decide +kernel
theorem dX11_init_110 : decode cX11_init 110 = .ok (.invokespecial 69, 3) := by decide +kernel
theorem li_X11_69 : sm_LI RX11 69 mX6_init 0 := ⟨mf_X6_init, (Or.inr ⟨"SleepMoves", (sm_t2 44 (by decide +kernel))⟩), (sm_t2 45 (by decide +kernel)), rfl, rfl⟩
theorem dX11_init_113 : decode cX11_init 113 = .ok (.putfield 70, 3) := by decide +kernel
theorem ff_X11_70_11 : sm_FLf RX11 70 11 9 (.object "SleepMoves$Seen") := ⟨RX11, TX11, 16, tyX11, cf_X11, by decide, (sm_t2 155 (by decide +kernel)), rfl, tyX11_ok 9 (by decide), rfl⟩
theorem dX11_init_116 : decode cX11_init 116 = .ok (.aload_n 0, 1) := by decide +kernel
theorem dX11_init_117 : decode cX11_init 117 = .ok (.new 74, 3) := by decide +kernel
theorem kc_X11_74 : Cond.classLink RX11 74 "SleepMoves$Dream" ∈ lw_tbl := (sm_t2 71 (by decide +kernel))
theorem in_X0 : Cond.instantiable RX0 21 ∈ lw_tbl := (sm_t2 72 (by decide +kernel))
theorem ic_X0 : Cond.initialized RX0 ∈ lw_tbl := (sm_t1 16 (by decide +kernel))
theorem dX11_init_120 : decode cX11_init 120 = .ok (.dup, 1) := by decide +kernel
theorem dX11_init_121 : decode cX11_init 121 = .ok (.aload_n 0, 1) := by decide +kernel
theorem dX11_init_122 : decode cX11_init 122 = .ok (.getfield 42, 3) := by decide +kernel
theorem dX11_init_125 : decode cX11_init 125 = .ok (.aload_n 0, 1) := by decide +kernel
theorem dX11_init_126 : decode cX11_init 126 = .ok (.getfield 35, 3) := by decide +kernel
theorem dX11_init_129 : decode cX11_init 129 = .ok (.invokespecial 76, 3) := by decide +kernel
theorem li_X11_76 : sm_LI RX11 76 mX0_init 2 := ⟨mf_X0_init, (Or.inl (sm_t2 73 (by decide +kernel))), (sm_t2 74 (by decide +kernel)), rfl, rfl⟩
theorem dX11_init_132 : decode cX11_init 132 = .ok (.putfield 79, 3) := by decide +kernel
theorem ff_X11_79_11 : sm_FLf RX11 79 11 10 (.object "SleepMoves$Dream") := ⟨RX11, TX11, 16, tyX11, cf_X11, by decide, (sm_t2 156 (by decide +kernel)), rfl, tyX11_ok 10 (by decide), rfl⟩
theorem dX11_init_135 : decode cX11_init 135 = .ok (.aload_n 0, 1) := by decide +kernel
theorem dX11_init_136 : decode cX11_init 136 = .ok (.iconst 0, 1) := by decide +kernel
theorem dX11_init_137 : decode cX11_init 137 = .ok (.putfield 83, 3) := by decide +kernel
theorem dX11_init_140 : decode cX11_init 140 = .ok (.aload_n 0, 1) := by decide +kernel
theorem dX11_init_141 : decode cX11_init 141 = .ok (.new 87, 3) := by decide +kernel
theorem kc_X11_87 : Cond.classLink RX11 87 "SleepMoves$Row" ∈ lw_tbl := (sm_t2 144 (by decide +kernel))
theorem dX11_init_144 : decode cX11_init 144 = .ok (.dup, 1) := by decide +kernel
theorem dX11_init_145 : decode cX11_init 145 = .ok (.sipush 201, 3) := by decide +kernel
theorem dX11_init_148 : decode cX11_init 148 = .ok (.invokespecial 89, 3) := by decide +kernel
theorem li_X11_89 : sm_LI RX11 89 mX3_init 1 := ⟨mf_X3_init, (Or.inl (sm_t2 145 (by decide +kernel))), (sm_t1 49 (by decide +kernel)), rfl, rfl⟩
theorem dX11_init_151 : decode cX11_init 151 = .ok (.putfield 92, 3) := by decide +kernel
theorem ff_X11_92_11 : sm_FLf RX11 92 11 12 (.object "SleepMoves$Row") := ⟨RX11, TX11, 16, tyX11, cf_X11, by decide, (sm_t2 158 (by decide +kernel)), rfl, tyX11_ok 12 (by decide), rfl⟩
theorem dX11_init_154 : decode cX11_init 154 = .ok (.aload_n 0, 1) := by decide +kernel
theorem dX11_init_155 : decode cX11_init 155 = .ok (.new 87, 3) := by decide +kernel
theorem dX11_init_158 : decode cX11_init 158 = .ok (.dup, 1) := by decide +kernel
theorem dX11_init_159 : decode cX11_init 159 = .ok (.sipush 1296, 3) := by decide +kernel
theorem dX11_init_162 : decode cX11_init 162 = .ok (.invokespecial 89, 3) := by decide +kernel
theorem dX11_init_165 : decode cX11_init 165 = .ok (.putfield 96, 3) := by decide +kernel
theorem ff_X11_96_11 : sm_FLf RX11 96 11 13 (.object "SleepMoves$Row") := ⟨RX11, TX11, 16, tyX11, cf_X11, by decide, (sm_t2 159 (by decide +kernel)), rfl, tyX11_ok 13 (by decide), rfl⟩
theorem dX11_init_168 : decode cX11_init 168 = .ok (.aload_n 0, 1) := by decide +kernel
theorem dX11_init_169 : decode cX11_init 169 = .ok (.new 87, 3) := by decide +kernel
theorem dX11_init_172 : decode cX11_init 172 = .ok (.dup, 1) := by decide +kernel
theorem dX11_init_173 : decode cX11_init 173 = .ok (.sipush 1296, 3) := by decide +kernel
theorem dX11_init_176 : decode cX11_init 176 = .ok (.invokespecial 89, 3) := by decide +kernel
theorem dX11_init_179 : decode cX11_init 179 = .ok (.putfield 99, 3) := by decide +kernel
theorem ff_X11_99_11 : sm_FLf RX11 99 11 14 (.object "SleepMoves$Row") := ⟨RX11, TX11, 16, tyX11, cf_X11, by decide, (sm_t2 160 (by decide +kernel)), rfl, tyX11_ok 14 (by decide), rfl⟩
theorem dX11_init_182 : decode cX11_init 182 = .ok (.aload_n 0, 1) := by decide +kernel
theorem dX11_init_183 : decode cX11_init 183 = .ok (.new 87, 3) := by decide +kernel
theorem dX11_init_186 : decode cX11_init 186 = .ok (.dup, 1) := by decide +kernel
theorem dX11_init_187 : decode cX11_init 187 = .ok (.sipush 1296, 3) := by decide +kernel
theorem dX11_init_190 : decode cX11_init 190 = .ok (.invokespecial 89, 3) := by decide +kernel
theorem dX11_init_193 : decode cX11_init 193 = .ok (.putfield 102, 3) := by decide +kernel
theorem ff_X11_102_11 : sm_FLf RX11 102 11 15 (.object "SleepMoves$Row") := ⟨RX11, TX11, 16, tyX11, cf_X11, by decide, (sm_t2 161 (by decide +kernel)), rfl, tyX11_ok 15 (by decide), rfl⟩
theorem dX11_init_196 : decode cX11_init 196 = .ok (.return_, 1) := by decide +kernel
abbrev mX12_init : sm_MD := (yX12_init, cX12_init, 2, none)
theorem mf_X12_init : sm_MF mX12_init 0 := ⟨(sm_t6 81 (by decide +kernel)), (sm_t1 17 (by decide +kernel)), ⟨by decide +kernel, by decide +kernel⟩, by decide +kernel, by decide⟩
theorem dX12_init_0 : decode cX12_init 0 = .ok (.aload_n 0, 1) := by decide +kernel
theorem dX12_init_1 : decode cX12_init 1 = .ok (.invokespecial 3, 3) := by decide +kernel
theorem oi_X12_3 : Cond.methodLink RX12 3 Lib.objectInit ∈ lw_tbl := (sm_t6 82 (by decide +kernel))
theorem dX12_init_4 : decode cX12_init 4 = .ok (.aload_n 0, 1) := by decide +kernel
theorem dX12_init_5 : decode cX12_init 5 = .ok (.sipush 160, 3) := by decide +kernel
theorem dX12_init_8 : decode cX12_init 8 = .ok (.newarray .int, 2) := by decide +kernel
theorem dX12_init_10 : decode cX12_init 10 = .ok (.putfield 9, 3) := by decide +kernel
theorem ff_X12_9_12 : sm_FLf RX12 9 12 1 (.array .int) := ⟨RX12, TX12, 61, tyX12, cf_X12, by decide, (sm_t6 84 (by decide +kernel)), rfl, tyX12_ok 1 (by decide), rfl⟩
theorem dX12_init_13 : decode cX12_init 13 = .ok (.aload_n 0, 1) := by decide +kernel
theorem dX12_init_14 : decode cX12_init 14 = .ok (.sipush 2040, 3) := by decide +kernel
theorem dX12_init_17 : decode cX12_init 17 = .ok (.newarray .int, 2) := by decide +kernel
theorem dX12_init_19 : decode cX12_init 19 = .ok (.putfield 13, 3) := by decide +kernel
theorem ff_X12_13_12 : sm_FLf RX12 13 12 6 (.array .int) := ⟨RX12, TX12, 61, tyX12, cf_X12, by decide, (sm_t6 89 (by decide +kernel)), rfl, tyX12_ok 6 (by decide), rfl⟩
theorem dX12_init_22 : decode cX12_init 22 = .ok (.aload_n 0, 1) := by decide +kernel
theorem dX12_init_23 : decode cX12_init 23 = .ok (.sipush 2040, 3) := by decide +kernel
theorem dX12_init_26 : decode cX12_init 26 = .ok (.newarray .int, 2) := by decide +kernel
theorem dX12_init_28 : decode cX12_init 28 = .ok (.putfield 16, 3) := by decide +kernel
theorem ff_X12_16_12 : sm_FLf RX12 16 12 7 (.array .int) := ⟨RX12, TX12, 61, tyX12, cf_X12, by decide, (sm_t6 90 (by decide +kernel)), rfl, tyX12_ok 7 (by decide), rfl⟩
theorem dX12_init_31 : decode cX12_init 31 = .ok (.aload_n 0, 1) := by decide +kernel
theorem dX12_init_32 : decode cX12_init 32 = .ok (.bipush 6, 2) := by decide +kernel
theorem dX12_init_34 : decode cX12_init 34 = .ok (.newarray .int, 2) := by decide +kernel
theorem dX12_init_36 : decode cX12_init 36 = .ok (.putfield 19, 3) := by decide +kernel
theorem ff_X12_19_12 : sm_FLf RX12 19 12 8 (.array .int) := ⟨RX12, TX12, 61, tyX12, cf_X12, by decide, (sm_t6 91 (by decide +kernel)), rfl, tyX12_ok 8 (by decide), rfl⟩
theorem dX12_init_39 : decode cX12_init 39 = .ok (.aload_n 0, 1) := by decide +kernel
theorem dX12_init_40 : decode cX12_init 40 = .ok (.bipush 6, 2) := by decide +kernel
theorem dX12_init_42 : decode cX12_init 42 = .ok (.newarray .int, 2) := by decide +kernel
theorem dX12_init_44 : decode cX12_init 44 = .ok (.putfield 22, 3) := by decide +kernel
theorem ff_X12_22_12 : sm_FLf RX12 22 12 9 (.array .int) := ⟨RX12, TX12, 61, tyX12, cf_X12, by decide, (sm_t6 92 (by decide +kernel)), rfl, tyX12_ok 9 (by decide), rfl⟩
theorem dX12_init_47 : decode cX12_init 47 = .ok (.aload_n 0, 1) := by decide +kernel
theorem dX12_init_48 : decode cX12_init 48 = .ok (.sipush 540, 3) := by decide +kernel
theorem dX12_init_51 : decode cX12_init 51 = .ok (.newarray .int, 2) := by decide +kernel
theorem dX12_init_53 : decode cX12_init 53 = .ok (.putfield 25, 3) := by decide +kernel
theorem ff_X12_25_12 : sm_FLf RX12 25 12 10 (.array .int) := ⟨RX12, TX12, 61, tyX12, cf_X12, by decide, (sm_t6 93 (by decide +kernel)), rfl, tyX12_ok 10 (by decide), rfl⟩
theorem dX12_init_56 : decode cX12_init 56 = .ok (.aload_n 0, 1) := by decide +kernel
theorem dX12_init_57 : decode cX12_init 57 = .ok (.sipush 540, 3) := by decide +kernel
theorem dX12_init_60 : decode cX12_init 60 = .ok (.newarray .int, 2) := by decide +kernel
theorem dX12_init_62 : decode cX12_init 62 = .ok (.putfield 28, 3) := by decide +kernel
theorem ff_X12_28_12 : sm_FLf RX12 28 12 11 (.array .int) := ⟨RX12, TX12, 61, tyX12, cf_X12, by decide, (sm_t6 94 (by decide +kernel)), rfl, tyX12_ok 11 (by decide), rfl⟩
theorem dX12_init_65 : decode cX12_init 65 = .ok (.aload_n 0, 1) := by decide +kernel
theorem dX12_init_66 : decode cX12_init 66 = .ok (.sipush 540, 3) := by decide +kernel
theorem dX12_init_69 : decode cX12_init 69 = .ok (.newarray .int, 2) := by decide +kernel
theorem dX12_init_71 : decode cX12_init 71 = .ok (.putfield 31, 3) := by decide +kernel
theorem ff_X12_31_12 : sm_FLf RX12 31 12 12 (.array .int) := ⟨RX12, TX12, 61, tyX12, cf_X12, by decide, (sm_t6 95 (by decide +kernel)), rfl, tyX12_ok 12 (by decide), rfl⟩
theorem dX12_init_74 : decode cX12_init 74 = .ok (.aload_n 0, 1) := by decide +kernel
theorem dX12_init_75 : decode cX12_init 75 = .ok (.bipush 6, 2) := by decide +kernel
theorem dX12_init_77 : decode cX12_init 77 = .ok (.newarray .int, 2) := by decide +kernel
theorem dX12_init_79 : decode cX12_init 79 = .ok (.putfield 34, 3) := by decide +kernel
theorem ff_X12_34_12 : sm_FLf RX12 34 12 15 (.array .int) := ⟨RX12, TX12, 61, tyX12, cf_X12, by decide, (sm_t6 98 (by decide +kernel)), rfl, tyX12_ok 15 (by decide), rfl⟩
theorem dX12_init_82 : decode cX12_init 82 = .ok (.aload_n 0, 1) := by decide +kernel
theorem dX12_init_83 : decode cX12_init 83 = .ok (.bipush 80, 2) := by decide +kernel
theorem dX12_init_85 : decode cX12_init 85 = .ok (.newarray .int, 2) := by decide +kernel
theorem dX12_init_87 : decode cX12_init 87 = .ok (.putfield 37, 3) := by decide +kernel
theorem ff_X12_37_12 : sm_FLf RX12 37 12 16 (.array .int) := ⟨RX12, TX12, 61, tyX12, cf_X12, by decide, (sm_t6 99 (by decide +kernel)), rfl, tyX12_ok 16 (by decide), rfl⟩
theorem dX12_init_90 : decode cX12_init 90 = .ok (.aload_n 0, 1) := by decide +kernel
theorem dX12_init_91 : decode cX12_init 91 = .ok (.bipush 20, 2) := by decide +kernel
theorem dX12_init_93 : decode cX12_init 93 = .ok (.newarray .int, 2) := by decide +kernel
theorem dX12_init_95 : decode cX12_init 95 = .ok (.putfield 40, 3) := by decide +kernel
theorem ff_X12_40_12 : sm_FLf RX12 40 12 17 (.array .int) := ⟨RX12, TX12, 61, tyX12, cf_X12, by decide, (sm_t6 100 (by decide +kernel)), rfl, tyX12_ok 17 (by decide), rfl⟩
theorem dX12_init_98 : decode cX12_init 98 = .ok (.aload_n 0, 1) := by decide +kernel
theorem dX12_init_99 : decode cX12_init 99 = .ok (.bipush 8, 2) := by decide +kernel
theorem dX12_init_101 : decode cX12_init 101 = .ok (.newarray .int, 2) := by decide +kernel
theorem dX12_init_103 : decode cX12_init 103 = .ok (.putfield 43, 3) := by decide +kernel
theorem ff_X12_43_12 : sm_FLf RX12 43 12 18 (.array .int) := ⟨RX12, TX12, 61, tyX12, cf_X12, by decide, (sm_t6 101 (by decide +kernel)), rfl, tyX12_ok 18 (by decide), rfl⟩
theorem dX12_init_106 : decode cX12_init 106 = .ok (.aload_n 0, 1) := by decide +kernel
theorem dX12_init_107 : decode cX12_init 107 = .ok (.bipush 20, 2) := by decide +kernel
theorem dX12_init_109 : decode cX12_init 109 = .ok (.newarray .int, 2) := by decide +kernel
theorem dX12_init_111 : decode cX12_init 111 = .ok (.putfield 46, 3) := by decide +kernel
theorem ff_X12_46_12 : sm_FLf RX12 46 12 24 (.array .int) := ⟨RX12, TX12, 61, tyX12, cf_X12, by decide, (sm_t6 107 (by decide +kernel)), rfl, tyX12_ok 24 (by decide), rfl⟩
theorem dX12_init_114 : decode cX12_init 114 = .ok (.aload_n 0, 1) := by decide +kernel
theorem dX12_init_115 : decode cX12_init 115 = .ok (.bipush 8, 2) := by decide +kernel
theorem dX12_init_117 : decode cX12_init 117 = .ok (.newarray .int, 2) := by decide +kernel
theorem dX12_init_119 : decode cX12_init 119 = .ok (.putfield 49, 3) := by decide +kernel
theorem ff_X12_49_12 : sm_FLf RX12 49 12 25 (.array .int) := ⟨RX12, TX12, 61, tyX12, cf_X12, by decide, (sm_t6 108 (by decide +kernel)), rfl, tyX12_ok 25 (by decide), rfl⟩
theorem dX12_init_122 : decode cX12_init 122 = .ok (.aload_n 0, 1) := by decide +kernel
theorem dX12_init_123 : decode cX12_init 123 = .ok (.iconst 5, 1) := by decide +kernel
theorem dX12_init_124 : decode cX12_init 124 = .ok (.newarray .int, 2) := by decide +kernel
theorem dX12_init_126 : decode cX12_init 126 = .ok (.putfield 52, 3) := by decide +kernel
theorem ff_X12_52_12 : sm_FLf RX12 52 12 31 (.array .int) := ⟨RX12, TX12, 61, tyX12, cf_X12, by decide, (sm_t6 114 (by decide +kernel)), rfl, tyX12_ok 31 (by decide), rfl⟩
theorem dX12_init_129 : decode cX12_init 129 = .ok (.aload_n 0, 1) := by decide +kernel
theorem dX12_init_130 : decode cX12_init 130 = .ok (.bipush 8, 2) := by decide +kernel
theorem dX12_init_132 : decode cX12_init 132 = .ok (.newarray .int, 2) := by decide +kernel
theorem dX12_init_134 : decode cX12_init 134 = .ok (.putfield 55, 3) := by decide +kernel
theorem ff_X12_55_12 : sm_FLf RX12 55 12 32 (.array .int) := ⟨RX12, TX12, 61, tyX12, cf_X12, by decide, (sm_t6 115 (by decide +kernel)), rfl, tyX12_ok 32 (by decide), rfl⟩
theorem dX12_init_137 : decode cX12_init 137 = .ok (.aload_n 0, 1) := by decide +kernel
theorem dX12_init_138 : decode cX12_init 138 = .ok (.iconst 5, 1) := by decide +kernel
theorem dX12_init_139 : decode cX12_init 139 = .ok (.newarray .int, 2) := by decide +kernel
theorem dX12_init_141 : decode cX12_init 141 = .ok (.dup, 1) := by decide +kernel
theorem dX12_init_142 : decode cX12_init 142 = .ok (.iconst 0, 1) := by decide +kernel
theorem dX12_init_143 : decode cX12_init 143 = .ok (.iconst (-1), 1) := by decide +kernel
theorem dX12_init_144 : decode cX12_init 144 = .ok (.iastore, 1) := by decide +kernel
theorem dX12_init_145 : decode cX12_init 145 = .ok (.dup, 1) := by decide +kernel
theorem dX12_init_146 : decode cX12_init 146 = .ok (.iconst 1, 1) := by decide +kernel
theorem dX12_init_147 : decode cX12_init 147 = .ok (.iconst (-1), 1) := by decide +kernel
theorem dX12_init_148 : decode cX12_init 148 = .ok (.iastore, 1) := by decide +kernel
theorem dX12_init_149 : decode cX12_init 149 = .ok (.dup, 1) := by decide +kernel
theorem dX12_init_150 : decode cX12_init 150 = .ok (.iconst 2, 1) := by decide +kernel
theorem dX12_init_151 : decode cX12_init 151 = .ok (.iconst (-1), 1) := by decide +kernel
theorem dX12_init_152 : decode cX12_init 152 = .ok (.iastore, 1) := by decide +kernel
theorem dX12_init_153 : decode cX12_init 153 = .ok (.dup, 1) := by decide +kernel
theorem dX12_init_154 : decode cX12_init 154 = .ok (.iconst 3, 1) := by decide +kernel
theorem dX12_init_155 : decode cX12_init 155 = .ok (.iconst (-1), 1) := by decide +kernel
theorem dX12_init_156 : decode cX12_init 156 = .ok (.iastore, 1) := by decide +kernel
theorem dX12_init_157 : decode cX12_init 157 = .ok (.dup, 1) := by decide +kernel
theorem dX12_init_158 : decode cX12_init 158 = .ok (.iconst 4, 1) := by decide +kernel
theorem dX12_init_159 : decode cX12_init 159 = .ok (.iconst (-1), 1) := by decide +kernel
theorem dX12_init_160 : decode cX12_init 160 = .ok (.iastore, 1) := by decide +kernel
theorem dX12_init_161 : decode cX12_init 161 = .ok (.putfield 58, 3) := by decide +kernel
theorem ff_X12_58_12 : sm_FLf RX12 58 12 37 (.array .int) := ⟨RX12, TX12, 61, tyX12, cf_X12, by decide, (sm_t6 120 (by decide +kernel)), rfl, tyX12_ok 37 (by decide), rfl⟩
theorem dX12_init_164 : decode cX12_init 164 = .ok (.aload_n 0, 1) := by decide +kernel
theorem dX12_init_165 : decode cX12_init 165 = .ok (.iconst 5, 1) := by decide +kernel
theorem dX12_init_166 : decode cX12_init 166 = .ok (.newarray .int, 2) := by decide +kernel
theorem dX12_init_168 : decode cX12_init 168 = .ok (.putfield 61, 3) := by decide +kernel
theorem ff_X12_61_12 : sm_FLf RX12 61 12 38 (.array .int) := ⟨RX12, TX12, 61, tyX12, cf_X12, by decide, (sm_t6 121 (by decide +kernel)), rfl, tyX12_ok 38 (by decide), rfl⟩
theorem dX12_init_171 : decode cX12_init 171 = .ok (.aload_n 0, 1) := by decide +kernel
theorem dX12_init_172 : decode cX12_init 172 = .ok (.iconst (-1), 1) := by decide +kernel
theorem dX12_init_173 : decode cX12_init 173 = .ok (.putfield 64, 3) := by decide +kernel
theorem dX12_init_176 : decode cX12_init 176 = .ok (.aload_n 0, 1) := by decide +kernel
theorem dX12_init_177 : decode cX12_init 177 = .ok (.sipush 480, 3) := by decide +kernel
theorem dX12_init_180 : decode cX12_init 180 = .ok (.newarray .int, 2) := by decide +kernel
theorem dX12_init_182 : decode cX12_init 182 = .ok (.putfield 68, 3) := by decide +kernel
theorem ff_X12_68_12 : sm_FLf RX12 68 12 40 (.array .int) := ⟨RX12, TX12, 61, tyX12, cf_X12, by decide, (sm_t6 123 (by decide +kernel)), rfl, tyX12_ok 40 (by decide), rfl⟩
theorem dX12_init_185 : decode cX12_init 185 = .ok (.aload_n 0, 1) := by decide +kernel
theorem dX12_init_186 : decode cX12_init 186 = .ok (.bipush 60, 2) := by decide +kernel
theorem dX12_init_188 : decode cX12_init 188 = .ok (.newarray .long, 2) := by decide +kernel
theorem dX12_init_190 : decode cX12_init 190 = .ok (.putfield 71, 3) := by decide +kernel
theorem ff_X12_71_12 : sm_FLf RX12 71 12 41 (.array .long) := ⟨RX12, TX12, 61, tyX12, cf_X12, by decide, (sm_t6 124 (by decide +kernel)), rfl, tyX12_ok 41 (by decide), rfl⟩
theorem dX12_init_193 : decode cX12_init 193 = .ok (.aload_n 0, 1) := by decide +kernel
theorem dX12_init_194 : decode cX12_init 194 = .ok (.bipush 8, 2) := by decide +kernel
theorem dX12_init_196 : decode cX12_init 196 = .ok (.newarray .int, 2) := by decide +kernel
theorem dX12_init_198 : decode cX12_init 198 = .ok (.putfield 75, 3) := by decide +kernel
theorem ff_X12_75_12 : sm_FLf RX12 75 12 43 (.array .int) := ⟨RX12, TX12, 61, tyX12, cf_X12, by decide, (sm_t6 126 (by decide +kernel)), rfl, tyX12_ok 43 (by decide), rfl⟩
theorem dX12_init_201 : decode cX12_init 201 = .ok (.aload_n 0, 1) := by decide +kernel
theorem dX12_init_202 : decode cX12_init 202 = .ok (.iconst 5, 1) := by decide +kernel
theorem dX12_init_203 : decode cX12_init 203 = .ok (.newarray .int, 2) := by decide +kernel
theorem dX12_init_205 : decode cX12_init 205 = .ok (.putfield 78, 3) := by decide +kernel
theorem ff_X12_78_12 : sm_FLf RX12 78 12 45 (.array .int) := ⟨RX12, TX12, 61, tyX12, cf_X12, by decide, (sm_t6 128 (by decide +kernel)), rfl, tyX12_ok 45 (by decide), rfl⟩
theorem dX12_init_208 : decode cX12_init 208 = .ok (.aload_n 0, 1) := by decide +kernel
theorem dX12_init_209 : decode cX12_init 209 = .ok (.sipush 201, 3) := by decide +kernel
theorem dX12_init_212 : decode cX12_init 212 = .ok (.newarray .int, 2) := by decide +kernel
theorem dX12_init_214 : decode cX12_init 214 = .ok (.putfield 81, 3) := by decide +kernel
theorem ff_X12_81_12 : sm_FLf RX12 81 12 46 (.array .int) := ⟨RX12, TX12, 61, tyX12, cf_X12, by decide, (sm_t6 129 (by decide +kernel)), rfl, tyX12_ok 46 (by decide), rfl⟩
theorem dX12_init_217 : decode cX12_init 217 = .ok (.aload_n 0, 1) := by decide +kernel
theorem dX12_init_218 : decode cX12_init 218 = .ok (.bipush 20, 2) := by decide +kernel
theorem dX12_init_220 : decode cX12_init 220 = .ok (.newarray .int, 2) := by decide +kernel
theorem dX12_init_222 : decode cX12_init 222 = .ok (.putfield 84, 3) := by decide +kernel
theorem ff_X12_84_12 : sm_FLf RX12 84 12 47 (.array .int) := ⟨RX12, TX12, 61, tyX12, cf_X12, by decide, (sm_t6 130 (by decide +kernel)), rfl, tyX12_ok 47 (by decide), rfl⟩
theorem dX12_init_225 : decode cX12_init 225 = .ok (.aload_n 0, 1) := by decide +kernel
theorem dX12_init_226 : decode cX12_init 226 = .ok (.bipush 20, 2) := by decide +kernel
theorem dX12_init_228 : decode cX12_init 228 = .ok (.newarray .int, 2) := by decide +kernel
theorem dX12_init_230 : decode cX12_init 230 = .ok (.putfield 87, 3) := by decide +kernel
theorem ff_X12_87_12 : sm_FLf RX12 87 12 48 (.array .int) := ⟨RX12, TX12, 61, tyX12, cf_X12, by decide, (sm_t6 131 (by decide +kernel)), rfl, tyX12_ok 48 (by decide), rfl⟩
theorem dX12_init_233 : decode cX12_init 233 = .ok (.aload_n 0, 1) := by decide +kernel
theorem dX12_init_234 : decode cX12_init 234 = .ok (.bipush 20, 2) := by decide +kernel
theorem dX12_init_236 : decode cX12_init 236 = .ok (.newarray .int, 2) := by decide +kernel
theorem dX12_init_238 : decode cX12_init 238 = .ok (.putfield 90, 3) := by decide +kernel
theorem ff_X12_90_12 : sm_FLf RX12 90 12 49 (.array .int) := ⟨RX12, TX12, 61, tyX12, cf_X12, by decide, (sm_t6 132 (by decide +kernel)), rfl, tyX12_ok 49 (by decide), rfl⟩
theorem dX12_init_241 : decode cX12_init 241 = .ok (.aload_n 0, 1) := by decide +kernel
theorem dX12_init_242 : decode cX12_init 242 = .ok (.bipush 20, 2) := by decide +kernel
theorem dX12_init_244 : decode cX12_init 244 = .ok (.newarray .boolean, 2) := by decide +kernel
theorem dX12_init_246 : decode cX12_init 246 = .ok (.putfield 93, 3) := by decide +kernel
theorem ff_X12_93_12 : sm_FLf RX12 93 12 50 (.array .boolean) := ⟨RX12, TX12, 61, tyX12, cf_X12, by decide, (sm_t6 133 (by decide +kernel)), rfl, tyX12_ok 50 (by decide), rfl⟩
theorem dX12_init_249 : decode cX12_init 249 = .ok (.aload_n 0, 1) := by decide +kernel
theorem dX12_init_250 : decode cX12_init 250 = .ok (.sipush 328, 3) := by decide +kernel
theorem dX12_init_253 : decode cX12_init 253 = .ok (.newarray .int, 2) := by decide +kernel
theorem dX12_init_255 : decode cX12_init 255 = .ok (.putfield 97, 3) := by decide +kernel
theorem ff_X12_97_12 : sm_FLf RX12 97 12 52 (.array .int) := ⟨RX12, TX12, 61, tyX12, cf_X12, by decide, (sm_t6 135 (by decide +kernel)), rfl, tyX12_ok 52 (by decide), rfl⟩
theorem dX12_init_258 : decode cX12_init 258 = .ok (.aload_n 0, 1) := by decide +kernel
theorem dX12_init_259 : decode cX12_init 259 = .ok (.sipush 205, 3) := by decide +kernel
theorem dX12_init_262 : decode cX12_init 262 = .ok (.newarray .int, 2) := by decide +kernel
theorem dX12_init_264 : decode cX12_init 264 = .ok (.putfield 100, 3) := by decide +kernel
theorem ff_X12_100_12 : sm_FLf RX12 100 12 53 (.array .int) := ⟨RX12, TX12, 61, tyX12, cf_X12, by decide, (sm_t6 136 (by decide +kernel)), rfl, tyX12_ok 53 (by decide), rfl⟩
theorem dX12_init_267 : decode cX12_init 267 = .ok (.aload_n 0, 1) := by decide +kernel
theorem dX12_init_268 : decode cX12_init 268 = .ok (.bipush 8, 2) := by decide +kernel
theorem dX12_init_270 : decode cX12_init 270 = .ok (.newarray .int, 2) := by decide +kernel
theorem dX12_init_272 : decode cX12_init 272 = .ok (.putfield 103, 3) := by decide +kernel
theorem ff_X12_103_12 : sm_FLf RX12 103 12 54 (.array .int) := ⟨RX12, TX12, 61, tyX12, cf_X12, by decide, (sm_t6 137 (by decide +kernel)), rfl, tyX12_ok 54 (by decide), rfl⟩
theorem dX12_init_275 : decode cX12_init 275 = .ok (.aload_n 0, 1) := by decide +kernel
theorem dX12_init_276 : decode cX12_init 276 = .ok (.bipush 8, 2) := by decide +kernel
theorem dX12_init_278 : decode cX12_init 278 = .ok (.newarray .int, 2) := by decide +kernel
theorem dX12_init_280 : decode cX12_init 280 = .ok (.putfield 106, 3) := by decide +kernel
theorem ff_X12_106_12 : sm_FLf RX12 106 12 55 (.array .int) := ⟨RX12, TX12, 61, tyX12, cf_X12, by decide, (sm_t6 138 (by decide +kernel)), rfl, tyX12_ok 55 (by decide), rfl⟩
theorem dX12_init_283 : decode cX12_init 283 = .ok (.aload_n 0, 1) := by decide +kernel
theorem dX12_init_284 : decode cX12_init 284 = .ok (.bipush 8, 2) := by decide +kernel
theorem dX12_init_286 : decode cX12_init 286 = .ok (.newarray .int, 2) := by decide +kernel
theorem dX12_init_288 : decode cX12_init 288 = .ok (.putfield 109, 3) := by decide +kernel
theorem ff_X12_109_12 : sm_FLf RX12 109 12 56 (.array .int) := ⟨RX12, TX12, 61, tyX12, cf_X12, by decide, (sm_t6 139 (by decide +kernel)), rfl, tyX12_ok 56 (by decide), rfl⟩
theorem dX12_init_291 : decode cX12_init 291 = .ok (.iconst 0, 1) := by decide +kernel
theorem dX12_init_292 : decode cX12_init 292 = .ok (.istore_n 1, 1) := by decide +kernel
theorem dX12_init_293 : decode cX12_init 293 = .ok (.iload_n 1, 1) := by decide +kernel
theorem dX12_init_294 : decode cX12_init 294 = .ok (.iconst 5, 1) := by decide +kernel
theorem dX12_init_295 : decode cX12_init 295 = .ok (.if_icmp .ge 16, 3) := by decide +kernel
theorem dX12_init_298 : decode cX12_init 298 = .ok (.aload_n 0, 1) := by decide +kernel
theorem dX12_init_299 : decode cX12_init 299 = .ok (.getfield 52, 3) := by decide +kernel
theorem dX12_init_302 : decode cX12_init 302 = .ok (.iload_n 1, 1) := by decide +kernel
theorem dX12_init_303 : decode cX12_init 303 = .ok (.iconst (-1), 1) := by decide +kernel
theorem dX12_init_304 : decode cX12_init 304 = .ok (.iastore, 1) := by decide +kernel
theorem dX12_init_305 : decode cX12_init 305 = .ok (.iinc 1 1, 3) := by decide +kernel
theorem dX12_init_308 : decode cX12_init 308 = .ok (.goto (-15), 3) := by decide +kernel
theorem dX12_init_311 : decode cX12_init 311 = .ok (.return_, 1) := by decide +kernel
abbrev mJxa1e45_init_da8c8 : sm_MD := (yJxa1e45_init_da8c8, cJxa1e45_init_da8c8, 1, none)
theorem mf_Jxa1e45_init_da8c8 : sm_MF mJxa1e45_init_da8c8 0 := ⟨(sm_t1 202 (by decide +kernel)), (sm_t1 10 (by decide +kernel)), ⟨by decide +kernel, by decide +kernel⟩, by decide +kernel, by decide⟩
theorem dJxa1e45_init_da8c8_0 : decode cJxa1e45_init_da8c8 0 = .ok (.aload_n 0, 1) := by decide +kernel
theorem dJxa1e45_init_da8c8_1 : decode cJxa1e45_init_da8c8 1 = .ok (.invokespecial 1, 3) := by decide +kernel
theorem oi_Jxa1e45_1 : Cond.methodLink RJxa1e45 1 Lib.objectInit ∈ lw_tbl := (sm_t1 203 (by decide +kernel))
theorem dJxa1e45_init_da8c8_4 : decode cJxa1e45_init_da8c8 4 = .ok (.return_, 1) := by decide +kernel
abbrev mJxc12de_init_da8c8 : sm_MD := (yJxc12de_init_da8c8, cJxc12de_init_da8c8, 1, none)
theorem mf_Jxc12de_init_da8c8 : sm_MF mJxc12de_init_da8c8 0 := ⟨(sm_t1 199 (by decide +kernel)), (sm_t1 11 (by decide +kernel)), ⟨by decide +kernel, by decide +kernel⟩, by decide +kernel, by decide⟩
theorem dJxc12de_init_da8c8_0 : decode cJxc12de_init_da8c8 0 = .ok (.aload_n 0, 1) := by decide +kernel
theorem dJxc12de_init_da8c8_1 : decode cJxc12de_init_da8c8 1 = .ok (.invokespecial 1, 3) := by decide +kernel
theorem li_Jxc12de_1 : sm_LI RJxc12de 1 mJxa1e45_init_da8c8 0 := ⟨mf_Jxa1e45_init_da8c8, (Or.inl (sm_t1 200 (by decide +kernel))), (sm_t1 201 (by decide +kernel)), rfl, rfl⟩
theorem dJxc12de_init_da8c8_4 : decode cJxc12de_init_da8c8 4 = .ok (.aload_n 0, 1) := by decide +kernel
theorem dJxc12de_init_da8c8_5 : decode cJxc12de_init_da8c8 5 = .ok (.iconst 0, 1) := by decide +kernel
theorem dJxc12de_init_da8c8_6 : decode cJxc12de_init_da8c8 6 = .ok (.putfield 7, 3) := by decide +kernel
theorem fl_Jxc12de_7_0 : sm_FLk RJxc12de 7 0 0 .int false := ⟨RJx4a65c, TJx4a65c, 3, tyJx4a65c, "java/util/AbstractList", cf_Jx4a65c, by decide, (Or.inl (sm_t1 208 (by decide +kernel))), (Or.inl rfl), tyJx4a65c_ok 0 (by decide), rfl⟩
theorem dJxc12de_init_da8c8_9 : decode cJxc12de_init_da8c8 9 = .ok (.return_, 1) := by decide +kernel
theorem dJx4a65c_init_da8c8_0 : decode cJx4a65c_init_da8c8 0 = .ok (.aload_n 0, 1) := by decide +kernel
theorem dJx4a65c_init_da8c8_1 : decode cJx4a65c_init_da8c8 1 = .ok (.invokespecial 1, 3) := by decide +kernel
theorem li_Jx4a65c_1 : sm_LI RJx4a65c 1 mJxc12de_init_da8c8 0 := ⟨mf_Jxc12de_init_da8c8, (Or.inl (sm_t1 197 (by decide +kernel))), (sm_t1 198 (by decide +kernel)), rfl, rfl⟩
theorem dJx4a65c_init_da8c8_4 : decode cJx4a65c_init_da8c8 4 = .ok (.aload_n 0, 1) := by decide +kernel
theorem dJx4a65c_init_da8c8_5 : decode cJx4a65c_init_da8c8 5 = .ok (.getstatic 39, 3) := by decide +kernel
theorem dJx4a65c_init_da8c8_8 : decode cJx4a65c_init_da8c8 8 = .ok (.putfield 9, 3) := by decide +kernel
theorem dJx4a65c_init_da8c8_11 : decode cJx4a65c_init_da8c8 11 = .ok (.return_, 1) := by decide +kernel
