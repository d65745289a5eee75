/-! ROWS of the law, laid by program (wip/gen/glaw.py). -/
abbrev mX11_sleeper : sm_MD := (yX11_sleeper, cX11_sleeper, 3, (some .int))
theorem mf_X11_sleeper : sm_MF mX11_sleeper 2 := ⟨(sm_t6 10 (by decide +kernel)), (sm_t1 1 (by decide +kernel)), ⟨by decide +kernel, by decide +kernel⟩, by decide +kernel, by decide⟩
theorem dX11_sleeper_0 : decode cX11_sleeper 0 = .ok (.aload_n 0, 1) := by decide +kernel
theorem dX11_sleeper_1 : decode cX11_sleeper 1 = .ok (.getfield 42, 3) := by decide +kernel
theorem dX11_sleeper_4 : decode cX11_sleeper 4 = .ok (.iload_n 1, 1) := by decide +kernel
theorem dX11_sleeper_5 : decode cX11_sleeper 5 = .ok (.invokevirtual 163, 3) := by decide +kernel
theorem dX11_sleeper_8 : decode cX11_sleeper 8 = .ok (.ifCond .ne 13, 3) := by decide +kernel
theorem dX11_sleeper_11 : decode cX11_sleeper 11 = .ok (.new 167, 3) := by decide +kernel
theorem kc_X11_167 : Cond.classLink RX11 167 "java/util/NoSuchElementException" ∈ lw_tbl := (sm_t6 11 (by decide +kernel))
theorem dX11_sleeper_14 : decode cX11_sleeper 14 = .ok (.dup, 1) := by decide +kernel
theorem dX11_sleeper_15 : decode cX11_sleeper 15 = .ok (.ldc 169, 2) := by decide +kernel
theorem dX11_sleeper_17 : decode cX11_sleeper 17 = .ok (.invokespecial 171, 3) := by decide +kernel
theorem dX11_sleeper_20 : decode cX11_sleeper 20 = .ok (.athrow, 1) := by decide +kernel
theorem dX11_sleeper_21 : decode cX11_sleeper 21 = .ok (.iload_n 2, 1) := by decide +kernel
theorem dX11_sleeper_22 : decode cX11_sleeper 22 = .ok (.tableswitch 94 0 4 #[34, 46, 58, 70, 82], 34) := by decide +kernel
theorem dX11_sleeper_56 : decode cX11_sleeper 56 = .ok (.aload_n 0, 1) := by decide +kernel
theorem dX11_sleeper_57 : decode cX11_sleeper 57 = .ok (.getfield 42, 3) := by decide +kernel
theorem dX11_sleeper_60 : decode cX11_sleeper 60 = .ok (.getfield 174, 3) := by decide +kernel
theorem fl_X11_174_8 : sm_FLk RX11 174 8 6 (.object "SleepMoves$Row") true := ⟨RX8, TX8, 11, tyX8, "SleepMoves$Street", cf_X8, by decide, (Or.inl (sm_t1 104 (by decide +kernel))), (Or.inl rfl), tyX8_ok 6 (by decide), rfl⟩
theorem dX11_sleeper_63 : decode cX11_sleeper 63 = .ok (.iload_n 1, 1) := by decide +kernel
theorem dX11_sleeper_64 : decode cX11_sleeper 64 = .ok (.invokevirtual 177, 3) := by decide +kernel
theorem dX11_sleeper_67 : decode cX11_sleeper 67 = .ok (.ireturn, 1) := by decide +kernel
theorem dX11_sleeper_68 : decode cX11_sleeper 68 = .ok (.aload_n 0, 1) := by decide +kernel
theorem dX11_sleeper_69 : decode cX11_sleeper 69 = .ok (.getfield 42, 3) := by decide +kernel
theorem dX11_sleeper_72 : decode cX11_sleeper 72 = .ok (.getfield 180, 3) := by decide +kernel
theorem fl_X11_180_8 : sm_FLk RX11 180 8 7 (.object "SleepMoves$Row") true := ⟨RX8, TX8, 11, tyX8, "SleepMoves$Street", cf_X8, by decide, (Or.inl (sm_t1 107 (by decide +kernel))), (Or.inl rfl), tyX8_ok 7 (by decide), rfl⟩
theorem dX11_sleeper_75 : decode cX11_sleeper 75 = .ok (.iload_n 1, 1) := by decide +kernel
theorem dX11_sleeper_76 : decode cX11_sleeper 76 = .ok (.invokevirtual 177, 3) := by decide +kernel
theorem dX11_sleeper_79 : decode cX11_sleeper 79 = .ok (.ireturn, 1) := by decide +kernel
theorem dX11_sleeper_80 : decode cX11_sleeper 80 = .ok (.aload_n 0, 1) := by decide +kernel
theorem dX11_sleeper_81 : decode cX11_sleeper 81 = .ok (.getfield 42, 3) := by decide +kernel
theorem dX11_sleeper_84 : decode cX11_sleeper 84 = .ok (.getfield 183, 3) := by decide +kernel
theorem fl_X11_183_8 : sm_FLk RX11 183 8 8 (.object "SleepMoves$Row") true := ⟨RX8, TX8, 11, tyX8, "SleepMoves$Street", cf_X8, by decide, (Or.inl (sm_t1 111 (by decide +kernel))), (Or.inl rfl), tyX8_ok 8 (by decide), rfl⟩
theorem dX11_sleeper_87 : decode cX11_sleeper 87 = .ok (.iload_n 1, 1) := by decide +kernel
theorem dX11_sleeper_88 : decode cX11_sleeper 88 = .ok (.invokevirtual 177, 3) := by decide +kernel
theorem dX11_sleeper_91 : decode cX11_sleeper 91 = .ok (.ireturn, 1) := by decide +kernel
theorem dX11_sleeper_92 : decode cX11_sleeper 92 = .ok (.aload_n 0, 1) := by decide +kernel
theorem dX11_sleeper_93 : decode cX11_sleeper 93 = .ok (.getfield 42, 3) := by decide +kernel
theorem dX11_sleeper_96 : decode cX11_sleeper 96 = .ok (.getfield 186, 3) := by decide +kernel
theorem fl_X11_186_8 : sm_FLk RX11 186 8 9 (.object "SleepMoves$Row") true := ⟨RX8, TX8, 11, tyX8, "SleepMoves$Street", cf_X8, by decide, (Or.inl (sm_t1 114 (by decide +kernel))), (Or.inl rfl), tyX8_ok 9 (by decide), rfl⟩
theorem dX11_sleeper_99 : decode cX11_sleeper 99 = .ok (.iload_n 1, 1) := by decide +kernel
theorem dX11_sleeper_100 : decode cX11_sleeper 100 = .ok (.invokevirtual 177, 3) := by decide +kernel
theorem dX11_sleeper_103 : decode cX11_sleeper 103 = .ok (.ireturn, 1) := by decide +kernel
theorem dX11_sleeper_104 : decode cX11_sleeper 104 = .ok (.aload_n 0, 1) := by decide +kernel
theorem dX11_sleeper_105 : decode cX11_sleeper 105 = .ok (.getfield 42, 3) := by decide +kernel
theorem dX11_sleeper_108 : decode cX11_sleeper 108 = .ok (.getfield 189, 3) := by decide +kernel
theorem dX11_sleeper_111 : decode cX11_sleeper 111 = .ok (.iload_n 1, 1) := by decide +kernel
theorem dX11_sleeper_112 : decode cX11_sleeper 112 = .ok (.invokevirtual 177, 3) := by decide +kernel
theorem dX11_sleeper_115 : decode cX11_sleeper 115 = .ok (.ireturn, 1) := by decide +kernel
theorem dX11_sleeper_116 : decode cX11_sleeper 116 = .ok (.new 167, 3) := by decide +kernel
theorem dX11_sleeper_119 : decode cX11_sleeper 119 = .ok (.dup, 1) := by decide +kernel
theorem dX11_sleeper_120 : decode cX11_sleeper 120 = .ok (.ldc 192, 2) := by decide +kernel
theorem dX11_sleeper_122 : decode cX11_sleeper 122 = .ok (.invokespecial 171, 3) := by decide +kernel
theorem dX11_sleeper_125 : decode cX11_sleeper 125 = .ok (.athrow, 1) := by decide +kernel
abbrev mL_sleeper : sm_MD := (yL_sleeper, cL_sleeper, 5, (some .int))
theorem dL_sleeper_0 : decode cL_sleeper 0 = .ok (.aload_n 3, 1) := by decide +kernel
theorem dL_sleeper_1 : decode cL_sleeper 1 = .ok (.iconst 0, 1) := by decide +kernel
theorem dL_sleeper_2 : decode cL_sleeper 2 = .ok (.aload_n 0, 1) := by decide +kernel
theorem dL_sleeper_3 : decode cL_sleeper 3 = .ok (.iload_n 1, 1) := by decide +kernel
theorem dL_sleeper_4 : decode cL_sleeper 4 = .ok (.iload_n 2, 1) := by decide +kernel
theorem dL_sleeper_5 : decode cL_sleeper 5 = .ok (.invokevirtual 7, 3) := by decide +kernel
theorem lv_L_7_11 : sm_LV RL 7 mX11_sleeper 2 RX11 := ⟨mf_X11_sleeper, (sm_t6 7 (by decide +kernel)), (sm_t6 8 (by decide +kernel)), (sm_t6 9 (by decide +kernel))⟩
theorem dL_sleeper_8 : decode cL_sleeper 8 = .ok (.i2l, 1) := by decide +kernel
theorem dL_sleeper_9 : decode cL_sleeper 9 = .ok (.lastore, 1) := by decide +kernel
theorem dL_sleeper_10 : decode cL_sleeper 10 = .ok (.goto 7, 3) := by decide +kernel
theorem dL_sleeper_13 : decode cL_sleeper 13 = .ok (.astore 4, 2) := by decide +kernel
theorem dL_sleeper_15 : decode cL_sleeper 15 = .ok (.iconst 1, 1) := by decide +kernel
theorem dL_sleeper_16 : decode cL_sleeper 16 = .ok (.ireturn, 1) := by decide +kernel
theorem dL_sleeper_17 : decode cL_sleeper 17 = .ok (.iconst 0, 1) := by decide +kernel
theorem dL_sleeper_18 : decode cL_sleeper 18 = .ok (.ireturn, 1) := by decide +kernel
abbrev mL_law : sm_MD := (yL_law, cL_law, 7, (some .boolean))
theorem kc_L_8 : Cond.classLink RL 8 "SleepMoves" ∈ lw_tbl := (sm_t1 32 (by decide +kernel))
theorem in_X11 : Cond.instantiable RX11 16 ∈ lw_tbl := (sm_t1 33 (by decide +kernel))
theorem ic_X11 : Cond.initialized RX11 ∈ lw_tbl := (sm_t1 1 (by decide +kernel))
theorem li_L_15 : sm_LI RL 15 mX11_init 0 := ⟨mf_X11_init, (Or.inl (sm_t1 34 (by decide +kernel))), (sm_t1 35 (by decide +kernel)), rfl, rfl⟩
theorem kc_L_16 : Cond.classLink RL 16 "SleepMovesModel" ∈ lw_tbl := (sm_t6 77 (by decide +kernel))
theorem in_X12 : Cond.instantiable RX12 61 ∈ lw_tbl := (sm_t6 78 (by decide +kernel))
theorem ic_X12 : Cond.initialized RX12 ∈ lw_tbl := (sm_t1 17 (by decide +kernel))
theorem li_L_18 : sm_LI RL 18 mX12_init 0 := ⟨mf_X12_init, (Or.inl (sm_t6 79 (by decide +kernel))), (sm_t6 80 (by decide +kernel)), rfl, rfl⟩
theorem lv_L_19_11 : sm_LV RL 19 mX11_feed 5 RX11 := ⟨mf_X11_feed, (sm_t2 195 (by decide +kernel)), (sm_t2 196 (by decide +kernel)), (sm_t2 197 (by decide +kernel))⟩
theorem lv_L_23_12 : sm_LV RL 23 mX12_feed 5 RX12 := ⟨mf_X12_feed, (sm_t7 33 (by decide +kernel)), (sm_t7 34 (by decide +kernel)), (sm_t7 35 (by decide +kernel))⟩
theorem lv_L_24_11 : sm_LV RL 24 mX11_end 1 RX11 := ⟨mf_X11_end, (sm_t2 210 (by decide +kernel)), (sm_t2 211 (by decide +kernel)), (sm_t2 212 (by decide +kernel))⟩
theorem lv_L_28_12 : sm_LV RL 28 mX12_end 1 RX12 := ⟨mf_X12_end, (sm_t7 40 (by decide +kernel)), (sm_t7 41 (by decide +kernel)), (sm_t7 42 (by decide +kernel))⟩
theorem lv_L_29_11 : sm_LV RL 29 mX11_fault 1 RX11 := ⟨mf_X11_fault, (sm_t2 217 (by decide +kernel)), (sm_t2 218 (by decide +kernel)), (sm_t2 219 (by decide +kernel))⟩
theorem lv_L_33_12 : sm_LV RL 33 mX12_fault 1 RX12 := ⟨mf_X12_fault, (sm_t7 44 (by decide +kernel)), (sm_t7 45 (by decide +kernel)), (sm_t7 46 (by decide +kernel))⟩
theorem lv_L_34_11 : sm_LV RL 34 mX11_text 1 RX11 := ⟨mf_X11_text, (sm_t3 225 (by decide +kernel)), (sm_t3 226 (by decide +kernel)), (sm_t3 227 (by decide +kernel))⟩
theorem lv_L_37_12 : sm_LV RL 37 mX12_text 1 RX12 := ⟨mf_X12_text, (sm_t7 166 (by decide +kernel)), (sm_t7 167 (by decide +kernel)), (sm_t7 168 (by decide +kernel))⟩
theorem lv_L_43_12 : sm_LV RL 43 mX12_sleeper 2 RX12 := ⟨mf_X12_sleeper, (sm_t7 174 (by decide +kernel)), (sm_t7 175 (by decide +kernel)), (sm_t7 176 (by decide +kernel))⟩
theorem lv_L_44_12 : sm_LV RL 44 mX12_thrown 0 RX12 := ⟨mf_X12_thrown, (sm_t7 29 (by decide +kernel)), (sm_t7 30 (by decide +kernel)), (sm_t7 31 (by decide +kernel))⟩
theorem lv_L_48_11 : sm_LV RL 48 mX11_thing 2 RX11 := ⟨mf_X11_thing, (sm_t4 91 (by decide +kernel)), (sm_t4 92 (by decide +kernel)), (sm_t4 93 (by decide +kernel))⟩
theorem lv_L_51_12 : sm_LV RL 51 mX12_thing 2 RX12 := ⟨mf_X12_thing, (sm_t7 186 (by decide +kernel)), (sm_t7 187 (by decide +kernel)), (sm_t7 188 (by decide +kernel))⟩
theorem lv_L_52_11 : sm_LV RL 52 mX11_house 2 RX11 := ⟨mf_X11_house, (sm_t4 103 (by decide +kernel)), (sm_t4 104 (by decide +kernel)), (sm_t4 105 (by decide +kernel))⟩
theorem lv_L_55_12 : sm_LV RL 55 mX12_house 2 RX12 := ⟨mf_X12_house, (sm_t7 194 (by decide +kernel)), (sm_t7 195 (by decide +kernel)), (sm_t7 196 (by decide +kernel))⟩
theorem lv_L_56_11 : sm_LV RL 56 mX11_rule 2 RX11 := ⟨mf_X11_rule, (sm_t4 134 (by decide +kernel)), (sm_t4 135 (by decide +kernel)), (sm_t4 136 (by decide +kernel))⟩
theorem lv_L_60_12 : sm_LV RL 60 mX12_rule 2 RX12 := ⟨mf_X12_rule, (sm_t7 206 (by decide +kernel)), (sm_t7 207 (by decide +kernel)), (sm_t7 208 (by decide +kernel))⟩
theorem lv_L_61_11 : sm_LV RL 61 mX11_risk 1 RX11 := ⟨mf_X11_risk, (sm_t4 148 (by decide +kernel)), (sm_t4 149 (by decide +kernel)), (sm_t4 150 (by decide +kernel))⟩
theorem lv_L_64_12 : sm_LV RL 64 mX12_risk 1 RX12 := ⟨mf_X12_risk, (sm_t7 210 (by decide +kernel)), (sm_t7 211 (by decide +kernel)), (sm_t7 212 (by decide +kernel))⟩
theorem lv_L_67_11 : sm_LV RL 67 mX11_seed 1 RX11 := ⟨mf_X11_seed, (sm_t4 152 (by decide +kernel)), (sm_t4 153 (by decide +kernel)), (sm_t4 154 (by decide +kernel))⟩
theorem lv_L_71_12 : sm_LV RL 71 mX12_seed 1 RX12 := ⟨mf_X12_seed, (sm_t7 214 (by decide +kernel)), (sm_t7 215 (by decide +kernel)), (sm_t7 216 (by decide +kernel))⟩
theorem lv_L_72_11 : sm_LV RL 72 mX11_put 2 RX11 := ⟨mf_X11_put, (sm_t4 156 (by decide +kernel)), (sm_t4 157 (by decide +kernel)), (sm_t4 158 (by decide +kernel))⟩
theorem lv_L_75_12 : sm_LV RL 75 mX12_put 2 RX12 := ⟨mf_X12_put, (sm_t7 218 (by decide +kernel)), (sm_t7 219 (by decide +kernel)), (sm_t7 220 (by decide +kernel))⟩
theorem lv_L_76_11 : sm_LV RL 76 mX11_lock 2 RX11 := ⟨mf_X11_lock, (sm_t4 161 (by decide +kernel)), (sm_t4 162 (by decide +kernel)), (sm_t4 163 (by decide +kernel))⟩
theorem lv_L_80_12 : sm_LV RL 80 mX12_lock 2 RX12 := ⟨mf_X12_lock, (sm_t7 222 (by decide +kernel)), (sm_t7 223 (by decide +kernel)), (sm_t7 224 (by decide +kernel))⟩
theorem lv_L_81_11 : sm_LV RL 81 mX11_nights 1 RX11 := ⟨mf_X11_nights, (sm_t4 165 (by decide +kernel)), (sm_t4 166 (by decide +kernel)), (sm_t4 167 (by decide +kernel))⟩
theorem lv_L_84_12 : sm_LV RL 84 mX12_nights 1 RX12 := ⟨mf_X12_nights, (sm_t7 234 (by decide +kernel)), (sm_t7 235 (by decide +kernel)), (sm_t7 236 (by decide +kernel))⟩
theorem lv_L_85_11 : sm_LV RL 85 mX11_undo 0 RX11 := ⟨mf_X11_undo, (sm_t5 37 (by decide +kernel)), (sm_t5 38 (by decide +kernel)), (sm_t5 39 (by decide +kernel))⟩
theorem lv_L_88_12 : sm_LV RL 88 mX12_undo 0 RX12 := ⟨mf_X12_undo, (sm_t8 51 (by decide +kernel)), (sm_t8 52 (by decide +kernel)), (sm_t8 53 (by decide +kernel))⟩
theorem lv_L_89_11 : sm_LV RL 89 mX11_moon 1 RX11 := ⟨mf_X11_moon, (sm_t4 117 (by decide +kernel)), (sm_t4 118 (by decide +kernel)), (sm_t4 119 (by decide +kernel))⟩
theorem lv_L_92_12 : sm_LV RL 92 mX12_moon 1 RX12 := ⟨mf_X12_moon, (sm_t7 226 (by decide +kernel)), (sm_t7 227 (by decide +kernel)), (sm_t7 228 (by decide +kernel))⟩
theorem lv_L_93_11 : sm_LV RL 93 mX11_where 2 RX11 := ⟨mf_X11_where, (sm_t5 55 (by decide +kernel)), (sm_t5 56 (by decide +kernel)), (sm_t5 57 (by decide +kernel))⟩
theorem lv_L_96_12 : sm_LV RL 96 mX12_where 2 RX12 := ⟨mf_X12_where, (sm_t8 55 (by decide +kernel)), (sm_t8 56 (by decide +kernel)), (sm_t8 57 (by decide +kernel))⟩
theorem lv_L_97_11 : sm_LV RL 97 mX11_carries 2 RX11 := ⟨mf_X11_carries, (sm_t5 68 (by decide +kernel)), (sm_t5 69 (by decide +kernel)), (sm_t5 70 (by decide +kernel))⟩
theorem lv_L_100_12 : sm_LV RL 100 mX12_carries 2 RX12 := ⟨mf_X12_carries, (sm_t8 75 (by decide +kernel)), (sm_t8 76 (by decide +kernel)), (sm_t8 77 (by decide +kernel))⟩
theorem lv_L_101_11 : sm_LV RL 101 mX11_touched 2 RX11 := ⟨mf_X11_touched, (sm_t5 73 (by decide +kernel)), (sm_t5 74 (by decide +kernel)), (sm_t5 75 (by decide +kernel))⟩
theorem lv_L_104_12 : sm_LV RL 104 mX12_touched 2 RX12 := ⟨mf_X12_touched, (sm_t8 79 (by decide +kernel)), (sm_t8 80 (by decide +kernel)), (sm_t8 81 (by decide +kernel))⟩
theorem lv_L_105_11 : sm_LV RL 105 mX11_empty 2 RX11 := ⟨mf_X11_empty, (sm_t5 77 (by decide +kernel)), (sm_t5 78 (by decide +kernel)), (sm_t5 79 (by decide +kernel))⟩
theorem lv_L_108_12 : sm_LV RL 108 mX12_empty 2 RX12 := ⟨mf_X12_empty, (sm_t8 83 (by decide +kernel)), (sm_t8 84 (by decide +kernel)), (sm_t8 85 (by decide +kernel))⟩
theorem lv_L_109_11 : sm_LV RL 109 mX11_met 4 RX11 := ⟨mf_X11_met, (sm_t5 81 (by decide +kernel)), (sm_t5 82 (by decide +kernel)), (sm_t5 83 (by decide +kernel))⟩
theorem lv_L_113_12 : sm_LV RL 113 mX12_met 4 RX12 := ⟨mf_X12_met, (sm_t8 87 (by decide +kernel)), (sm_t8 88 (by decide +kernel)), (sm_t8 89 (by decide +kernel))⟩
theorem lv_L_114_11 : sm_LV RL 114 mX11_round 1 RX11 := ⟨mf_X11_round, (sm_t5 85 (by decide +kernel)), (sm_t5 86 (by decide +kernel)), (sm_t5 87 (by decide +kernel))⟩
theorem lv_L_117_12 : sm_LV RL 117 mX12_round 1 RX12 := ⟨mf_X12_round, (sm_t8 92 (by decide +kernel)), (sm_t8 93 (by decide +kernel)), (sm_t8 94 (by decide +kernel))⟩
theorem lv_L_118_11 : sm_LV RL 118 mX11_see 4 RX11 := ⟨mf_X11_see, (sm_t5 129 (by decide +kernel)), (sm_t5 130 (by decide +kernel)), (sm_t5 131 (by decide +kernel))⟩
theorem lv_L_122_12 : sm_LV RL 122 mX12_see 4 RX12 := ⟨mf_X12_see, (sm_t8 100 (by decide +kernel)), (sm_t8 101 (by decide +kernel)), (sm_t8 102 (by decide +kernel))⟩
theorem lv_L_123_11 : sm_LV RL 123 mX11_fits 1 RX11 := ⟨mf_X11_fits, (sm_t5 139 (by decide +kernel)), (sm_t5 140 (by decide +kernel)), (sm_t5 141 (by decide +kernel))⟩
theorem lv_L_126_12 : sm_LV RL 126 mX12_fits 1 RX12 := ⟨mf_X12_fits, (sm_t8 104 (by decide +kernel)), (sm_t8 105 (by decide +kernel)), (sm_t8 106 (by decide +kernel))⟩
theorem lv_L_127_11 : sm_LV RL 127 mX11_pairs 2 RX11 := ⟨mf_X11_pairs, (sm_t5 157 (by decide +kernel)), (sm_t5 158 (by decide +kernel)), (sm_t5 159 (by decide +kernel))⟩
theorem lv_L_130_12 : sm_LV RL 130 mX12_pairs 2 RX12 := ⟨mf_X12_pairs, (sm_t8 116 (by decide +kernel)), (sm_t8 117 (by decide +kernel)), (sm_t8 118 (by decide +kernel))⟩
theorem lv_L_131_11 : sm_LV RL 131 mX11_awake 0 RX11 := ⟨mf_X11_awake, (sm_t5 161 (by decide +kernel)), (sm_t5 162 (by decide +kernel)), (sm_t5 163 (by decide +kernel))⟩
theorem lv_L_134_12 : sm_LV RL 134 mX12_awake 0 RX12 := ⟨mf_X12_awake, (sm_t8 120 (by decide +kernel)), (sm_t8 121 (by decide +kernel)), (sm_t8 122 (by decide +kernel))⟩
theorem lv_L_135_11 : sm_LV RL 135 mX11_test 3 RX11 := ⟨mf_X11_test, (sm_t5 165 (by decide +kernel)), (sm_t5 166 (by decide +kernel)), (sm_t5 167 (by decide +kernel))⟩
theorem lv_L_139_12 : sm_LV RL 139 mX12_test 3 RX12 := ⟨mf_X12_test, (sm_t8 124 (by decide +kernel)), (sm_t8 125 (by decide +kernel)), (sm_t8 126 (by decide +kernel))⟩
theorem lv_L_140_11 : sm_LV RL 140 mX11_odds 3 RX11 := ⟨mf_X11_odds, (sm_t5 173 (by decide +kernel)), (sm_t5 174 (by decide +kernel)), (sm_t5 175 (by decide +kernel))⟩
theorem lv_L_143_12 : sm_LV RL 143 mX12_odds 3 RX12 := ⟨mf_X12_odds, (sm_t8 133 (by decide +kernel)), (sm_t8 134 (by decide +kernel)), (sm_t8 135 (by decide +kernel))⟩
theorem lv_L_144_11 : sm_LV RL 144 mX11_stay 2 RX11 := ⟨mf_X11_stay, (sm_t5 195 (by decide +kernel)), (sm_t5 196 (by decide +kernel)), (sm_t5 197 (by decide +kernel))⟩
theorem lv_L_147_12 : sm_LV RL 147 mX12_stay 2 RX12 := ⟨mf_X12_stay, (sm_t8 150 (by decide +kernel)), (sm_t8 151 (by decide +kernel)), (sm_t8 152 (by decide +kernel))⟩
theorem lv_L_148_11 : sm_LV RL 148 mX11_homing 2 RX11 := ⟨mf_X11_homing, (sm_t5 203 (by decide +kernel)), (sm_t5 204 (by decide +kernel)), (sm_t5 205 (by decide +kernel))⟩
theorem lv_L_151_12 : sm_LV RL 151 mX12_homing 2 RX12 := ⟨mf_X12_homing, (sm_t8 158 (by decide +kernel)), (sm_t8 159 (by decide +kernel)), (sm_t8 160 (by decide +kernel))⟩
theorem lv_L_152_11 : sm_LV RL 152 mX11_quiet 2 RX11 := ⟨mf_X11_quiet, (sm_t5 227 (by decide +kernel)), (sm_t5 228 (by decide +kernel)), (sm_t5 229 (by decide +kernel))⟩
theorem lv_L_155_12 : sm_LV RL 155 mX12_quiet 2 RX12 := ⟨mf_X12_quiet, (sm_t8 166 (by decide +kernel)), (sm_t8 167 (by decide +kernel)), (sm_t8 168 (by decide +kernel))⟩
theorem lv_L_156_11 : sm_LV RL 156 mX11_culprit 1 RX11 := ⟨mf_X11_culprit, (sm_t5 235 (by decide +kernel)), (sm_t5 236 (by decide +kernel)), (sm_t5 237 (by decide +kernel))⟩
theorem lv_L_159_12 : sm_LV RL 159 mX12_culprit 1 RX12 := ⟨mf_X12_culprit, (sm_t8 182 (by decide +kernel)), (sm_t8 183 (by decide +kernel)), (sm_t8 184 (by decide +kernel))⟩
theorem lv_L_160_11 : sm_LV RL 160 mX11_guest 4 RX11 := ⟨mf_X11_guest, (sm_t5 239 (by decide +kernel)), (sm_t6 0 (by decide +kernel)), (sm_t6 1 (by decide +kernel))⟩
theorem lv_L_163_12 : sm_LV RL 163 mX12_guest 4 RX12 := ⟨mf_X12_guest, (sm_t8 186 (by decide +kernel)), (sm_t8 187 (by decide +kernel)), (sm_t8 188 (by decide +kernel))⟩
theorem lv_L_164_11 : sm_LV RL 164 mX11_path 3 RX11 := ⟨mf_X11_path, (sm_t5 101 (by decide +kernel)), (sm_t5 102 (by decide +kernel)), (sm_t5 103 (by decide +kernel))⟩
theorem lv_L_167_12 : sm_LV RL 167 mX12_path 3 RX12 := ⟨mf_X12_path, (sm_t8 190 (by decide +kernel)), (sm_t8 191 (by decide +kernel)), (sm_t8 192 (by decide +kernel))⟩
theorem lv_L_168_11 : sm_LV RL 168 mX11_span 2 RX11 := ⟨mf_X11_span, (sm_t5 105 (by decide +kernel)), (sm_t5 106 (by decide +kernel)), (sm_t5 107 (by decide +kernel))⟩
theorem lv_L_171_12 : sm_LV RL 171 mX12_span 2 RX12 := ⟨mf_X12_span, (sm_t8 194 (by decide +kernel)), (sm_t8 195 (by decide +kernel)), (sm_t8 196 (by decide +kernel))⟩
theorem lv_L_172_11 : sm_LV RL 172 mX11_fullest 2 RX11 := ⟨mf_X11_fullest, (sm_t5 110 (by decide +kernel)), (sm_t5 111 (by decide +kernel)), (sm_t5 112 (by decide +kernel))⟩
theorem lv_L_175_12 : sm_LV RL 175 mX12_fullest 2 RX12 := ⟨mf_X12_fullest, (sm_t8 199 (by decide +kernel)), (sm_t8 200 (by decide +kernel)), (sm_t8 201 (by decide +kernel))⟩
theorem lv_L_176_11 : sm_LV RL 176 mX11_astray 1 RX11 := ⟨mf_X11_astray, (sm_t5 121 (by decide +kernel)), (sm_t5 122 (by decide +kernel)), (sm_t5 123 (by decide +kernel))⟩
theorem lv_L_179_12 : sm_LV RL 179 mX12_astray 1 RX12 := ⟨mf_X12_astray, (sm_t8 203 (by decide +kernel)), (sm_t8 204 (by decide +kernel)), (sm_t8 205 (by decide +kernel))⟩
theorem lv_L_180_11 : sm_LV RL 180 mX11_image 0 RX11 := ⟨mf_X11_image, (sm_t5 47 (by decide +kernel)), (sm_t5 48 (by decide +kernel)), (sm_t5 49 (by decide +kernel))⟩
theorem lv_L_183_12 : sm_LV RL 183 mX12_image 0 RX12 := ⟨mf_X12_image, (sm_t8 207 (by decide +kernel)), (sm_t8 208 (by decide +kernel)), (sm_t8 209 (by decide +kernel))⟩
theorem lv_L_184_11 : sm_LV RL 184 mX11_back 0 RX11 := ⟨mf_X11_back, (sm_t5 51 (by decide +kernel)), (sm_t5 52 (by decide +kernel)), (sm_t5 53 (by decide +kernel))⟩
theorem lv_L_187_12 : sm_LV RL 187 mX12_back 0 RX12 := ⟨mf_X12_back, (sm_t8 211 (by decide +kernel)), (sm_t8 212 (by decide +kernel)), (sm_t8 213 (by decide +kernel))⟩
theorem lv_L_188_11 : sm_LV RL 188 mX11_count 1 RX11 := ⟨mf_X11_count, (sm_t4 129 (by decide +kernel)), (sm_t4 130 (by decide +kernel)), (sm_t4 131 (by decide +kernel))⟩
theorem lv_L_191_12 : sm_LV RL 191 mX12_count 1 RX12 := ⟨mf_X12_count, (sm_t8 215 (by decide +kernel)), (sm_t8 216 (by decide +kernel)), (sm_t8 217 (by decide +kernel))⟩
theorem hl_L_38 : Cond.methodLink RL 38 yL_sleeper ∈ lw_tbl := (sm_t6 3 (by decide +kernel))
theorem hs_L : Cond.static yL_sleeper ∈ lw_tbl := (sm_t6 4 (by decide +kernel))
theorem hc_L : Cond.codeWith yL_sleeper cL_sleeper 5 (some .int) [(0, 10, 13, 13)] ∈ lw_tbl := (sm_t6 5 (by decide +kernel))
theorem hi_L : Cond.initialized RL ∈ lw_tbl := (sm_t1 0 (by decide +kernel))
theorem ic_E : Cond.initialized "java/util/NoSuchElementException" ∈ lw_tbl := (sm_t1 29 (by decide +kernel))
theorem kc_L_13 : Cond.classLink RL 13 "java/util/NoSuchElementException" ∈ lw_tbl := (sm_t6 6 (by decide +kernel))
theorem kc_X11_167x : Cond.classLink RX11 167 "java/util/NoSuchElementException" ∈ lw_tbl := (sm_t6 11 (by decide +kernel))
theorem cb_E : Cond.castable "java/util/NoSuchElementException" "java/util/NoSuchElementException" ∈ lw_tbl := (sm_t6 13 (by decide +kernel))
theorem k_L_65 : Cond.constantLong RL 65 (4294967295) ∈ lw_tbl := (sm_t8 219 (by decide +kernel))
