/-! ROWS of the methods that make cells, laid by program (wip/gen/galloc.py). -/
abbrev mX3_init : sm_MD := (yX3_init, cX3_init, 2, none)
theorem mf_X3_init : sm_MF mX3_init 1 := ⟨(sm_t1 50 (by decide +kernel)), (sm_t1 3 (by decide +kernel)), ⟨by decide +kernel, by decide +kernel⟩, by decide +kernel, by decide⟩
theorem dX3_init_0 : decode cX3_init 0 = .ok (.aload_n 0, 1) := by decide +kernel
theorem dX3_init_1 : decode cX3_init 1 = .ok (.invokespecial 1, 3) := by decide +kernel
theorem oi_X3_1 : Cond.methodLink RX3 1 Lib.objectInit ∈ lw_tbl := (sm_t1 51 (by decide +kernel))
theorem dX3_init_4 : decode cX3_init 4 = .ok (.aload_n 0, 1) := by decide +kernel
theorem dX3_init_5 : decode cX3_init 5 = .ok (.iload_n 1, 1) := by decide +kernel
theorem dX3_init_6 : decode cX3_init 6 = .ok (.iconst 0, 1) := by decide +kernel
theorem dX3_init_7 : decode cX3_init 7 = .ok (.invokestatic 7, 3) := by decide +kernel
theorem ml_X3_7 : Cond.methodLink RX3 7 Lib.Math.max.name ∈ lw_tbl := (sm_t1 52 (by decide +kernel))
theorem dX3_init_10 : decode cX3_init 10 = .ok (.newarray .int, 2) := by decide +kernel
theorem dX3_init_12 : decode cX3_init 12 = .ok (.putfield 13, 3) := by decide +kernel
theorem ff_X3_13_3 : sm_FLf RX3 13 3 0 (.array .int) := ⟨RX3, TX3, 1, tyX3, cf_X3, by decide, (sm_t1 55 (by decide +kernel)), rfl, tyX3_ok 0 (by decide), rfl⟩
theorem dX3_init_15 : decode cX3_init 15 = .ok (.return_, 1) := by decide +kernel
abbrev mX4_init : sm_MD := (yX4_init, cX4_init, 4, none)
theorem mf_X4_init : sm_MF mX4_init 3 := ⟨(sm_t4 22 (by decide +kernel)), (sm_t1 22 (by decide +kernel)), ⟨by decide +kernel, by decide +kernel⟩, by decide +kernel, by decide⟩
theorem dX4_init_0 : decode cX4_init 0 = .ok (.aload_n 0, 1) := by decide +kernel
theorem dX4_init_1 : decode cX4_init 1 = .ok (.invokespecial 3, 3) := by decide +kernel
theorem oi_X4_3 : Cond.methodLink RX4 3 Lib.objectInit ∈ lw_tbl := (sm_t4 23 (by decide +kernel))
theorem dX4_init_4 : decode cX4_init 4 = .ok (.aload_n 0, 1) := by decide +kernel
theorem dX4_init_5 : decode cX4_init 5 = .ok (.new 9, 3) := by decide +kernel
theorem kc_X4_9 : Cond.classLink RX4 9 "SleepMoves$Row" ∈ lw_tbl := (sm_t4 24 (by decide +kernel))
theorem in_X3 : Cond.instantiable RX3 1 ∈ lw_tbl := (sm_t1 47 (by decide +kernel))
theorem ic_X3 : Cond.initialized RX3 ∈ lw_tbl := (sm_t1 3 (by decide +kernel))
theorem dX4_init_8 : decode cX4_init 8 = .ok (.dup, 1) := by decide +kernel
theorem dX4_init_9 : decode cX4_init 9 = .ok (.iload_n 3, 1) := by decide +kernel
theorem dX4_init_10 : decode cX4_init 10 = .ok (.invokespecial 11, 3) := by decide +kernel
theorem li_X4_11 : sm_LI RX4 11 mX3_init 1 := ⟨mf_X3_init, (Or.inl (sm_t4 25 (by decide +kernel))), (sm_t1 49 (by decide +kernel)), rfl, rfl⟩
theorem dX4_init_13 : decode cX4_init 13 = .ok (.putfield 14, 3) := by decide +kernel
theorem ff_X4_14_4 : sm_FLf RX4 14 4 0 (.object "SleepMoves$Row") := ⟨RX4, TX4, 2, tyX4, cf_X4, by decide, (sm_t4 27 (by decide +kernel)), rfl, tyX4_ok 0 (by decide), rfl⟩
theorem dX4_init_16 : decode cX4_init 16 = .ok (.aload_n 0, 1) := by decide +kernel
theorem dX4_init_17 : decode cX4_init 17 = .ok (.new 9, 3) := by decide +kernel
theorem dX4_init_20 : decode cX4_init 20 = .ok (.dup, 1) := by decide +kernel
theorem dX4_init_21 : decode cX4_init 21 = .ok (.iload_n 3, 1) := by decide +kernel
theorem dX4_init_22 : decode cX4_init 22 = .ok (.invokespecial 11, 3) := by decide +kernel
theorem dX4_init_25 : decode cX4_init 25 = .ok (.putfield 20, 3) := by decide +kernel
theorem ff_X4_20_4 : sm_FLf RX4 20 4 1 (.object "SleepMoves$Row") := ⟨RX4, TX4, 2, tyX4, cf_X4, by decide, (sm_t4 28 (by decide +kernel)), rfl, tyX4_ok 1 (by decide), rfl⟩
theorem dX4_init_28 : decode cX4_init 28 = .ok (.aload_n 0, 1) := by decide +kernel
theorem dX4_init_29 : decode cX4_init 29 = .ok (.getfield 14, 3) := by decide +kernel
theorem dX4_init_32 : decode cX4_init 32 = .ok (.aload_n 1, 1) := by decide +kernel
theorem dX4_init_33 : decode cX4_init 33 = .ok (.invokevirtual 23, 3) := by decide +kernel
theorem lv_X4_23_3 : sm_LV RX4 23 mX3_copy 1 RX3 := ⟨mf_X3_copy, (sm_t4 26 (by decide +kernel)), (sm_t3 238 (by decide +kernel)), (sm_t3 239 (by decide +kernel))⟩
theorem dX4_init_36 : decode cX4_init 36 = .ok (.aload_n 0, 1) := by decide +kernel
theorem dX4_init_37 : decode cX4_init 37 = .ok (.getfield 20, 3) := by decide +kernel
theorem dX4_init_40 : decode cX4_init 40 = .ok (.aload_n 2, 1) := by decide +kernel
theorem dX4_init_41 : decode cX4_init 41 = .ok (.invokevirtual 23, 3) := by decide +kernel
theorem dX4_init_44 : decode cX4_init 44 = .ok (.return_, 1) := by decide +kernel
abbrev mX5_made : sm_MD := (yX5_made, cX5_made, 1, (some (.object "SleepMoves$Rule")))
theorem mf_X5_made : sm_MF mX5_made 0 := ⟨(sm_t4 17 (by decide +kernel)), (sm_t1 9 (by decide +kernel)), ⟨by decide +kernel, by decide +kernel⟩, by decide +kernel, by decide⟩
theorem dX5_made_0 : decode cX5_made 0 = .ok (.new 27, 3) := by decide +kernel
theorem kc_X5_27 : Cond.classLink RX5 27 "SleepMoves$Rule" ∈ lw_tbl := (sm_t4 18 (by decide +kernel))
theorem in_X4 : Cond.instantiable RX4 2 ∈ lw_tbl := (sm_t4 19 (by decide +kernel))
theorem ic_X4 : Cond.initialized RX4 ∈ lw_tbl := (sm_t1 22 (by decide +kernel))
theorem dX5_made_3 : decode cX5_made 3 = .ok (.dup, 1) := by decide +kernel
theorem dX5_made_4 : decode cX5_made 4 = .ok (.aload_n 0, 1) := by decide +kernel
theorem dX5_made_5 : decode cX5_made 5 = .ok (.getfield 14, 3) := by decide +kernel
theorem dX5_made_8 : decode cX5_made 8 = .ok (.aload_n 0, 1) := by decide +kernel
theorem dX5_made_9 : decode cX5_made 9 = .ok (.getfield 20, 3) := by decide +kernel
theorem dX5_made_12 : decode cX5_made 12 = .ok (.aload_n 0, 1) := by decide +kernel
theorem dX5_made_13 : decode cX5_made 13 = .ok (.getfield 23, 3) := by decide +kernel
theorem dX5_made_16 : decode cX5_made 16 = .ok (.invokespecial 29, 3) := by decide +kernel
theorem li_X5_29 : sm_LI RX5 29 mX4_init 3 := ⟨mf_X4_init, (Or.inl (sm_t4 20 (by decide +kernel))), (sm_t4 21 (by decide +kernel)), rfl, rfl⟩
theorem dX5_made_19 : decode cX5_made 19 = .ok (.areturn, 1) := by decide +kernel
abbrev mX11_text : sm_MD := (yX11_text, cX11_text, 2, (some .int))
theorem mf_X11_text : sm_MF mX11_text 1 := ⟨(sm_t3 228 (by decide +kernel)), (sm_t1 1 (by decide +kernel)), ⟨by decide +kernel, by decide +kernel⟩, by decide +kernel, by decide⟩
theorem dX11_text_0 : decode cX11_text 0 = .ok (.iload_n 1, 1) := by decide +kernel
theorem dX11_text_1 : decode cX11_text 1 = .ok (.ifCond .ne 41, 3) := by decide +kernel
theorem dX11_text_4 : decode cX11_text 4 = .ok (.aload_n 0, 1) := by decide +kernel
theorem dX11_text_5 : decode cX11_text 5 = .ok (.getfield 21, 3) := by decide +kernel
theorem dX11_text_8 : decode cX11_text 8 = .ok (.invokevirtual 119, 3) := by decide +kernel
theorem dX11_text_11 : decode cX11_text 11 = .ok (.iconst (-1), 1) := by decide +kernel
theorem dX11_text_12 : decode cX11_text 12 = .ok (.if_icmp .ne 30, 3) := by decide +kernel
theorem dX11_text_15 : decode cX11_text 15 = .ok (.aload_n 0, 1) := by decide +kernel
theorem dX11_text_16 : decode cX11_text 16 = .ok (.getfield 10, 3) := by decide +kernel
theorem dX11_text_19 : decode cX11_text 19 = .ok (.iconst 0, 1) := by decide +kernel
theorem dX11_text_20 : decode cX11_text 20 = .ok (.putfield 109, 3) := by decide +kernel
theorem dX11_text_23 : decode cX11_text 23 = .ok (.aload_n 0, 1) := by decide +kernel
theorem dX11_text_24 : decode cX11_text 24 = .ok (.aload_n 0, 1) := by decide +kernel
theorem dX11_text_25 : decode cX11_text 25 = .ok (.getfield 21, 3) := by decide +kernel
theorem dX11_text_28 : decode cX11_text 28 = .ok (.getfield 124, 3) := by decide +kernel
theorem fl_X11_124_9 : sm_FLk RX11 124 9 2 (.object "SleepMoves$Street") true := ⟨RX9, TX9, 5, tyX9, "SleepMoves$StreetReader", cf_X9, by decide, (Or.inl (sm_t1 155 (by decide +kernel))), (Or.inl rfl), tyX9_ok 2 (by decide), rfl⟩
theorem dX11_text_31 : decode cX11_text 31 = .ok (.invokevirtual 127, 3) := by decide +kernel
theorem lv_X11_127_11 : sm_LV RX11 127 mX11_moveInto 1 RX11 := ⟨mf_X11_moveInto, (sm_t3 229 (by decide +kernel)), (sm_t3 231 (by decide +kernel)), (sm_p 15 (by decide +kernel))⟩
theorem dX11_text_34 : decode cX11_text 34 = .ok (.aload_n 0, 1) := by decide +kernel
theorem dX11_text_35 : decode cX11_text 35 = .ok (.getfield 42, 3) := by decide +kernel
theorem dX11_text_38 : decode cX11_text 38 = .ok (.getfield 131, 3) := by decide +kernel
theorem dX11_text_41 : decode cX11_text 41 = .ok (.ireturn, 1) := by decide +kernel
theorem dX11_text_42 : decode cX11_text 42 = .ok (.iload_n 1, 1) := by decide +kernel
theorem dX11_text_43 : decode cX11_text 43 = .ok (.iconst 1, 1) := by decide +kernel
theorem dX11_text_44 : decode cX11_text 44 = .ok (.if_icmp .ne 58, 3) := by decide +kernel
theorem dX11_text_47 : decode cX11_text 47 = .ok (.aload_n 0, 1) := by decide +kernel
theorem dX11_text_48 : decode cX11_text 48 = .ok (.getfield 35, 3) := by decide +kernel
theorem dX11_text_51 : decode cX11_text 51 = .ok (.invokevirtual 134, 3) := by decide +kernel
theorem dX11_text_54 : decode cX11_text 54 = .ok (.iconst 5, 1) := by decide +kernel
theorem dX11_text_55 : decode cX11_text 55 = .ok (.if_icmp .ge 47, 3) := by decide +kernel
theorem dX11_text_58 : decode cX11_text 58 = .ok (.aload_n 0, 1) := by decide +kernel
theorem dX11_text_59 : decode cX11_text 59 = .ok (.getfield 28, 3) := by decide +kernel
theorem dX11_text_62 : decode cX11_text 62 = .ok (.invokevirtual 123, 3) := by decide +kernel
theorem dX11_text_65 : decode cX11_text 65 = .ok (.iconst (-1), 1) := by decide +kernel
theorem dX11_text_66 : decode cX11_text 66 = .ok (.if_icmp .ne 36, 3) := by decide +kernel
theorem dX11_text_69 : decode cX11_text 69 = .ok (.aload_n 0, 1) := by decide +kernel
theorem dX11_text_70 : decode cX11_text 70 = .ok (.getfield 10, 3) := by decide +kernel
theorem dX11_text_73 : decode cX11_text 73 = .ok (.iconst 0, 1) := by decide +kernel
theorem dX11_text_74 : decode cX11_text 74 = .ok (.putfield 109, 3) := by decide +kernel
theorem dX11_text_77 : decode cX11_text 77 = .ok (.aload_n 0, 1) := by decide +kernel
theorem dX11_text_78 : decode cX11_text 78 = .ok (.getfield 35, 3) := by decide +kernel
theorem dX11_text_81 : decode cX11_text 81 = .ok (.aload_n 0, 1) := by decide +kernel
theorem dX11_text_82 : decode cX11_text 82 = .ok (.getfield 28, 3) := by decide +kernel
theorem dX11_text_85 : decode cX11_text 85 = .ok (.invokevirtual 137, 3) := by decide +kernel
theorem lv_X11_137_5 : sm_LV RX11 137 mX5_made 0 RX5 := ⟨mf_X5_made, (sm_t4 14 (by decide +kernel)), (sm_t4 15 (by decide +kernel)), (sm_t4 16 (by decide +kernel))⟩
theorem dX11_text_88 : decode cX11_text 88 = .ok (.invokevirtual 141, 3) := by decide +kernel
abbrev mJx4a65c_add_9ea2d : sm_MD := (yJx4a65c_add_9ea2d, cJx4a65c_add_9ea2d, 2, (some .boolean))
theorem mf_Jx4a65c_add_9ea2d : sm_MF mJx4a65c_add_9ea2d 1 := ⟨(sm_t4 37 (by decide +kernel)), (sm_t1 12 (by decide +kernel)), ⟨by decide +kernel, by decide +kernel⟩, by decide +kernel, by decide⟩
theorem lv_X11_141_0 : sm_LV RX11 141 mJx4a65c_add_9ea2d 1 RJx4a65c := ⟨mf_Jx4a65c_add_9ea2d, (sm_t4 34 (by decide +kernel)), (sm_t4 35 (by decide +kernel)), (sm_t4 36 (by decide +kernel))⟩
theorem dX11_text_91 : decode cX11_text 91 = .ok (.pop, 1) := by decide +kernel
theorem dX11_text_92 : decode cX11_text 92 = .ok (.aload_n 0, 1) := by decide +kernel
theorem dX11_text_93 : decode cX11_text 93 = .ok (.getfield 35, 3) := by decide +kernel
theorem dX11_text_96 : decode cX11_text 96 = .ok (.invokevirtual 134, 3) := by decide +kernel
theorem dX11_text_99 : decode cX11_text 99 = .ok (.iconst 1, 1) := by decide +kernel
theorem dX11_text_100 : decode cX11_text 100 = .ok (.isub, 1) := by decide +kernel
theorem dX11_text_101 : decode cX11_text 101 = .ok (.ireturn, 1) := by decide +kernel
theorem dX11_text_102 : decode cX11_text 102 = .ok (.iconst (-1), 1) := by decide +kernel
theorem dX11_text_103 : decode cX11_text 103 = .ok (.ireturn, 1) := by decide +kernel
theorem dJx4a65c_add_9ea2d_0 : decode cJx4a65c_add_9ea2d 0 = .ok (.aload_n 0, 1) := by decide +kernel
theorem dJx4a65c_add_9ea2d_1 : decode cJx4a65c_add_9ea2d 1 = .ok (.dup, 1) := by decide +kernel
theorem dJx4a65c_add_9ea2d_2 : decode cJx4a65c_add_9ea2d 2 = .ok (.getfield 63, 3) := by decide +kernel
theorem fl_Jx4a65c_63_0 : sm_FLk RJx4a65c 63 0 0 .int false := ⟨RJx4a65c, TJx4a65c, 3, tyJx4a65c, "java/util/ArrayList", cf_Jx4a65c, by decide, (Or.inl (sm_t1 209 (by decide +kernel))), (Or.inr (sm_t1 210 (by decide +kernel))), tyJx4a65c_ok 0 (by decide), rfl⟩
theorem dJx4a65c_add_9ea2d_5 : decode cJx4a65c_add_9ea2d 5 = .ok (.iconst 1, 1) := by decide +kernel
theorem dJx4a65c_add_9ea2d_6 : decode cJx4a65c_add_9ea2d 6 = .ok (.iadd, 1) := by decide +kernel
theorem dJx4a65c_add_9ea2d_7 : decode cJx4a65c_add_9ea2d 7 = .ok (.putfield 63, 3) := by decide +kernel
theorem dJx4a65c_add_9ea2d_10 : decode cJx4a65c_add_9ea2d 10 = .ok (.aload_n 0, 1) := by decide +kernel
theorem dJx4a65c_add_9ea2d_11 : decode cJx4a65c_add_9ea2d 11 = .ok (.aload_n 1, 1) := by decide +kernel
theorem dJx4a65c_add_9ea2d_12 : decode cJx4a65c_add_9ea2d 12 = .ok (.aload_n 0, 1) := by decide +kernel
theorem dJx4a65c_add_9ea2d_13 : decode cJx4a65c_add_9ea2d 13 = .ok (.getfield 9, 3) := by decide +kernel
theorem dJx4a65c_add_9ea2d_16 : decode cJx4a65c_add_9ea2d 16 = .ok (.aload_n 0, 1) := by decide +kernel
theorem dJx4a65c_add_9ea2d_17 : decode cJx4a65c_add_9ea2d 17 = .ok (.getfield 48, 3) := by decide +kernel
theorem dJx4a65c_add_9ea2d_20 : decode cJx4a65c_add_9ea2d 20 = .ok (.invokevirtual 131, 3) := by decide +kernel
abbrev mJx4a65c_add_72be8 : sm_MD := (yJx4a65c_add_72be8, cJx4a65c_add_72be8, 4, none)
theorem mf_Jx4a65c_add_72be8 : sm_MF mJx4a65c_add_72be8 3 := ⟨(sm_t4 41 (by decide +kernel)), (sm_t1 12 (by decide +kernel)), ⟨by decide +kernel, by decide +kernel⟩, by decide +kernel, by decide⟩
theorem lv_Jx4a65c_131_0 : sm_LV RJx4a65c 131 mJx4a65c_add_72be8 3 RJx4a65c := ⟨mf_Jx4a65c_add_72be8, (sm_t4 38 (by decide +kernel)), (sm_t4 40 (by decide +kernel)), (sm_p 16 (by decide +kernel))⟩
theorem dJx4a65c_add_9ea2d_23 : decode cJx4a65c_add_9ea2d 23 = .ok (.iconst 1, 1) := by decide +kernel
theorem dJx4a65c_add_9ea2d_24 : decode cJx4a65c_add_9ea2d 24 = .ok (.ireturn, 1) := by decide +kernel
theorem dJx4a65c_add_72be8_0 : decode cJx4a65c_add_72be8 0 = .ok (.iload_n 3, 1) := by decide +kernel
theorem dJx4a65c_add_72be8_1 : decode cJx4a65c_add_72be8 1 = .ok (.aload_n 2, 1) := by decide +kernel
theorem dJx4a65c_add_72be8_2 : decode cJx4a65c_add_72be8 2 = .ok (.arraylength, 1) := by decide +kernel
theorem dJx4a65c_add_72be8_3 : decode cJx4a65c_add_72be8 3 = .ok (.if_icmp .ne 8, 3) := by decide +kernel
theorem dJx4a65c_add_72be8_6 : decode cJx4a65c_add_72be8 6 = .ok (.aload_n 0, 1) := by decide +kernel
theorem dJx4a65c_add_72be8_7 : decode cJx4a65c_add_72be8 7 = .ok (.invokevirtual 129, 3) := by decide +kernel
abbrev mJx4a65c_grow_d5877 : sm_MD := (yJx4a65c_grow_d5877, cJx4a65c_grow_d5877, 1, (some (.array (.object "java/lang/Object"))))
theorem mf_Jx4a65c_grow_d5877 : sm_MF mJx4a65c_grow_d5877 0 := ⟨(sm_t4 45 (by decide +kernel)), (sm_t1 12 (by decide +kernel)), ⟨by decide +kernel, by decide +kernel⟩, by decide +kernel, by decide⟩
theorem lv_Jx4a65c_129_0 : sm_LV RJx4a65c 129 mJx4a65c_grow_d5877 0 RJx4a65c := ⟨mf_Jx4a65c_grow_d5877, (sm_t4 42 (by decide +kernel)), (sm_t4 44 (by decide +kernel)), (sm_p 17 (by decide +kernel))⟩
theorem dJx4a65c_add_72be8_10 : decode cJx4a65c_add_72be8 10 = .ok (.astore_n 2, 1) := by decide +kernel
theorem dJx4a65c_add_72be8_11 : decode cJx4a65c_add_72be8 11 = .ok (.aload_n 2, 1) := by decide +kernel
theorem dJx4a65c_add_72be8_12 : decode cJx4a65c_add_72be8 12 = .ok (.iload_n 3, 1) := by decide +kernel
theorem dJx4a65c_add_72be8_13 : decode cJx4a65c_add_72be8 13 = .ok (.aload_n 1, 1) := by decide +kernel
theorem dJx4a65c_add_72be8_14 : decode cJx4a65c_add_72be8 14 = .ok (.aastore, 1) := by decide +kernel
theorem dJx4a65c_add_72be8_15 : decode cJx4a65c_add_72be8 15 = .ok (.aload_n 0, 1) := by decide +kernel
theorem dJx4a65c_add_72be8_16 : decode cJx4a65c_add_72be8 16 = .ok (.iload_n 3, 1) := by decide +kernel
theorem dJx4a65c_add_72be8_17 : decode cJx4a65c_add_72be8 17 = .ok (.iconst 1, 1) := by decide +kernel
theorem dJx4a65c_add_72be8_18 : decode cJx4a65c_add_72be8 18 = .ok (.iadd, 1) := by decide +kernel
theorem dJx4a65c_add_72be8_19 : decode cJx4a65c_add_72be8 19 = .ok (.putfield 48, 3) := by decide +kernel
theorem dJx4a65c_add_72be8_22 : decode cJx4a65c_add_72be8 22 = .ok (.return_, 1) := by decide +kernel
theorem dJx4a65c_grow_d5877_0 : decode cJx4a65c_grow_d5877 0 = .ok (.aload_n 0, 1) := by decide +kernel
theorem dJx4a65c_grow_d5877_1 : decode cJx4a65c_grow_d5877 1 = .ok (.aload_n 0, 1) := by decide +kernel
theorem dJx4a65c_grow_d5877_2 : decode cJx4a65c_grow_d5877 2 = .ok (.getfield 48, 3) := by decide +kernel
theorem dJx4a65c_grow_d5877_5 : decode cJx4a65c_grow_d5877 5 = .ok (.iconst 1, 1) := by decide +kernel
theorem dJx4a65c_grow_d5877_6 : decode cJx4a65c_grow_d5877 6 = .ok (.iadd, 1) := by decide +kernel
theorem dJx4a65c_grow_d5877_7 : decode cJx4a65c_grow_d5877 7 = .ok (.invokevirtual 69, 3) := by decide +kernel
abbrev mJx4a65c_grow_92f84 : sm_MD := (yJx4a65c_grow_92f84, cJx4a65c_grow_92f84, 4, (some (.array (.object "java/lang/Object"))))
theorem mf_Jx4a65c_grow_92f84 : sm_MF mJx4a65c_grow_92f84 1 := ⟨(sm_t4 49 (by decide +kernel)), (sm_t1 12 (by decide +kernel)), ⟨by decide +kernel, by decide +kernel⟩, by decide +kernel, by decide⟩
theorem lv_Jx4a65c_69_0 : sm_LV RJx4a65c 69 mJx4a65c_grow_92f84 1 RJx4a65c := ⟨mf_Jx4a65c_grow_92f84, (sm_t4 46 (by decide +kernel)), (sm_t4 48 (by decide +kernel)), (sm_p 18 (by decide +kernel))⟩
theorem dJx4a65c_grow_d5877_10 : decode cJx4a65c_grow_d5877 10 = .ok (.areturn, 1) := by decide +kernel
theorem dJx4a65c_grow_92f84_0 : decode cJx4a65c_grow_92f84 0 = .ok (.aload_n 0, 1) := by decide +kernel
theorem dJx4a65c_grow_92f84_1 : decode cJx4a65c_grow_92f84 1 = .ok (.getfield 9, 3) := by decide +kernel
theorem dJx4a65c_grow_92f84_4 : decode cJx4a65c_grow_92f84 4 = .ok (.arraylength, 1) := by decide +kernel
theorem dJx4a65c_grow_92f84_5 : decode cJx4a65c_grow_92f84 5 = .ok (.istore_n 2, 1) := by decide +kernel
theorem dJx4a65c_grow_92f84_6 : decode cJx4a65c_grow_92f84 6 = .ok (.iload_n 2, 1) := by decide +kernel
theorem dJx4a65c_grow_92f84_7 : decode cJx4a65c_grow_92f84 7 = .ok (.ifCond .gt 13, 3) := by decide +kernel
theorem dJx4a65c_grow_92f84_10 : decode cJx4a65c_grow_92f84 10 = .ok (.aload_n 0, 1) := by decide +kernel
theorem dJx4a65c_grow_92f84_11 : decode cJx4a65c_grow_92f84 11 = .ok (.getfield 9, 3) := by decide +kernel
theorem dJx4a65c_grow_92f84_14 : decode cJx4a65c_grow_92f84 14 = .ok (.getstatic 39, 3) := by decide +kernel
theorem gs_Jx4a65c_39 : Cond.fieldLink RJx4a65c 39 "java/util/ArrayList" "DEFAULTCAPACITY_EMPTY_ELEMENTDATA" "[Ljava/lang/Object;" ∈ lw_tbl := (sm_t1 204 (by decide +kernel))
theorem dJx4a65c_grow_92f84_17 : decode cJx4a65c_grow_92f84 17 = .ok (.if_acmp .eq 28, 3) := by decide +kernel
theorem dJx4a65c_grow_92f84_20 : decode cJx4a65c_grow_92f84 20 = .ok (.iload_n 2, 1) := by decide +kernel
theorem dJx4a65c_grow_92f84_21 : decode cJx4a65c_grow_92f84 21 = .ok (.iload_n 1, 1) := by decide +kernel
theorem dJx4a65c_grow_92f84_22 : decode cJx4a65c_grow_92f84 22 = .ok (.iload_n 2, 1) := by decide +kernel
theorem dJx4a65c_grow_92f84_23 : decode cJx4a65c_grow_92f84 23 = .ok (.isub, 1) := by decide +kernel
theorem dJx4a65c_grow_92f84_24 : decode cJx4a65c_grow_92f84 24 = .ok (.iload_n 2, 1) := by decide +kernel
theorem dJx4a65c_grow_92f84_25 : decode cJx4a65c_grow_92f84 25 = .ok (.iconst 1, 1) := by decide +kernel
theorem dJx4a65c_grow_92f84_26 : decode cJx4a65c_grow_92f84 26 = .ok (.ishr, 1) := by decide +kernel
theorem dJx4a65c_grow_92f84_27 : decode cJx4a65c_grow_92f84 27 = .ok (.invokestatic 73, 3) := by decide +kernel
theorem dJx4a65c_grow_92f84_30 : decode cJx4a65c_grow_92f84 30 = .ok (.istore_n 3, 1) := by decide +kernel
theorem dJx4a65c_grow_92f84_31 : decode cJx4a65c_grow_92f84 31 = .ok (.aload_n 0, 1) := by decide +kernel
theorem dJx4a65c_grow_92f84_32 : decode cJx4a65c_grow_92f84 32 = .ok (.aload_n 0, 1) := by decide +kernel
theorem dJx4a65c_grow_92f84_33 : decode cJx4a65c_grow_92f84 33 = .ok (.getfield 9, 3) := by decide +kernel
theorem dJx4a65c_grow_92f84_36 : decode cJx4a65c_grow_92f84 36 = .ok (.iload_n 3, 1) := by decide +kernel
theorem dJx4a65c_grow_92f84_37 : decode cJx4a65c_grow_92f84 37 = .ok (.invokestatic 66, 3) := by decide +kernel
theorem dJx4a65c_grow_92f84_40 : decode cJx4a65c_grow_92f84 40 = .ok (.dup_x1, 1) := by decide +kernel
theorem dJx4a65c_grow_92f84_41 : decode cJx4a65c_grow_92f84 41 = .ok (.putfield 9, 3) := by decide +kernel
theorem dJx4a65c_grow_92f84_44 : decode cJx4a65c_grow_92f84 44 = .ok (.areturn, 1) := by decide +kernel
theorem dJx4a65c_grow_92f84_45 : decode cJx4a65c_grow_92f84 45 = .ok (.aload_n 0, 1) := by decide +kernel
theorem dJx4a65c_grow_92f84_46 : decode cJx4a65c_grow_92f84 46 = .ok (.bipush 10, 2) := by decide +kernel
theorem dJx4a65c_grow_92f84_48 : decode cJx4a65c_grow_92f84 48 = .ok (.iload_n 1, 1) := by decide +kernel
theorem dJx4a65c_grow_92f84_49 : decode cJx4a65c_grow_92f84 49 = .ok (.invokestatic 79, 3) := by decide +kernel
theorem ml_Jx4a65c_79 : Cond.methodLink RJx4a65c 79 Lib.Math.max.name ∈ lw_tbl := (sm_t4 89 (by decide +kernel))
theorem dJx4a65c_grow_92f84_52 : decode cJx4a65c_grow_92f84 52 = .ok (.anewarray 7, 3) := by decide +kernel
theorem kc_Jx4a65c_7 : Cond.classLink RJx4a65c 7 "java/lang/Object" ∈ lw_tbl := (sm_t4 90 (by decide +kernel))
theorem dJx4a65c_grow_92f84_55 : decode cJx4a65c_grow_92f84 55 = .ok (.dup_x1, 1) := by decide +kernel
theorem dJx4a65c_grow_92f84_56 : decode cJx4a65c_grow_92f84 56 = .ok (.putfield 9, 3) := by decide +kernel
theorem dJx4a65c_grow_92f84_59 : decode cJx4a65c_grow_92f84 59 = .ok (.areturn, 1) := by decide +kernel
theorem oi_2 : Cond.instanceMethod Lib.objectInit ∈ lw_tbl := (sm_t1 38 (by decide +kernel))
theorem oi_3 : Cond.code Lib.objectInit ⟨#[0xb1]⟩ 1 none ∈ lw_tbl := (sm_t1 39 (by decide +kernel))
theorem aq_int : Cond.arrayClass .int ∈ lw_tbl := (sm_t1 59 (by decide +kernel))
theorem aq_long : Cond.arrayClass .long ∈ lw_tbl := (sm_t7 27 (by decide +kernel))
theorem aq_boolean : Cond.arrayClass .boolean ∈ lw_tbl := (sm_t7 28 (by decide +kernel))
theorem aq_o : Cond.arrayOver (.object "java/lang/Object") ∈ lw_tbl := (sm_t4 83 (by decide +kernel))
theorem cb_X4 : Cond.castable RX4 "java/lang/Object" ∈ lw_tbl := (sm_t8 236 (by decide +kernel))
