/-! METHODS (model2), laid by program (wip/gen): what each instruction is, and between cut points what the walk asks. -/
theorem dX12_thingText_0 : decode cX12_thingText 0 = .ok (.aload_n 0, 1) := by decide +kernel
theorem dX12_thingText_1 : decode cX12_thingText 1 = .ok (.getfield 251, 3) := by decide +kernel
theorem dX12_thingText_4 : decode cX12_thingText 4 = .ok (.bipush 8, 2) := by decide +kernel
theorem dX12_thingText_6 : decode cX12_thingText 6 = .ok (.if_icmp .ne 8, 3) := by decide +kernel
theorem dX12_thingText_9 : decode cX12_thingText 9 = .ok (.aload_n 0, 1) := by decide +kernel
theorem dX12_thingText_10 : decode cX12_thingText 10 = .ok (.invokevirtual 138, 3) := by decide +kernel
theorem dX12_thingText_13 : decode cX12_thingText 13 = .ok (.return_, 1) := by decide +kernel
theorem dX12_thingText_14 : decode cX12_thingText 14 = .ok (.aload_n 0, 1) := by decide +kernel
theorem dX12_thingText_15 : decode cX12_thingText 15 = .ok (.dup, 1) := by decide +kernel
theorem dX12_thingText_16 : decode cX12_thingText 16 = .ok (.getfield 122, 3) := by decide +kernel
theorem dX12_thingText_19 : decode cX12_thingText 19 = .ok (.iconst 1, 1) := by decide +kernel
theorem dX12_thingText_20 : decode cX12_thingText 20 = .ok (.iadd, 1) := by decide +kernel
theorem dX12_thingText_21 : decode cX12_thingText 21 = .ok (.putfield 122, 3) := by decide +kernel
theorem dX12_thingText_24 : decode cX12_thingText 24 = .ok (.aload_n 0, 1) := by decide +kernel
theorem dX12_thingText_25 : decode cX12_thingText 25 = .ok (.getfield 43, 3) := by decide +kernel
theorem dX12_thingText_28 : decode cX12_thingText 28 = .ok (.aload_n 0, 1) := by decide +kernel
theorem dX12_thingText_29 : decode cX12_thingText 29 = .ok (.getfield 251, 3) := by decide +kernel
theorem dX12_thingText_32 : decode cX12_thingText 32 = .ok (.iconst 0, 1) := by decide +kernel
theorem dX12_thingText_33 : decode cX12_thingText 33 = .ok (.iastore, 1) := by decide +kernel
theorem dX12_thingText_34 : decode cX12_thingText 34 = .ok (.aload_n 0, 1) := by decide +kernel
theorem dX12_thingText_35 : decode cX12_thingText 35 = .ok (.invokevirtual 141, 3) := by decide +kernel
theorem dX12_thingText_38 : decode cX12_thingText 38 = .ok (.bipush 97, 2) := by decide +kernel
theorem dX12_thingText_40 : decode cX12_thingText 40 = .ok (.if_icmp .ne 33, 3) := by decide +kernel
theorem dX12_thingText_43 : decode cX12_thingText 43 = .ok (.aload_n 0, 1) := by decide +kernel
theorem dX12_thingText_44 : decode cX12_thingText 44 = .ok (.dup, 1) := by decide +kernel
theorem dX12_thingText_45 : decode cX12_thingText 45 = .ok (.getfield 122, 3) := by decide +kernel
theorem dX12_thingText_48 : decode cX12_thingText 48 = .ok (.iconst 1, 1) := by decide +kernel
theorem dX12_thingText_49 : decode cX12_thingText 49 = .ok (.iadd, 1) := by decide +kernel
theorem dX12_thingText_50 : decode cX12_thingText 50 = .ok (.putfield 122, 3) := by decide +kernel
theorem dX12_thingText_53 : decode cX12_thingText 53 = .ok (.aload_n 0, 1) := by decide +kernel
theorem dX12_thingText_54 : decode cX12_thingText 54 = .ok (.getfield 43, 3) := by decide +kernel
theorem dX12_thingText_57 : decode cX12_thingText 57 = .ok (.aload_n 0, 1) := by decide +kernel
theorem dX12_thingText_58 : decode cX12_thingText 58 = .ok (.getfield 251, 3) := by decide +kernel
theorem dX12_thingText_61 : decode cX12_thingText 61 = .ok (.aload_n 0, 1) := by decide +kernel
theorem dX12_thingText_62 : decode cX12_thingText 62 = .ok (.iconst 0, 1) := by decide +kernel
theorem dX12_thingText_63 : decode cX12_thingText 63 = .ok (.aload_n 0, 1) := by decide +kernel
theorem dX12_thingText_64 : decode cX12_thingText 64 = .ok (.getfield 231, 3) := by decide +kernel
theorem dX12_thingText_67 : decode cX12_thingText 67 = .ok (.iconst 1, 1) := by decide +kernel
theorem dX12_thingText_68 : decode cX12_thingText 68 = .ok (.isub, 1) := by decide +kernel
theorem dX12_thingText_69 : decode cX12_thingText 69 = .ok (.invokevirtual 247, 3) := by decide +kernel
theorem dX12_thingText_72 : decode cX12_thingText 72 = .ok (.iastore, 1) := by decide +kernel
theorem dX12_thingText_73 : decode cX12_thingText 73 = .ok (.aload_n 0, 1) := by decide +kernel
theorem dX12_thingText_74 : decode cX12_thingText 74 = .ok (.dup, 1) := by decide +kernel
theorem dX12_thingText_75 : decode cX12_thingText 75 = .ok (.getfield 251, 3) := by decide +kernel
theorem dX12_thingText_78 : decode cX12_thingText 78 = .ok (.iconst 1, 1) := by decide +kernel
theorem dX12_thingText_79 : decode cX12_thingText 79 = .ok (.iadd, 1) := by decide +kernel
theorem dX12_thingText_80 : decode cX12_thingText 80 = .ok (.putfield 251, 3) := by decide +kernel
theorem dX12_thingText_83 : decode cX12_thingText 83 = .ok (.return_, 1) := by decide +kernel
set_option maxRecDepth 100000 in
theorem c_X12_thingText {n : Nat} {F : sm_MI → sm_ML → Prop} {T : List sm_Sh} {I : sm_MI} {L : sm_ML}  (hB : sm_Bs T)
    (h : (¬ (I 76 21) = 8 → ∀ I1 : sm_MI, I1 = (sm_uI I 76 3 ((I 76 3) + 1)) → vp_in (I1 76 21) 8 ∧ (sm_CI n mX12_look T (sm_uI I1 88 (Int32.toNatClampNeg ((I1 76 21))) 0) L [.ref 76] (fun r3 I2 L2 => (¬ r3 = 97 → F (sm_uI I2 76 21 ((I2 76 21) + 1)) L2) ∧ (r3 = 97 → ∀ I4 : sm_MI, I4 = (sm_uI I2 76 3 ((I2 76 3) + 1)) → sm_CI n mX12_digit T I4 L2 [.ref 76, .int 0, .int ((I4 76 19) - 1)] (fun r6 I5 L5 => vp_in (I4 76 21) 8 ∧ (∀ I7 : sm_MI, I7 = (sm_uI I5 88 (Int32.toNatClampNeg ((I4 76 21))) r6) → F (sm_uI I7 76 21 ((I7 76 21) + 1)) L5)))))) ∧ ((I 76 21) = 8 → sm_CV n mX12_bad T I L [.ref 76] (fun I8 L8 => F I8 L8))) :
    sm_CV (n + 1) mX12_thingText T I L [.ref 76] F :=
  sm_CV.of (by decide +kernel) rfl (fun x hx => show sm_V x 0 0 T I L 0 [some (.ref 76)] [] from
  sm_aload_n (z := 76) hx dX12_thingText_0 rfl (sm_getI hx dX12_thingText_1 fl_X12_251_12 (t_76 hB) rfl (sm_bipush (v := 8) hx dX12_thingText_4 sm_kb_8 (sm_icmpne (a := (I 76 21)) (b := 8) hx dX12_thingText_6 (tgt := 14) (by decide) (fun q2 => sm_aload_n (z := 76) hx dX12_thingText_14 rfl (sm_dup hx dX12_thingText_15 rfl (sm_getI hx dX12_thingText_16 fl_X12_122_12 (t_76 hB) rfl (sm_iconst (v := 1) hx dX12_thingText_19 sm_kc_1 (sm_iadd (a := (I 76 3)) (b := 1) hx dX12_thingText_20 (sm_putI hx dX12_thingText_21 fl_X12_122_12 (t_76 hB) rfl (sm_aload_n (z := 76) hx dX12_thingText_24 rfl (sm_getR hx dX12_thingText_25 fl_X12_43_12 (t_76 hB) rfl (sm_aload_n (z := 76) hx dX12_thingText_28 rfl (sm_getI hx dX12_thingText_29 fl_X12_251_12 (t_76 hB) rfl (sm_iconst (v := 0) hx dX12_thingText_32 sm_kc_0 (sm_iast (i := ((sm_uI I 76 3 ((I 76 3) + 1)) 76 21)) (v := 0) hx dX12_thingText_33 (t_88 hB) ((h.1 q2) _ rfl).1 (sm_aload_n (z := 76) hx dX12_thingText_34 rfl (sm_callVI (args := []) (st := []) hx dX12_thingText_35 lv_X12_141_12 rfl rfl (t_76 hB) rfl rfl ((h.1 q2) _ rfl).2 (fun r3 I2 L2 hI2 => sm_bipush (v := 97) hx dX12_thingText_38 sm_kb_97 (sm_icmpne (a := r3) (b := 97) hx dX12_thingText_40 (tgt := 73) (by decide) (fun q1 => sm_aload_n (z := 76) hx dX12_thingText_73 rfl (sm_dup hx dX12_thingText_74 rfl (sm_getI hx dX12_thingText_75 fl_X12_251_12 (t_76 hB) rfl (sm_iconst (v := 1) hx dX12_thingText_78 sm_kc_1 (sm_iadd (a := (I2 76 21)) (b := 1) hx dX12_thingText_79 (sm_putI hx dX12_thingText_80 fl_X12_251_12 (t_76 hB) rfl (sm_vretV hx dX12_thingText_83 rfl (hI2.1 q1)))))))) (fun q1 => sm_aload_n (z := 76) hx dX12_thingText_43 rfl (sm_dup hx dX12_thingText_44 rfl (sm_getI hx dX12_thingText_45 fl_X12_122_12 (t_76 hB) rfl (sm_iconst (v := 1) hx dX12_thingText_48 sm_kc_1 (sm_iadd (a := (I2 76 3)) (b := 1) hx dX12_thingText_49 (sm_putI hx dX12_thingText_50 fl_X12_122_12 (t_76 hB) rfl (sm_aload_n (z := 76) hx dX12_thingText_53 rfl (sm_getR hx dX12_thingText_54 fl_X12_43_12 (t_76 hB) rfl (sm_aload_n (z := 76) hx dX12_thingText_57 rfl (sm_getI hx dX12_thingText_58 fl_X12_251_12 (t_76 hB) rfl (sm_aload_n (z := 76) hx dX12_thingText_61 rfl (sm_iconst (v := 0) hx dX12_thingText_62 sm_kc_0 (sm_aload_n (z := 76) hx dX12_thingText_63 rfl (sm_getI hx dX12_thingText_64 fl_X12_231_12 (t_76 hB) rfl (sm_iconst (v := 1) hx dX12_thingText_67 sm_kc_1 (sm_isub (a := ((sm_uI I2 76 3 ((I2 76 3) + 1)) 76 19)) (b := 1) hx dX12_thingText_68 (sm_callVI (args := [.int 0, .int (((sm_uI I2 76 3 ((I2 76 3) + 1)) 76 19) - 1)]) (st := [.int ((sm_uI I2 76 3 ((I2 76 3) + 1)) 76 21), .ref 88]) hx dX12_thingText_69 lv_X12_247_12 rfl rfl (t_76 hB) rfl rfl ((hI2.2 q1) _ rfl) (fun r6 I5 L5 hI5 => sm_iast (i := ((sm_uI I2 76 3 ((I2 76 3) + 1)) 76 21)) (v := r6) hx dX12_thingText_72 (t_88 hB) hI5.1 (sm_aload_n (z := 76) hx dX12_thingText_73 rfl (sm_dup hx dX12_thingText_74 rfl (sm_getI hx dX12_thingText_75 fl_X12_251_12 (t_76 hB) rfl (sm_iconst (v := 1) hx dX12_thingText_78 sm_kc_1 (sm_iadd (a := ((sm_uI I5 88 (Int32.toNatClampNeg (((sm_uI I2 76 3 ((I2 76 3) + 1)) 76 21))) r6) 76 21)) (b := 1) hx dX12_thingText_79 (sm_putI hx dX12_thingText_80 fl_X12_251_12 (t_76 hB) rfl (sm_vretV hx dX12_thingText_83 rfl (hI5.2 _ rfl)))))))))))))))))))))))))))))))))))))))))) (fun q2 => sm_aload_n (z := 76) hx dX12_thingText_9 rfl (sm_callVV (args := []) (st := []) hx dX12_thingText_10 lv_X12_138_12 rfl rfl (t_76 hB) rfl rfl (h.2 q2) (fun I8 L8 hI8 => sm_vretV hx dX12_thingText_13 rfl hI8)))))))
theorem dX12_moonText_0 : decode cX12_moonText 0 = .ok (.aload_n 0, 1) := by decide +kernel
theorem dX12_moonText_1 : decode cX12_moonText 1 = .ok (.getfield 254, 3) := by decide +kernel
theorem dX12_moonText_4 : decode cX12_moonText 4 = .ok (.ifCond .le 8, 3) := by decide +kernel
theorem dX12_moonText_7 : decode cX12_moonText 7 = .ok (.aload_n 0, 1) := by decide +kernel
theorem dX12_moonText_8 : decode cX12_moonText 8 = .ok (.invokevirtual 138, 3) := by decide +kernel
theorem dX12_moonText_11 : decode cX12_moonText 11 = .ok (.return_, 1) := by decide +kernel
theorem dX12_moonText_12 : decode cX12_moonText 12 = .ok (.aload_n 0, 1) := by decide +kernel
theorem dX12_moonText_13 : decode cX12_moonText 13 = .ok (.dup, 1) := by decide +kernel
theorem dX12_moonText_14 : decode cX12_moonText 14 = .ok (.getfield 122, 3) := by decide +kernel
theorem dX12_moonText_17 : decode cX12_moonText 17 = .ok (.iconst 1, 1) := by decide +kernel
theorem dX12_moonText_18 : decode cX12_moonText 18 = .ok (.iadd, 1) := by decide +kernel
theorem dX12_moonText_19 : decode cX12_moonText 19 = .ok (.putfield 122, 3) := by decide +kernel
theorem dX12_moonText_22 : decode cX12_moonText 22 = .ok (.aload_n 0, 1) := by decide +kernel
theorem dX12_moonText_23 : decode cX12_moonText 23 = .ok (.bipush 7, 2) := by decide +kernel
theorem dX12_moonText_25 : decode cX12_moonText 25 = .ok (.putfield 254, 3) := by decide +kernel
theorem dX12_moonText_28 : decode cX12_moonText 28 = .ok (.aload_n 0, 1) := by decide +kernel
theorem dX12_moonText_29 : decode cX12_moonText 29 = .ok (.iconst 0, 1) := by decide +kernel
theorem dX12_moonText_30 : decode cX12_moonText 30 = .ok (.putfield 257, 3) := by decide +kernel
theorem dX12_moonText_33 : decode cX12_moonText 33 = .ok (.iconst 0, 1) := by decide +kernel
theorem dX12_moonText_34 : decode cX12_moonText 34 = .ok (.istore_n 1, 1) := by decide +kernel
theorem dX12_moonText_35 : decode cX12_moonText 35 = .ok (.aload_n 0, 1) := by decide +kernel
theorem dX12_moonText_36 : decode cX12_moonText 36 = .ok (.invokevirtual 141, 3) := by decide +kernel
theorem dX12_moonText_39 : decode cX12_moonText 39 = .ok (.bipush 112, 2) := by decide +kernel
theorem dX12_moonText_41 : decode cX12_moonText 41 = .ok (.if_icmp .ne 7, 3) := by decide +kernel
theorem dX12_moonText_44 : decode cX12_moonText 44 = .ok (.iconst 0, 1) := by decide +kernel
theorem dX12_moonText_45 : decode cX12_moonText 45 = .ok (.goto 17, 3) := by decide +kernel
theorem dX12_moonText_48 : decode cX12_moonText 48 = .ok (.aload_n 0, 1) := by decide +kernel
theorem dX12_moonText_49 : decode cX12_moonText 49 = .ok (.invokevirtual 141, 3) := by decide +kernel
theorem dX12_moonText_52 : decode cX12_moonText 52 = .ok (.bipush 103, 2) := by decide +kernel
theorem dX12_moonText_54 : decode cX12_moonText 54 = .ok (.if_icmp .ne 7, 3) := by decide +kernel
theorem dX12_moonText_57 : decode cX12_moonText 57 = .ok (.iconst 1, 1) := by decide +kernel
theorem dX12_moonText_58 : decode cX12_moonText 58 = .ok (.goto 4, 3) := by decide +kernel
theorem dX12_moonText_61 : decode cX12_moonText 61 = .ok (.iconst (-1), 1) := by decide +kernel
theorem dX12_moonText_62 : decode cX12_moonText 62 = .ok (.istore_n 2, 1) := by decide +kernel
theorem dX12_moonText_63 : decode cX12_moonText 63 = .ok (.aload_n 0, 1) := by decide +kernel
theorem dX12_moonText_64 : decode cX12_moonText 64 = .ok (.getfield 129, 3) := by decide +kernel
theorem dX12_moonText_67 : decode cX12_moonText 67 = .ok (.iconst (-1), 1) := by decide +kernel
theorem dX12_moonText_68 : decode cX12_moonText 68 = .ok (.if_icmp .ne 112, 3) := by decide +kernel
theorem dX12_moonText_71 : decode cX12_moonText 71 = .ok (.iload_n 2, 1) := by decide +kernel
theorem dX12_moonText_72 : decode cX12_moonText 72 = .ok (.iconst (-1), 1) := by decide +kernel
theorem dX12_moonText_73 : decode cX12_moonText 73 = .ok (.if_icmp .eq 107, 3) := by decide +kernel
theorem dX12_moonText_76 : decode cX12_moonText 76 = .ok (.iload_n 1, 1) := by decide +kernel
theorem dX12_moonText_77 : decode cX12_moonText 77 = .ok (.iload_n 2, 1) := by decide +kernel
theorem dX12_moonText_78 : decode cX12_moonText 78 = .ok (.invokestatic 240, 3) := by decide +kernel
theorem dX12_moonText_81 : decode cX12_moonText 81 = .ok (.ifCond .ne 99, 3) := by decide +kernel
theorem dX12_moonText_84 : decode cX12_moonText 84 = .ok (.iload_n 1, 1) := by decide +kernel
theorem dX12_moonText_85 : decode cX12_moonText 85 = .ok (.iconst 1, 1) := by decide +kernel
theorem dX12_moonText_86 : decode cX12_moonText 86 = .ok (.iload_n 2, 1) := by decide +kernel
theorem dX12_moonText_87 : decode cX12_moonText 87 = .ok (.ishl, 1) := by decide +kernel
theorem dX12_moonText_88 : decode cX12_moonText 88 = .ok (.ior, 1) := by decide +kernel
theorem dX12_moonText_89 : decode cX12_moonText 89 = .ok (.istore_n 1, 1) := by decide +kernel
theorem dX12_moonText_90 : decode cX12_moonText 90 = .ok (.aload_n 0, 1) := by decide +kernel
theorem dX12_moonText_91 : decode cX12_moonText 91 = .ok (.dup, 1) := by decide +kernel
theorem dX12_moonText_92 : decode cX12_moonText 92 = .ok (.getfield 122, 3) := by decide +kernel
theorem dX12_moonText_95 : decode cX12_moonText 95 = .ok (.iconst 1, 1) := by decide +kernel
theorem dX12_moonText_96 : decode cX12_moonText 96 = .ok (.iadd, 1) := by decide +kernel
theorem dX12_moonText_97 : decode cX12_moonText 97 = .ok (.putfield 122, 3) := by decide +kernel
theorem dX12_moonText_100 : decode cX12_moonText 100 = .ok (.aload_n 0, 1) := by decide +kernel
theorem dX12_moonText_101 : decode cX12_moonText 101 = .ok (.iload_n 2, 1) := by decide +kernel
theorem dX12_moonText_102 : decode cX12_moonText 102 = .ok (.ifCond .ne 7, 3) := by decide +kernel
theorem dX12_moonText_105 : decode cX12_moonText 105 = .ok (.iconst 2, 1) := by decide +kernel
theorem dX12_moonText_106 : decode cX12_moonText 106 = .ok (.goto 4, 3) := by decide +kernel
theorem dX12_moonText_109 : decode cX12_moonText 109 = .ok (.iconst 0, 1) := by decide +kernel
theorem dX12_moonText_110 : decode cX12_moonText 110 = .ok (.bipush 9, 2) := by decide +kernel
theorem dX12_moonText_112 : decode cX12_moonText 112 = .ok (.invokevirtual 247, 3) := by decide +kernel
theorem dX12_moonText_115 : decode cX12_moonText 115 = .ok (.istore_n 3, 1) := by decide +kernel
theorem dX12_moonText_116 : decode cX12_moonText 116 = .ok (.aload_n 0, 1) := by decide +kernel
theorem dX12_moonText_117 : decode cX12_moonText 117 = .ok (.iload_n 2, 1) := by decide +kernel
theorem dX12_moonText_118 : decode cX12_moonText 118 = .ok (.ifCond .ne 7, 3) := by decide +kernel
theorem dX12_moonText_121 : decode cX12_moonText 121 = .ok (.iload_n 3, 1) := by decide +kernel
theorem dX12_moonText_122 : decode cX12_moonText 122 = .ok (.goto 7, 3) := by decide +kernel
theorem dX12_moonText_125 : decode cX12_moonText 125 = .ok (.aload_n 0, 1) := by decide +kernel
theorem dX12_moonText_126 : decode cX12_moonText 126 = .ok (.getfield 254, 3) := by decide +kernel
theorem dX12_moonText_129 : decode cX12_moonText 129 = .ok (.putfield 254, 3) := by decide +kernel
theorem dX12_moonText_132 : decode cX12_moonText 132 = .ok (.aload_n 0, 1) := by decide +kernel
theorem dX12_moonText_133 : decode cX12_moonText 133 = .ok (.iload_n 2, 1) := by decide +kernel
theorem dX12_moonText_134 : decode cX12_moonText 134 = .ok (.iconst 1, 1) := by decide +kernel
theorem dX12_moonText_135 : decode cX12_moonText 135 = .ok (.if_icmp .ne 7, 3) := by decide +kernel
theorem dX12_moonText_138 : decode cX12_moonText 138 = .ok (.iload_n 3, 1) := by decide +kernel
theorem dX12_moonText_139 : decode cX12_moonText 139 = .ok (.goto 7, 3) := by decide +kernel
theorem dX12_moonText_142 : decode cX12_moonText 142 = .ok (.aload_n 0, 1) := by decide +kernel
theorem dX12_moonText_143 : decode cX12_moonText 143 = .ok (.getfield 257, 3) := by decide +kernel
theorem dX12_moonText_146 : decode cX12_moonText 146 = .ok (.putfield 257, 3) := by decide +kernel
theorem dX12_moonText_149 : decode cX12_moonText 149 = .ok (.aload_n 0, 1) := by decide +kernel
theorem dX12_moonText_150 : decode cX12_moonText 150 = .ok (.invokevirtual 141, 3) := by decide +kernel
theorem dX12_moonText_153 : decode cX12_moonText 153 = .ok (.bipush 112, 2) := by decide +kernel
theorem dX12_moonText_155 : decode cX12_moonText 155 = .ok (.if_icmp .ne 7, 3) := by decide +kernel
theorem dX12_moonText_158 : decode cX12_moonText 158 = .ok (.iconst 0, 1) := by decide +kernel
theorem dX12_moonText_159 : decode cX12_moonText 159 = .ok (.goto 17, 3) := by decide +kernel
theorem dX12_moonText_162 : decode cX12_moonText 162 = .ok (.aload_n 0, 1) := by decide +kernel
theorem dX12_moonText_163 : decode cX12_moonText 163 = .ok (.invokevirtual 141, 3) := by decide +kernel
theorem dX12_moonText_166 : decode cX12_moonText 166 = .ok (.bipush 103, 2) := by decide +kernel
theorem dX12_moonText_168 : decode cX12_moonText 168 = .ok (.if_icmp .ne 7, 3) := by decide +kernel
theorem dX12_moonText_171 : decode cX12_moonText 171 = .ok (.iconst 1, 1) := by decide +kernel
theorem dX12_moonText_172 : decode cX12_moonText 172 = .ok (.goto 4, 3) := by decide +kernel
theorem dX12_moonText_175 : decode cX12_moonText 175 = .ok (.iconst (-1), 1) := by decide +kernel
theorem dX12_moonText_176 : decode cX12_moonText 176 = .ok (.istore_n 2, 1) := by decide +kernel
theorem dX12_moonText_177 : decode cX12_moonText 177 = .ok (.goto (-114), 3) := by decide +kernel
theorem dX12_moonText_180 : decode cX12_moonText 180 = .ok (.return_, 1) := by decide +kernel
set_option maxRecDepth 100000 in
theorem u_X12_moonText_63 {x : sm_Cx} {n : Nat} {F : sm_MI → sm_ML → Prop} {T : List sm_Sh} {I : sm_MI} {L : sm_ML} {a1 : Int32} {a2 : Int32} {u3 : Option Value} (hB : sm_Bs T) (hx : sm_Ok x mX12_moonText (n + 1) (sm_KV T F))
    (h : (¬ (I 76 4) = (-1) → F I L) ∧ ((I 76 4) = (-1) → (a2 = (-1) → F I L) ∧ (¬ a2 = (-1) → sm_CZ n mX12_has T I L [.int a1, .int a2] (fun r2 I1 L1 => (r2 = true → F I1 L1) ∧ (r2 = false → (¬ a2 = 0 → sm_CI n mX12_digit T (sm_uI I1 76 3 ((I1 76 3) + 1)) L1 [.ref 76, .int 0, .int 9] (fun r4 I3 L3 => (¬ a2 = 0 → sm_V x 0 0 T I3 L3 129 [some (.ref 76), some (.int (a1 ||| (1 <<< (a2 &&& 31)))), some (.int a2), some (.int r4)] [.int (I3 76 22), .ref 76]) ∧ (a2 = 0 → sm_V x 0 0 T I3 L3 129 [some (.ref 76), some (.int (a1 ||| (1 <<< (a2 &&& 31)))), some (.int a2), some (.int r4)] [.int r4, .ref 76]))) ∧ (a2 = 0 → sm_CI n mX12_digit T (sm_uI I1 76 3 ((I1 76 3) + 1)) L1 [.ref 76, .int 2, .int 9] (fun r6 I5 L5 => (¬ a2 = 0 → sm_V x 0 0 T I5 L5 129 [some (.ref 76), some (.int (a1 ||| (1 <<< (a2 &&& 31)))), some (.int a2), some (.int r6)] [.int (I5 76 22), .ref 76]) ∧ (a2 = 0 → sm_V x 0 0 T I5 L5 129 [some (.ref 76), some (.int (a1 ||| (1 <<< (a2 &&& 31)))), some (.int a2), some (.int r6)] [.int r6, .ref 76])))))))) :
    sm_V x 0 0 T I L 63 [some (.ref 76), some (.int a1), some (.int a2), u3] [] :=
  sm_aload_n (z := 76) hx dX12_moonText_63 rfl (sm_getI hx dX12_moonText_64 fl_X12_129_12 (t_76 hB) rfl (sm_iconst (v := (-1)) hx dX12_moonText_67 sm_kc_m1 (sm_icmpne (a := (I 76 4)) (b := (-1)) hx dX12_moonText_68 (tgt := 180) (by decide) (fun q6 => sm_vretV hx dX12_moonText_180 rfl (h.1 q6)) (fun q6 => sm_iload_n (z := a2) hx dX12_moonText_71 rfl (sm_iconst (v := (-1)) hx dX12_moonText_72 sm_kc_m1 (sm_icmpeq (a := a2) (b := (-1)) hx dX12_moonText_73 (tgt := 180) (by decide) (fun q5 => sm_vretV hx dX12_moonText_180 rfl ((h.2 q6).1 q5)) (fun q5 => sm_iload_n (z := a1) hx dX12_moonText_76 rfl (sm_iload_n (z := a2) hx dX12_moonText_77 rfl (sm_callSZ (args := [.int a1, .int a2]) (st := []) hx dX12_moonText_78 ls_X12_240 rfl rfl rfl ((h.2 q6).2 q5) (fun r2 I1 L1 hI1 => sm_ifneZ (b := r2) hx dX12_moonText_81 (tgt := 180) (by decide) (fun q4 => sm_vretV hx dX12_moonText_180 rfl (hI1.1 q4)) (fun q4 => sm_iload_n (z := a1) hx dX12_moonText_84 rfl (sm_iconst (v := 1) hx dX12_moonText_85 sm_kc_1 (sm_iload_n (z := a2) hx dX12_moonText_86 rfl (sm_ishl (a := 1) (b := a2) hx dX12_moonText_87 (sm_ior (a := a1) (b := (1 <<< (a2 &&& 31))) hx dX12_moonText_88 (sm_istore_n (ls' := [some (.ref 76), some (.int (a1 ||| (1 <<< (a2 &&& 31)))), some (.int a2), u3]) hx dX12_moonText_89 (by decide) rfl (sm_aload_n (z := 76) hx dX12_moonText_90 rfl (sm_dup hx dX12_moonText_91 rfl (sm_getI hx dX12_moonText_92 fl_X12_122_12 (t_76 hB) rfl (sm_iconst (v := 1) hx dX12_moonText_95 sm_kc_1 (sm_iadd (a := (I1 76 3)) (b := 1) hx dX12_moonText_96 (sm_putI hx dX12_moonText_97 fl_X12_122_12 (t_76 hB) rfl (sm_aload_n (z := 76) hx dX12_moonText_100 rfl (sm_iload_n (z := a2) hx dX12_moonText_101 rfl (sm_ifne (a := a2) hx dX12_moonText_102 (tgt := 109) (by decide) (fun q3 => sm_iconst (v := 0) hx dX12_moonText_109 sm_kc_0 (sm_bipush (v := 9) hx dX12_moonText_110 sm_kb_9 (sm_callVI (args := [.int 0, .int 9]) (st := []) hx dX12_moonText_112 lv_X12_247_12 rfl rfl (t_76 hB) rfl rfl ((hI1.2 q4).1 q3) (fun r4 I3 L3 hI3 => sm_istore_n (ls' := [some (.ref 76), some (.int (a1 ||| (1 <<< (a2 &&& 31)))), some (.int a2), some (.int r4)]) hx dX12_moonText_115 (by decide) rfl (sm_aload_n (z := 76) hx dX12_moonText_116 rfl (sm_iload_n (z := a2) hx dX12_moonText_117 rfl (sm_ifne (a := a2) hx dX12_moonText_118 (tgt := 125) (by decide) (fun q1 => sm_aload_n (z := 76) hx dX12_moonText_125 rfl (sm_getI hx dX12_moonText_126 fl_X12_254_12 (t_76 hB) rfl ((hI3.1 q1)))) (fun q1 => sm_iload_n (z := r4) hx dX12_moonText_121 rfl (sm_goto hx dX12_moonText_122 (tgt := 129) (by decide) ((hI3.2 q1))))))))))) (fun q3 => sm_iconst (v := 2) hx dX12_moonText_105 sm_kc_2 (sm_goto hx dX12_moonText_106 (tgt := 110) (by decide) (sm_bipush (v := 9) hx dX12_moonText_110 sm_kb_9 (sm_callVI (args := [.int 2, .int 9]) (st := []) hx dX12_moonText_112 lv_X12_247_12 rfl rfl (t_76 hB) rfl rfl ((hI1.2 q4).2 q3) (fun r6 I5 L5 hI5 => sm_istore_n (ls' := [some (.ref 76), some (.int (a1 ||| (1 <<< (a2 &&& 31)))), some (.int a2), some (.int r6)]) hx dX12_moonText_115 (by decide) rfl (sm_aload_n (z := 76) hx dX12_moonText_116 rfl (sm_iload_n (z := a2) hx dX12_moonText_117 rfl (sm_ifne (a := a2) hx dX12_moonText_118 (tgt := 125) (by decide) (fun q2 => sm_aload_n (z := 76) hx dX12_moonText_125 rfl (sm_getI hx dX12_moonText_126 fl_X12_254_12 (t_76 hB) rfl ((hI5.1 q2)))) (fun q2 => sm_iload_n (z := r6) hx dX12_moonText_121 rfl (sm_goto hx dX12_moonText_122 (tgt := 129) (by decide) ((hI5.2 q2)))))))))))))))))))))))))))))))))))))
set_option maxRecDepth 100000 in
theorem u_X12_moonText_129 {x : sm_Cx} {n : Nat} {F : sm_MI → sm_ML → Prop} {T : List sm_Sh} {I : sm_MI} {L : sm_ML} {a1 : Int32} {a2 : Int32} {a3 : Int32} {as0 : Int32} (hB : sm_Bs T) (hx : sm_Ok x mX12_moonText (n + 1) (sm_KV T F))
    (h : (¬ a2 = 1 → ∀ I1 : sm_MI, I1 = (sm_uI I 76 22 as0) → sm_CI n mX12_look T (sm_uI I1 76 23 (I1 76 23)) L [.ref 76] (fun r3 I2 L2 => (¬ r3 = 112 → sm_CI n mX12_look T I2 L2 [.ref 76] (fun r5 I4 L4 => (¬ r5 = 103 → sm_V x 0 0 T I4 L4 63 [some (.ref 76), some (.int a1), some (.int (-1)), some (.int a3)] []) ∧ (r5 = 103 → sm_V x 0 0 T I4 L4 63 [some (.ref 76), some (.int a1), some (.int 1), some (.int a3)] []))) ∧ (r3 = 112 → sm_V x 0 0 T I2 L2 63 [some (.ref 76), some (.int a1), some (.int 0), some (.int a3)] []))) ∧ (a2 = 1 → sm_CI n mX12_look T (sm_uI (sm_uI I 76 22 as0) 76 23 a3) L [.ref 76] (fun r7 I6 L6 => (¬ r7 = 112 → sm_CI n mX12_look T I6 L6 [.ref 76] (fun r9 I8 L8 => (¬ r9 = 103 → sm_V x 0 0 T I8 L8 63 [some (.ref 76), some (.int a1), some (.int (-1)), some (.int a3)] []) ∧ (r9 = 103 → sm_V x 0 0 T I8 L8 63 [some (.ref 76), some (.int a1), some (.int 1), some (.int a3)] []))) ∧ (r7 = 112 → sm_V x 0 0 T I6 L6 63 [some (.ref 76), some (.int a1), some (.int 0), some (.int a3)] [])))) :
    sm_V x 0 0 T I L 129 [some (.ref 76), some (.int a1), some (.int a2), some (.int a3)] [.int as0, .ref 76] :=
  sm_putI hx dX12_moonText_129 fl_X12_254_12 (t_76 hB) rfl (sm_aload_n (z := 76) hx dX12_moonText_132 rfl (sm_iload_n (z := a2) hx dX12_moonText_133 rfl (sm_iconst (v := 1) hx dX12_moonText_134 sm_kc_1 (sm_icmpne (a := a2) (b := 1) hx dX12_moonText_135 (tgt := 142) (by decide) (fun q11 => sm_aload_n (z := 76) hx dX12_moonText_142 rfl (sm_getI hx dX12_moonText_143 fl_X12_257_12 (t_76 hB) rfl (sm_putI hx dX12_moonText_146 fl_X12_257_12 (t_76 hB) rfl (sm_aload_n (z := 76) hx dX12_moonText_149 rfl (sm_callVI (args := []) (st := []) hx dX12_moonText_150 lv_X12_141_12 rfl rfl (t_76 hB) rfl rfl ((h.1 q11) _ rfl) (fun r3 I2 L2 hI2 => sm_bipush (v := 112) hx dX12_moonText_153 sm_kb_112 (sm_icmpne (a := r3) (b := 112) hx dX12_moonText_155 (tgt := 162) (by decide) (fun q8 => sm_aload_n (z := 76) hx dX12_moonText_162 rfl (sm_callVI (args := []) (st := []) hx dX12_moonText_163 lv_X12_141_12 rfl rfl (t_76 hB) rfl rfl (hI2.1 q8) (fun r5 I4 L4 hI4 => sm_bipush (v := 103) hx dX12_moonText_166 sm_kb_103 (sm_icmpne (a := r5) (b := 103) hx dX12_moonText_168 (tgt := 175) (by decide) (fun q7 => sm_iconst (v := (-1)) hx dX12_moonText_175 sm_kc_m1 (sm_istore_n (ls' := [some (.ref 76), some (.int a1), some (.int (-1)), some (.int a3)]) hx dX12_moonText_176 (by decide) rfl (sm_goto hx dX12_moonText_177 (tgt := 63) (by decide) ((hI4.1 q7))))) (fun q7 => sm_iconst (v := 1) hx dX12_moonText_171 sm_kc_1 (sm_goto hx dX12_moonText_172 (tgt := 176) (by decide) (sm_istore_n (ls' := [some (.ref 76), some (.int a1), some (.int 1), some (.int a3)]) hx dX12_moonText_176 (by decide) rfl (sm_goto hx dX12_moonText_177 (tgt := 63) (by decide) ((hI4.2 q7)))))))))) (fun q8 => sm_iconst (v := 0) hx dX12_moonText_158 sm_kc_0 (sm_goto hx dX12_moonText_159 (tgt := 176) (by decide) (sm_istore_n (ls' := [some (.ref 76), some (.int a1), some (.int 0), some (.int a3)]) hx dX12_moonText_176 (by decide) rfl (sm_goto hx dX12_moonText_177 (tgt := 63) (by decide) ((hI2.2 q8))))))))))))) (fun q11 => sm_iload_n (z := a3) hx dX12_moonText_138 rfl (sm_goto hx dX12_moonText_139 (tgt := 146) (by decide) (sm_putI hx dX12_moonText_146 fl_X12_257_12 (t_76 hB) rfl (sm_aload_n (z := 76) hx dX12_moonText_149 rfl (sm_callVI (args := []) (st := []) hx dX12_moonText_150 lv_X12_141_12 rfl rfl (t_76 hB) rfl rfl (h.2 q11) (fun r7 I6 L6 hI6 => sm_bipush (v := 112) hx dX12_moonText_153 sm_kb_112 (sm_icmpne (a := r7) (b := 112) hx dX12_moonText_155 (tgt := 162) (by decide) (fun q10 => sm_aload_n (z := 76) hx dX12_moonText_162 rfl (sm_callVI (args := []) (st := []) hx dX12_moonText_163 lv_X12_141_12 rfl rfl (t_76 hB) rfl rfl (hI6.1 q10) (fun r9 I8 L8 hI8 => sm_bipush (v := 103) hx dX12_moonText_166 sm_kb_103 (sm_icmpne (a := r9) (b := 103) hx dX12_moonText_168 (tgt := 175) (by decide) (fun q9 => sm_iconst (v := (-1)) hx dX12_moonText_175 sm_kc_m1 (sm_istore_n (ls' := [some (.ref 76), some (.int a1), some (.int (-1)), some (.int a3)]) hx dX12_moonText_176 (by decide) rfl (sm_goto hx dX12_moonText_177 (tgt := 63) (by decide) ((hI8.1 q9))))) (fun q9 => sm_iconst (v := 1) hx dX12_moonText_171 sm_kc_1 (sm_goto hx dX12_moonText_172 (tgt := 176) (by decide) (sm_istore_n (ls' := [some (.ref 76), some (.int a1), some (.int 1), some (.int a3)]) hx dX12_moonText_176 (by decide) rfl (sm_goto hx dX12_moonText_177 (tgt := 63) (by decide) ((hI8.2 q9)))))))))) (fun q10 => sm_iconst (v := 0) hx dX12_moonText_158 sm_kc_0 (sm_goto hx dX12_moonText_159 (tgt := 176) (by decide) (sm_istore_n (ls' := [some (.ref 76), some (.int a1), some (.int 0), some (.int a3)]) hx dX12_moonText_176 (by decide) rfl (sm_goto hx dX12_moonText_177 (tgt := 63) (by decide) ((hI6.2 q10)))))))))))))))))
set_option maxRecDepth 100000 in
theorem c_X12_moonText {n : Nat} {F : sm_MI → sm_ML → Prop} {T : List sm_Sh} {I : sm_MI} {L : sm_ML}  (hB : sm_Bs T)
    (h : ∀ x : sm_Cx, sm_Ok x mX12_moonText (n + 1) (sm_KV T F) → ((I 76 22) ≤ 0 → sm_CI n mX12_look T (sm_uI (sm_uI (sm_uI I 76 3 ((I 76 3) + 1)) 76 22 7) 76 23 0) L [.ref 76] (fun r2 I1 L1 => (¬ r2 = 112 → sm_CI n mX12_look T I1 L1 [.ref 76] (fun r4 I3 L3 => (¬ r4 = 103 → sm_V x 0 0 T I3 L3 63 [some (.ref 76), some (.int 0), some (.int (-1)), none] []) ∧ (r4 = 103 → sm_V x 0 0 T I3 L3 63 [some (.ref 76), some (.int 0), some (.int 1), none] []))) ∧ (r2 = 112 → sm_V x 0 0 T I1 L1 63 [some (.ref 76), some (.int 0), some (.int 0), none] []))) ∧ (¬ (I 76 22) ≤ 0 → sm_CV n mX12_bad T I L [.ref 76] (fun I5 L5 => F I5 L5))) :
    sm_CV (n + 1) mX12_moonText T I L [.ref 76] F :=
  sm_CV.of (by decide +kernel) rfl (fun x hx => show sm_V x 0 0 T I L 0 [some (.ref 76), none, none, none] [] from
  sm_aload_n (z := 76) hx dX12_moonText_0 rfl (sm_getI hx dX12_moonText_1 fl_X12_254_12 (t_76 hB) rfl (sm_ifle (a := (I 76 22)) hx dX12_moonText_4 (tgt := 12) (by decide) (fun q14 => sm_aload_n (z := 76) hx dX12_moonText_12 rfl (sm_dup hx dX12_moonText_13 rfl (sm_getI hx dX12_moonText_14 fl_X12_122_12 (t_76 hB) rfl (sm_iconst (v := 1) hx dX12_moonText_17 sm_kc_1 (sm_iadd (a := (I 76 3)) (b := 1) hx dX12_moonText_18 (sm_putI hx dX12_moonText_19 fl_X12_122_12 (t_76 hB) rfl (sm_aload_n (z := 76) hx dX12_moonText_22 rfl (sm_bipush (v := 7) hx dX12_moonText_23 sm_kb_7 (sm_putI hx dX12_moonText_25 fl_X12_254_12 (t_76 hB) rfl (sm_aload_n (z := 76) hx dX12_moonText_28 rfl (sm_iconst (v := 0) hx dX12_moonText_29 sm_kc_0 (sm_putI hx dX12_moonText_30 fl_X12_257_12 (t_76 hB) rfl (sm_iconst (v := 0) hx dX12_moonText_33 sm_kc_0 (sm_istore_n (ls' := [some (.ref 76), some (.int 0), none, none]) hx dX12_moonText_34 (by decide) rfl (sm_aload_n (z := 76) hx dX12_moonText_35 rfl (sm_callVI (args := []) (st := []) hx dX12_moonText_36 lv_X12_141_12 rfl rfl (t_76 hB) rfl rfl ((h x hx).1 q14) (fun r2 I1 L1 hI1 => sm_bipush (v := 112) hx dX12_moonText_39 sm_kb_112 (sm_icmpne (a := r2) (b := 112) hx dX12_moonText_41 (tgt := 48) (by decide) (fun q13 => sm_aload_n (z := 76) hx dX12_moonText_48 rfl (sm_callVI (args := []) (st := []) hx dX12_moonText_49 lv_X12_141_12 rfl rfl (t_76 hB) rfl rfl (hI1.1 q13) (fun r4 I3 L3 hI3 => sm_bipush (v := 103) hx dX12_moonText_52 sm_kb_103 (sm_icmpne (a := r4) (b := 103) hx dX12_moonText_54 (tgt := 61) (by decide) (fun q12 => sm_iconst (v := (-1)) hx dX12_moonText_61 sm_kc_m1 (sm_istore_n (ls' := [some (.ref 76), some (.int 0), some (.int (-1)), none]) hx dX12_moonText_62 (by decide) rfl ((hI3.1 q12)))) (fun q12 => sm_iconst (v := 1) hx dX12_moonText_57 sm_kc_1 (sm_goto hx dX12_moonText_58 (tgt := 62) (by decide) (sm_istore_n (ls' := [some (.ref 76), some (.int 0), some (.int 1), none]) hx dX12_moonText_62 (by decide) rfl ((hI3.2 q12))))))))) (fun q13 => sm_iconst (v := 0) hx dX12_moonText_44 sm_kc_0 (sm_goto hx dX12_moonText_45 (tgt := 62) (by decide) (sm_istore_n (ls' := [some (.ref 76), some (.int 0), some (.int 0), none]) hx dX12_moonText_62 (by decide) rfl ((hI1.2 q13))))))))))))))))))))))) (fun q14 => sm_aload_n (z := 76) hx dX12_moonText_7 rfl (sm_callVV (args := []) (st := []) hx dX12_moonText_8 lv_X12_138_12 rfl rfl (t_76 hB) rfl rfl ((h x hx).2 q14) (fun I5 L5 hI5 => sm_vretV hx dX12_moonText_11 rfl hI5))))))
theorem dX12_readStreet_0 : decode cX12_readStreet 0 = .ok (.aload_n 0, 1) := by decide +kernel
theorem dX12_readStreet_1 : decode cX12_readStreet 1 = .ok (.iconst 0, 1) := by decide +kernel
theorem dX12_readStreet_2 : decode cX12_readStreet 2 = .ok (.putfield 122, 3) := by decide +kernel
theorem dX12_readStreet_5 : decode cX12_readStreet 5 = .ok (.aload_n 0, 1) := by decide +kernel
theorem dX12_readStreet_6 : decode cX12_readStreet 6 = .ok (.iconst (-1), 1) := by decide +kernel
theorem dX12_readStreet_7 : decode cX12_readStreet 7 = .ok (.putfield 129, 3) := by decide +kernel
theorem dX12_readStreet_10 : decode cX12_readStreet 10 = .ok (.aload_n 0, 1) := by decide +kernel
theorem dX12_readStreet_11 : decode cX12_readStreet 11 = .ok (.iconst 0, 1) := by decide +kernel
theorem dX12_readStreet_12 : decode cX12_readStreet 12 = .ok (.putfield 234, 3) := by decide +kernel
theorem dX12_readStreet_15 : decode cX12_readStreet 15 = .ok (.aload_n 0, 1) := by decide +kernel
theorem dX12_readStreet_16 : decode cX12_readStreet 16 = .ok (.iconst 0, 1) := by decide +kernel
theorem dX12_readStreet_17 : decode cX12_readStreet 17 = .ok (.putfield 251, 3) := by decide +kernel
theorem dX12_readStreet_20 : decode cX12_readStreet 20 = .ok (.aload_n 0, 1) := by decide +kernel
theorem dX12_readStreet_21 : decode cX12_readStreet 21 = .ok (.iconst 0, 1) := by decide +kernel
theorem dX12_readStreet_22 : decode cX12_readStreet 22 = .ok (.putfield 254, 3) := by decide +kernel
theorem dX12_readStreet_25 : decode cX12_readStreet 25 = .ok (.aload_n 0, 1) := by decide +kernel
theorem dX12_readStreet_26 : decode cX12_readStreet 26 = .ok (.iconst 0, 1) := by decide +kernel
theorem dX12_readStreet_27 : decode cX12_readStreet 27 = .ok (.putfield 257, 3) := by decide +kernel
theorem dX12_readStreet_30 : decode cX12_readStreet 30 = .ok (.aload_n 0, 1) := by decide +kernel
theorem dX12_readStreet_31 : decode cX12_readStreet 31 = .ok (.invokevirtual 141, 3) := by decide +kernel
theorem dX12_readStreet_34 : decode cX12_readStreet 34 = .ok (.bipush 104, 2) := by decide +kernel
theorem dX12_readStreet_36 : decode cX12_readStreet 36 = .ok (.if_icmp .eq 12, 3) := by decide +kernel
theorem dX12_readStreet_39 : decode cX12_readStreet 39 = .ok (.aload_n 0, 1) := by decide +kernel
theorem dX12_readStreet_40 : decode cX12_readStreet 40 = .ok (.invokevirtual 138, 3) := by decide +kernel
theorem dX12_readStreet_43 : decode cX12_readStreet 43 = .ok (.aload_n 0, 1) := by decide +kernel
theorem dX12_readStreet_44 : decode cX12_readStreet 44 = .ok (.getfield 129, 3) := by decide +kernel
theorem dX12_readStreet_47 : decode cX12_readStreet 47 = .ok (.ireturn, 1) := by decide +kernel
theorem dX12_readStreet_48 : decode cX12_readStreet 48 = .ok (.aload_n 0, 1) := by decide +kernel
theorem dX12_readStreet_49 : decode cX12_readStreet 49 = .ok (.dup, 1) := by decide +kernel
theorem dX12_readStreet_50 : decode cX12_readStreet 50 = .ok (.getfield 122, 3) := by decide +kernel
theorem dX12_readStreet_53 : decode cX12_readStreet 53 = .ok (.iconst 1, 1) := by decide +kernel
theorem dX12_readStreet_54 : decode cX12_readStreet 54 = .ok (.iadd, 1) := by decide +kernel
theorem dX12_readStreet_55 : decode cX12_readStreet 55 = .ok (.putfield 122, 3) := by decide +kernel
theorem dX12_readStreet_58 : decode cX12_readStreet 58 = .ok (.aload_n 0, 1) := by decide +kernel
theorem dX12_readStreet_59 : decode cX12_readStreet 59 = .ok (.aload_n 0, 1) := by decide +kernel
theorem dX12_readStreet_60 : decode cX12_readStreet 60 = .ok (.iconst 2, 1) := by decide +kernel
theorem dX12_readStreet_61 : decode cX12_readStreet 61 = .ok (.bipush 8, 2) := by decide +kernel
theorem dX12_readStreet_63 : decode cX12_readStreet 63 = .ok (.invokevirtual 247, 3) := by decide +kernel
theorem dX12_readStreet_66 : decode cX12_readStreet 66 = .ok (.putfield 231, 3) := by decide +kernel
theorem dX12_readStreet_69 : decode cX12_readStreet 69 = .ok (.aload_n 0, 1) := by decide +kernel
theorem dX12_readStreet_70 : decode cX12_readStreet 70 = .ok (.getfield 129, 3) := by decide +kernel
theorem dX12_readStreet_73 : decode cX12_readStreet 73 = .ok (.iconst (-1), 1) := by decide +kernel
theorem dX12_readStreet_74 : decode cX12_readStreet 74 = .ok (.if_icmp .ne 73, 3) := by decide +kernel
theorem dX12_readStreet_77 : decode cX12_readStreet 77 = .ok (.aload_n 0, 1) := by decide +kernel
theorem dX12_readStreet_78 : decode cX12_readStreet 78 = .ok (.invokevirtual 141, 3) := by decide +kernel
theorem dX12_readStreet_81 : decode cX12_readStreet 81 = .ok (.bipush 59, 2) := by decide +kernel
theorem dX12_readStreet_83 : decode cX12_readStreet 83 = .ok (.if_icmp .ne 64, 3) := by decide +kernel
theorem dX12_readStreet_86 : decode cX12_readStreet 86 = .ok (.aload_n 0, 1) := by decide +kernel
theorem dX12_readStreet_87 : decode cX12_readStreet 87 = .ok (.dup, 1) := by decide +kernel
theorem dX12_readStreet_88 : decode cX12_readStreet 88 = .ok (.getfield 122, 3) := by decide +kernel
theorem dX12_readStreet_91 : decode cX12_readStreet 91 = .ok (.iconst 1, 1) := by decide +kernel
theorem dX12_readStreet_92 : decode cX12_readStreet 92 = .ok (.iadd, 1) := by decide +kernel
theorem dX12_readStreet_93 : decode cX12_readStreet 93 = .ok (.putfield 122, 3) := by decide +kernel
theorem dX12_readStreet_96 : decode cX12_readStreet 96 = .ok (.aload_n 0, 1) := by decide +kernel
theorem dX12_readStreet_97 : decode cX12_readStreet 97 = .ok (.invokevirtual 141, 3) := by decide +kernel
theorem dX12_readStreet_100 : decode cX12_readStreet 100 = .ok (.istore_n 1, 1) := by decide +kernel
theorem dX12_readStreet_101 : decode cX12_readStreet 101 = .ok (.iload_n 1, 1) := by decide +kernel
theorem dX12_readStreet_102 : decode cX12_readStreet 102 = .ok (.bipush 119, 2) := by decide +kernel
theorem dX12_readStreet_104 : decode cX12_readStreet 104 = .ok (.if_icmp .ne 10, 3) := by decide +kernel
theorem dX12_readStreet_107 : decode cX12_readStreet 107 = .ok (.aload_n 0, 1) := by decide +kernel
theorem dX12_readStreet_108 : decode cX12_readStreet 108 = .ok (.invokevirtual 260, 3) := by decide +kernel
theorem dX12_readStreet_111 : decode cX12_readStreet 111 = .ok (.goto 33, 3) := by decide +kernel
theorem dX12_readStreet_114 : decode cX12_readStreet 114 = .ok (.iload_n 1, 1) := by decide +kernel
theorem dX12_readStreet_115 : decode cX12_readStreet 115 = .ok (.bipush 111, 2) := by decide +kernel
theorem dX12_readStreet_117 : decode cX12_readStreet 117 = .ok (.if_icmp .ne 10, 3) := by decide +kernel
theorem dX12_readStreet_120 : decode cX12_readStreet 120 = .ok (.aload_n 0, 1) := by decide +kernel
theorem dX12_readStreet_121 : decode cX12_readStreet 121 = .ok (.invokevirtual 263, 3) := by decide +kernel
theorem dX12_readStreet_124 : decode cX12_readStreet 124 = .ok (.goto 20, 3) := by decide +kernel
theorem dX12_readStreet_127 : decode cX12_readStreet 127 = .ok (.iload_n 1, 1) := by decide +kernel
theorem dX12_readStreet_128 : decode cX12_readStreet 128 = .ok (.bipush 109, 2) := by decide +kernel
theorem dX12_readStreet_130 : decode cX12_readStreet 130 = .ok (.if_icmp .ne 10, 3) := by decide +kernel
theorem dX12_readStreet_133 : decode cX12_readStreet 133 = .ok (.aload_n 0, 1) := by decide +kernel
theorem dX12_readStreet_134 : decode cX12_readStreet 134 = .ok (.invokevirtual 266, 3) := by decide +kernel
theorem dX12_readStreet_137 : decode cX12_readStreet 137 = .ok (.goto 7, 3) := by decide +kernel
theorem dX12_readStreet_140 : decode cX12_readStreet 140 = .ok (.aload_n 0, 1) := by decide +kernel
theorem dX12_readStreet_141 : decode cX12_readStreet 141 = .ok (.invokevirtual 138, 3) := by decide +kernel
theorem dX12_readStreet_144 : decode cX12_readStreet 144 = .ok (.goto (-75), 3) := by decide +kernel
theorem dX12_readStreet_147 : decode cX12_readStreet 147 = .ok (.aload_n 0, 1) := by decide +kernel
theorem dX12_readStreet_148 : decode cX12_readStreet 148 = .ok (.getfield 129, 3) := by decide +kernel
theorem dX12_readStreet_151 : decode cX12_readStreet 151 = .ok (.iconst (-1), 1) := by decide +kernel
theorem dX12_readStreet_152 : decode cX12_readStreet 152 = .ok (.if_icmp .ne 29, 3) := by decide +kernel
theorem dX12_readStreet_155 : decode cX12_readStreet 155 = .ok (.aload_n 0, 1) := by decide +kernel
theorem dX12_readStreet_156 : decode cX12_readStreet 156 = .ok (.invokevirtual 141, 3) := by decide +kernel
theorem dX12_readStreet_159 : decode cX12_readStreet 159 = .ok (.iconst (-1), 1) := by decide +kernel
theorem dX12_readStreet_160 : decode cX12_readStreet 160 = .ok (.if_icmp .ne 17, 3) := by decide +kernel
theorem dX12_readStreet_163 : decode cX12_readStreet 163 = .ok (.aload_n 0, 1) := by decide +kernel
theorem dX12_readStreet_164 : decode cX12_readStreet 164 = .ok (.getfield 234, 3) := by decide +kernel
theorem dX12_readStreet_167 : decode cX12_readStreet 167 = .ok (.ifCond .eq 10, 3) := by decide +kernel
theorem dX12_readStreet_170 : decode cX12_readStreet 170 = .ok (.aload_n 0, 1) := by decide +kernel
theorem dX12_readStreet_171 : decode cX12_readStreet 171 = .ok (.getfield 251, 3) := by decide +kernel
theorem dX12_readStreet_174 : decode cX12_readStreet 174 = .ok (.ifCond .ne 7, 3) := by decide +kernel
theorem dX12_readStreet_177 : decode cX12_readStreet 177 = .ok (.aload_n 0, 1) := by decide +kernel
theorem dX12_readStreet_178 : decode cX12_readStreet 178 = .ok (.invokevirtual 138, 3) := by decide +kernel
theorem dX12_readStreet_181 : decode cX12_readStreet 181 = .ok (.aload_n 0, 1) := by decide +kernel
theorem dX12_readStreet_182 : decode cX12_readStreet 182 = .ok (.getfield 129, 3) := by decide +kernel
theorem dX12_readStreet_185 : decode cX12_readStreet 185 = .ok (.ireturn, 1) := by decide +kernel
set_option maxRecDepth 100000 in
theorem u_X12_readStreet_69 {x : sm_Cx} {n : Nat} {F : Int32 → sm_MI → sm_ML → Prop} {T : List sm_Sh} {I : sm_MI} {L : sm_ML} {u1 : Option Value} (hB : sm_Bs T) (hx : sm_Ok x mX12_readStreet (n + 1) (sm_KI T F))
    (h : (¬ (I 76 4) = (-1) → sm_V x 0 0 T I L 147 [some (.ref 76), u1] []) ∧ ((I 76 4) = (-1) → sm_CI n mX12_look T I L [.ref 76] (fun r2 I1 L1 => (¬ r2 = 59 → sm_V x 0 0 T I1 L1 147 [some (.ref 76), u1] []) ∧ (r2 = 59 → sm_CI n mX12_look T (sm_uI I1 76 3 ((I1 76 3) + 1)) L1 [.ref 76] (fun r4 I3 L3 => (¬ r4 = 119 → (¬ r4 = 111 → (¬ r4 = 109 → sm_CV n mX12_bad T I3 L3 [.ref 76] (fun I5 L5 => sm_V x 0 0 T I5 L5 69 [some (.ref 76), some (.int r4)] [])) ∧ (r4 = 109 → sm_CV n mX12_moonText T I3 L3 [.ref 76] (fun I6 L6 => sm_V x 0 0 T I6 L6 69 [some (.ref 76), some (.int r4)] []))) ∧ (r4 = 111 → sm_CV n mX12_thingText T I3 L3 [.ref 76] (fun I7 L7 => sm_V x 0 0 T I7 L7 69 [some (.ref 76), some (.int r4)] []))) ∧ (r4 = 119 → sm_CV n mX12_sleeperText T I3 L3 [.ref 76] (fun I8 L8 => sm_V x 0 0 T I8 L8 69 [some (.ref 76), some (.int r4)] []))))))) :
    sm_V x 0 0 T I L 69 [some (.ref 76), u1] [] :=
  sm_aload_n (z := 76) hx dX12_readStreet_69 rfl (sm_getI hx dX12_readStreet_70 fl_X12_129_12 (t_76 hB) rfl (sm_iconst (v := (-1)) hx dX12_readStreet_73 sm_kc_m1 (sm_icmpne (a := (I 76 4)) (b := (-1)) hx dX12_readStreet_74 (tgt := 147) (by decide) (fun q5 => (h.1 q5)) (fun q5 => sm_aload_n (z := 76) hx dX12_readStreet_77 rfl (sm_callVI (args := []) (st := []) hx dX12_readStreet_78 lv_X12_141_12 rfl rfl (t_76 hB) rfl rfl (h.2 q5) (fun r2 I1 L1 hI1 => sm_bipush (v := 59) hx dX12_readStreet_81 sm_kb_59 (sm_icmpne (a := r2) (b := 59) hx dX12_readStreet_83 (tgt := 147) (by decide) (fun q4 => (hI1.1 q4)) (fun q4 => sm_aload_n (z := 76) hx dX12_readStreet_86 rfl (sm_dup hx dX12_readStreet_87 rfl (sm_getI hx dX12_readStreet_88 fl_X12_122_12 (t_76 hB) rfl (sm_iconst (v := 1) hx dX12_readStreet_91 sm_kc_1 (sm_iadd (a := (I1 76 3)) (b := 1) hx dX12_readStreet_92 (sm_putI hx dX12_readStreet_93 fl_X12_122_12 (t_76 hB) rfl (sm_aload_n (z := 76) hx dX12_readStreet_96 rfl (sm_callVI (args := []) (st := []) hx dX12_readStreet_97 lv_X12_141_12 rfl rfl (t_76 hB) rfl rfl (hI1.2 q4) (fun r4 I3 L3 hI3 => sm_istore_n (ls' := [some (.ref 76), some (.int r4)]) hx dX12_readStreet_100 (by decide) rfl (sm_iload_n (z := r4) hx dX12_readStreet_101 rfl (sm_bipush (v := 119) hx dX12_readStreet_102 sm_kb_119 (sm_icmpne (a := r4) (b := 119) hx dX12_readStreet_104 (tgt := 114) (by decide) (fun q3 => sm_iload_n (z := r4) hx dX12_readStreet_114 rfl (sm_bipush (v := 111) hx dX12_readStreet_115 sm_kb_111 (sm_icmpne (a := r4) (b := 111) hx dX12_readStreet_117 (tgt := 127) (by decide) (fun q2 => sm_iload_n (z := r4) hx dX12_readStreet_127 rfl (sm_bipush (v := 109) hx dX12_readStreet_128 sm_kb_109 (sm_icmpne (a := r4) (b := 109) hx dX12_readStreet_130 (tgt := 140) (by decide) (fun q1 => sm_aload_n (z := 76) hx dX12_readStreet_140 rfl (sm_callVV (args := []) (st := []) hx dX12_readStreet_141 lv_X12_138_12 rfl rfl (t_76 hB) rfl rfl (((hI3.1 q3).1 q2).1 q1) (fun I5 L5 hI5 => sm_goto hx dX12_readStreet_144 (tgt := 69) (by decide) (hI5)))) (fun q1 => sm_aload_n (z := 76) hx dX12_readStreet_133 rfl (sm_callVV (args := []) (st := []) hx dX12_readStreet_134 lv_X12_266_12 rfl rfl (t_76 hB) rfl rfl (((hI3.1 q3).1 q2).2 q1) (fun I6 L6 hI6 => sm_goto hx dX12_readStreet_137 (tgt := 144) (by decide) (sm_goto hx dX12_readStreet_144 (tgt := 69) (by decide) (hI6)))))))) (fun q2 => sm_aload_n (z := 76) hx dX12_readStreet_120 rfl (sm_callVV (args := []) (st := []) hx dX12_readStreet_121 lv_X12_263_12 rfl rfl (t_76 hB) rfl rfl ((hI3.1 q3).2 q2) (fun I7 L7 hI7 => sm_goto hx dX12_readStreet_124 (tgt := 144) (by decide) (sm_goto hx dX12_readStreet_144 (tgt := 69) (by decide) (hI7)))))))) (fun q3 => sm_aload_n (z := 76) hx dX12_readStreet_107 rfl (sm_callVV (args := []) (st := []) hx dX12_readStreet_108 lv_X12_260_12 rfl rfl (t_76 hB) rfl rfl (hI3.2 q3) (fun I8 L8 hI8 => sm_goto hx dX12_readStreet_111 (tgt := 144) (by decide) (sm_goto hx dX12_readStreet_144 (tgt := 69) (by decide) (hI8))))))))))))))))))))))))
set_option maxRecDepth 100000 in
theorem u_X12_readStreet_147 {x : sm_Cx} {n : Nat} {F : Int32 → sm_MI → sm_ML → Prop} {T : List sm_Sh} {I : sm_MI} {L : sm_ML} {u1 : Option Value} (hB : sm_Bs T) (hx : sm_Ok x mX12_readStreet (n + 1) (sm_KI T F))
    (h : (¬ (I 76 4) = (-1) → F (I 76 4) I L) ∧ ((I 76 4) = (-1) → sm_CI n mX12_look T I L [.ref 76] (fun r2 I1 L1 => (¬ r2 = (-1) → sm_CV n mX12_bad T I1 L1 [.ref 76] (fun I3 L3 => F (I3 76 4) I3 L3)) ∧ (r2 = (-1) → ((I1 76 20) = 0 → sm_CV n mX12_bad T I1 L1 [.ref 76] (fun I4 L4 => F (I4 76 4) I4 L4)) ∧ (¬ (I1 76 20) = 0 → (¬ (I1 76 21) = 0 → F (I1 76 4) I1 L1) ∧ ((I1 76 21) = 0 → sm_CV n mX12_bad T I1 L1 [.ref 76] (fun I5 L5 => F (I5 76 4) I5 L5))))))) :
    sm_V x 0 0 T I L 147 [some (.ref 76), u1] [] :=
  sm_aload_n (z := 76) hx dX12_readStreet_147 rfl (sm_getI hx dX12_readStreet_148 fl_X12_129_12 (t_76 hB) rfl (sm_iconst (v := (-1)) hx dX12_readStreet_151 sm_kc_m1 (sm_icmpne (a := (I 76 4)) (b := (-1)) hx dX12_readStreet_152 (tgt := 181) (by decide) (fun q9 => sm_aload_n (z := 76) hx dX12_readStreet_181 rfl (sm_getI hx dX12_readStreet_182 fl_X12_129_12 (t_76 hB) rfl (sm_iretI hx dX12_readStreet_185 rfl (h.1 q9)))) (fun q9 => sm_aload_n (z := 76) hx dX12_readStreet_155 rfl (sm_callVI (args := []) (st := []) hx dX12_readStreet_156 lv_X12_141_12 rfl rfl (t_76 hB) rfl rfl (h.2 q9) (fun r2 I1 L1 hI1 => sm_iconst (v := (-1)) hx dX12_readStreet_159 sm_kc_m1 (sm_icmpne (a := r2) (b := (-1)) hx dX12_readStreet_160 (tgt := 177) (by decide) (fun q8 => sm_aload_n (z := 76) hx dX12_readStreet_177 rfl (sm_callVV (args := []) (st := []) hx dX12_readStreet_178 lv_X12_138_12 rfl rfl (t_76 hB) rfl rfl (hI1.1 q8) (fun I3 L3 hI3 => sm_aload_n (z := 76) hx dX12_readStreet_181 rfl (sm_getI hx dX12_readStreet_182 fl_X12_129_12 (t_76 hB) rfl (sm_iretI hx dX12_readStreet_185 rfl hI3))))) (fun q8 => sm_aload_n (z := 76) hx dX12_readStreet_163 rfl (sm_getI hx dX12_readStreet_164 fl_X12_234_12 (t_76 hB) rfl (sm_ifeq (a := (I1 76 20)) hx dX12_readStreet_167 (tgt := 177) (by decide) (fun q7 => sm_aload_n (z := 76) hx dX12_readStreet_177 rfl (sm_callVV (args := []) (st := []) hx dX12_readStreet_178 lv_X12_138_12 rfl rfl (t_76 hB) rfl rfl ((hI1.2 q8).1 q7) (fun I4 L4 hI4 => sm_aload_n (z := 76) hx dX12_readStreet_181 rfl (sm_getI hx dX12_readStreet_182 fl_X12_129_12 (t_76 hB) rfl (sm_iretI hx dX12_readStreet_185 rfl hI4))))) (fun q7 => sm_aload_n (z := 76) hx dX12_readStreet_170 rfl (sm_getI hx dX12_readStreet_171 fl_X12_251_12 (t_76 hB) rfl (sm_ifne (a := (I1 76 21)) hx dX12_readStreet_174 (tgt := 181) (by decide) (fun q6 => sm_aload_n (z := 76) hx dX12_readStreet_181 rfl (sm_getI hx dX12_readStreet_182 fl_X12_129_12 (t_76 hB) rfl (sm_iretI hx dX12_readStreet_185 rfl (((hI1.2 q8).2 q7).1 q6)))) (fun q6 => sm_aload_n (z := 76) hx dX12_readStreet_177 rfl (sm_callVV (args := []) (st := []) hx dX12_readStreet_178 lv_X12_138_12 rfl rfl (t_76 hB) rfl rfl (((hI1.2 q8).2 q7).2 q6) (fun I5 L5 hI5 => sm_aload_n (z := 76) hx dX12_readStreet_181 rfl (sm_getI hx dX12_readStreet_182 fl_X12_129_12 (t_76 hB) rfl (sm_iretI hx dX12_readStreet_185 rfl hI5))))))))))))))))))
set_option maxRecDepth 100000 in
theorem c_X12_readStreet {n : Nat} {F : Int32 → sm_MI → sm_ML → Prop} {T : List sm_Sh} {I : sm_MI} {L : sm_ML}  (hB : sm_Bs T)
    (h : ∀ x : sm_Cx, sm_Ok x mX12_readStreet (n + 1) (sm_KI T F) → sm_CI n mX12_look T (sm_uI (sm_uI (sm_uI (sm_uI (sm_uI (sm_uI I 76 3 0) 76 4 (-1)) 76 20 0) 76 21 0) 76 22 0) 76 23 0) L [.ref 76] (fun r2 I1 L1 => (r2 = 104 → sm_CI n mX12_digit T (sm_uI I1 76 3 ((I1 76 3) + 1)) L1 [.ref 76, .int 2, .int 8] (fun r4 I3 L3 => sm_V x 0 0 T (sm_uI I3 76 19 r4) L3 69 [some (.ref 76), none] [])) ∧ (¬ r2 = 104 → sm_CV n mX12_bad T I1 L1 [.ref 76] (fun I5 L5 => F (I5 76 4) I5 L5)))) :
    sm_CI (n + 1) mX12_readStreet T I L [.ref 76] F :=
  sm_CI.of (by decide +kernel) rfl (fun x hx => show sm_V x 0 0 T I L 0 [some (.ref 76), none] [] from
  sm_aload_n (z := 76) hx dX12_readStreet_0 rfl (sm_iconst (v := 0) hx dX12_readStreet_1 sm_kc_0 (sm_putI hx dX12_readStreet_2 fl_X12_122_12 (t_76 hB) rfl (sm_aload_n (z := 76) hx dX12_readStreet_5 rfl (sm_iconst (v := (-1)) hx dX12_readStreet_6 sm_kc_m1 (sm_putI hx dX12_readStreet_7 fl_X12_129_12 (t_76 hB) rfl (sm_aload_n (z := 76) hx dX12_readStreet_10 rfl (sm_iconst (v := 0) hx dX12_readStreet_11 sm_kc_0 (sm_putI hx dX12_readStreet_12 fl_X12_234_12 (t_76 hB) rfl (sm_aload_n (z := 76) hx dX12_readStreet_15 rfl (sm_iconst (v := 0) hx dX12_readStreet_16 sm_kc_0 (sm_putI hx dX12_readStreet_17 fl_X12_251_12 (t_76 hB) rfl (sm_aload_n (z := 76) hx dX12_readStreet_20 rfl (sm_iconst (v := 0) hx dX12_readStreet_21 sm_kc_0 (sm_putI hx dX12_readStreet_22 fl_X12_254_12 (t_76 hB) rfl (sm_aload_n (z := 76) hx dX12_readStreet_25 rfl (sm_iconst (v := 0) hx dX12_readStreet_26 sm_kc_0 (sm_putI hx dX12_readStreet_27 fl_X12_257_12 (t_76 hB) rfl (sm_aload_n (z := 76) hx dX12_readStreet_30 rfl (sm_callVI (args := []) (st := []) hx dX12_readStreet_31 lv_X12_141_12 rfl rfl (t_76 hB) rfl rfl (h x hx) (fun r2 I1 L1 hI1 => sm_bipush (v := 104) hx dX12_readStreet_34 sm_kb_104 (sm_icmpeq (a := r2) (b := 104) hx dX12_readStreet_36 (tgt := 48) (by decide) (fun q10 => sm_aload_n (z := 76) hx dX12_readStreet_48 rfl (sm_dup hx dX12_readStreet_49 rfl (sm_getI hx dX12_readStreet_50 fl_X12_122_12 (t_76 hB) rfl (sm_iconst (v := 1) hx dX12_readStreet_53 sm_kc_1 (sm_iadd (a := (I1 76 3)) (b := 1) hx dX12_readStreet_54 (sm_putI hx dX12_readStreet_55 fl_X12_122_12 (t_76 hB) rfl (sm_aload_n (z := 76) hx dX12_readStreet_58 rfl (sm_aload_n (z := 76) hx dX12_readStreet_59 rfl (sm_iconst (v := 2) hx dX12_readStreet_60 sm_kc_2 (sm_bipush (v := 8) hx dX12_readStreet_61 sm_kb_8 (sm_callVI (args := [.int 2, .int 8]) (st := [.ref 76]) hx dX12_readStreet_63 lv_X12_247_12 rfl rfl (t_76 hB) rfl rfl (hI1.1 q10) (fun r4 I3 L3 hI3 => sm_putI hx dX12_readStreet_66 fl_X12_231_12 (t_76 hB) rfl (hI3))))))))))))) (fun q10 => sm_aload_n (z := 76) hx dX12_readStreet_39 rfl (sm_callVV (args := []) (st := []) hx dX12_readStreet_40 lv_X12_138_12 rfl rfl (t_76 hB) rfl rfl (hI1.2 q10) (fun I5 L5 hI5 => sm_aload_n (z := 76) hx dX12_readStreet_43 rfl (sm_getI hx dX12_readStreet_44 fl_X12_129_12 (t_76 hB) rfl (sm_iretI hx dX12_readStreet_47 rfl hI5)))))))))))))))))))))))))))
theorem dX12_fault_0 : decode cX12_fault 0 = .ok (.iload_n 1, 1) := by decide +kernel
theorem dX12_fault_1 : decode cX12_fault 1 = .ok (.ifCond .ne 10, 3) := by decide +kernel
theorem dX12_fault_4 : decode cX12_fault 4 = .ok (.aload_n 0, 1) := by decide +kernel
theorem dX12_fault_5 : decode cX12_fault 5 = .ok (.invokevirtual 269, 3) := by decide +kernel
theorem dX12_fault_8 : decode cX12_fault 8 = .ok (.goto 18, 3) := by decide +kernel
theorem dX12_fault_11 : decode cX12_fault 11 = .ok (.iload_n 1, 1) := by decide +kernel
theorem dX12_fault_12 : decode cX12_fault 12 = .ok (.iconst 1, 1) := by decide +kernel
theorem dX12_fault_13 : decode cX12_fault 13 = .ok (.if_icmp .ne 11, 3) := by decide +kernel
theorem dX12_fault_16 : decode cX12_fault 16 = .ok (.aload_n 0, 1) := by decide +kernel
theorem dX12_fault_17 : decode cX12_fault 17 = .ok (.iconst 5, 1) := by decide +kernel
theorem dX12_fault_18 : decode cX12_fault 18 = .ok (.invokevirtual 272, 3) := by decide +kernel
theorem dX12_fault_21 : decode cX12_fault 21 = .ok (.goto 5, 3) := by decide +kernel
theorem dX12_fault_24 : decode cX12_fault 24 = .ok (.bipush (-2), 2) := by decide +kernel
theorem dX12_fault_26 : decode cX12_fault 26 = .ok (.ireturn, 1) := by decide +kernel
set_option maxRecDepth 100000 in
theorem c_X12_fault {n : Nat} {F : Int32 → sm_MI → sm_ML → Prop} {T : List sm_Sh} {I : sm_MI} {L : sm_ML} {a1 : Int32} (hB : sm_Bs T)
    (h : (¬ a1 = 0 → (¬ a1 = 1 → F (-2) I L) ∧ (a1 = 1 → sm_CI n mX12_readLaw T I L [.ref 76, .int 5] (fun r2 I1 L1 => F r2 I1 L1))) ∧ (a1 = 0 → sm_CI n mX12_readStreet T I L [.ref 76] (fun r4 I3 L3 => F r4 I3 L3))) :
    sm_CI (n + 1) mX12_fault T I L [.ref 76, .int a1] F :=
  sm_CI.of (by decide +kernel) rfl (fun x hx => show sm_V x 0 0 T I L 0 [some (.ref 76), some (.int a1)] [] from
  sm_iload_n (z := a1) hx dX12_fault_0 rfl (sm_ifne (a := a1) hx dX12_fault_1 (tgt := 11) (by decide) (fun q2 => sm_iload_n (z := a1) hx dX12_fault_11 rfl (sm_iconst (v := 1) hx dX12_fault_12 sm_kc_1 (sm_icmpne (a := a1) (b := 1) hx dX12_fault_13 (tgt := 24) (by decide) (fun q1 => sm_bipush (v := (-2)) hx dX12_fault_24 sm_kb_m2 (sm_iretI hx dX12_fault_26 rfl ((h.1 q2).1 q1))) (fun q1 => sm_aload_n (z := 76) hx dX12_fault_16 rfl (sm_iconst (v := 5) hx dX12_fault_17 sm_kc_5 (sm_callVI (args := [.int 5]) (st := []) hx dX12_fault_18 lv_X12_272_12 rfl rfl (t_76 hB) rfl rfl ((h.1 q2).2 q1) (fun r2 I1 L1 hI1 => sm_goto hx dX12_fault_21 (tgt := 26) (by decide) (sm_iretI hx dX12_fault_26 rfl hI1)))))))) (fun q2 => sm_aload_n (z := 76) hx dX12_fault_4 rfl (sm_callVI (args := []) (st := []) hx dX12_fault_5 lv_X12_269_12 rfl rfl (t_76 hB) rfl rfl (h.2 q2) (fun r4 I3 L3 hI3 => sm_goto hx dX12_fault_8 (tgt := 26) (by decide) (sm_iretI hx dX12_fault_26 rfl hI3))))))
theorem dX12_takeStreet_0 : decode cX12_takeStreet 0 = .ok (.aload_n 0, 1) := by decide +kernel
theorem dX12_takeStreet_1 : decode cX12_takeStreet 1 = .ok (.aload_n 0, 1) := by decide +kernel
theorem dX12_takeStreet_2 : decode cX12_takeStreet 2 = .ok (.getfield 231, 3) := by decide +kernel
theorem dX12_takeStreet_5 : decode cX12_takeStreet 5 = .ok (.putfield 275, 3) := by decide +kernel
theorem dX12_takeStreet_8 : decode cX12_takeStreet 8 = .ok (.aload_n 0, 1) := by decide +kernel
theorem dX12_takeStreet_9 : decode cX12_takeStreet 9 = .ok (.aload_n 0, 1) := by decide +kernel
theorem dX12_takeStreet_10 : decode cX12_takeStreet 10 = .ok (.getfield 234, 3) := by decide +kernel
theorem dX12_takeStreet_13 : decode cX12_takeStreet 13 = .ok (.putfield 278, 3) := by decide +kernel
theorem dX12_takeStreet_16 : decode cX12_takeStreet 16 = .ok (.aload_n 0, 1) := by decide +kernel
theorem dX12_takeStreet_17 : decode cX12_takeStreet 17 = .ok (.aload_n 0, 1) := by decide +kernel
theorem dX12_takeStreet_18 : decode cX12_takeStreet 18 = .ok (.getfield 251, 3) := by decide +kernel
theorem dX12_takeStreet_21 : decode cX12_takeStreet 21 = .ok (.putfield 281, 3) := by decide +kernel
theorem dX12_takeStreet_24 : decode cX12_takeStreet 24 = .ok (.aload_n 0, 1) := by decide +kernel
theorem dX12_takeStreet_25 : decode cX12_takeStreet 25 = .ok (.aload_n 0, 1) := by decide +kernel
theorem dX12_takeStreet_26 : decode cX12_takeStreet 26 = .ok (.getfield 254, 3) := by decide +kernel
theorem dX12_takeStreet_29 : decode cX12_takeStreet 29 = .ok (.putfield 284, 3) := by decide +kernel
theorem dX12_takeStreet_32 : decode cX12_takeStreet 32 = .ok (.aload_n 0, 1) := by decide +kernel
theorem dX12_takeStreet_33 : decode cX12_takeStreet 33 = .ok (.aload_n 0, 1) := by decide +kernel
theorem dX12_takeStreet_34 : decode cX12_takeStreet 34 = .ok (.getfield 257, 3) := by decide +kernel
theorem dX12_takeStreet_37 : decode cX12_takeStreet 37 = .ok (.putfield 287, 3) := by decide +kernel
theorem dX12_takeStreet_40 : decode cX12_takeStreet 40 = .ok (.iconst 0, 1) := by decide +kernel
theorem dX12_takeStreet_41 : decode cX12_takeStreet 41 = .ok (.istore_n 1, 1) := by decide +kernel
theorem dX12_takeStreet_42 : decode cX12_takeStreet 42 = .ok (.iload_n 1, 1) := by decide +kernel
theorem dX12_takeStreet_43 : decode cX12_takeStreet 43 = .ok (.bipush 20, 2) := by decide +kernel
theorem dX12_takeStreet_45 : decode cX12_takeStreet 45 = .ok (.if_icmp .ge 21, 3) := by decide +kernel
theorem dX12_takeStreet_48 : decode cX12_takeStreet 48 = .ok (.aload_n 0, 1) := by decide +kernel
theorem dX12_takeStreet_49 : decode cX12_takeStreet 49 = .ok (.getfield 46, 3) := by decide +kernel
theorem dX12_takeStreet_52 : decode cX12_takeStreet 52 = .ok (.iload_n 1, 1) := by decide +kernel
theorem dX12_takeStreet_53 : decode cX12_takeStreet 53 = .ok (.aload_n 0, 1) := by decide +kernel
theorem dX12_takeStreet_54 : decode cX12_takeStreet 54 = .ok (.getfield 40, 3) := by decide +kernel
theorem dX12_takeStreet_57 : decode cX12_takeStreet 57 = .ok (.iload_n 1, 1) := by decide +kernel
theorem dX12_takeStreet_58 : decode cX12_takeStreet 58 = .ok (.iaload, 1) := by decide +kernel
theorem dX12_takeStreet_59 : decode cX12_takeStreet 59 = .ok (.iastore, 1) := by decide +kernel
theorem dX12_takeStreet_60 : decode cX12_takeStreet 60 = .ok (.iinc 1 1, 3) := by decide +kernel
theorem dX12_takeStreet_63 : decode cX12_takeStreet 63 = .ok (.goto (-21), 3) := by decide +kernel
theorem dX12_takeStreet_66 : decode cX12_takeStreet 66 = .ok (.iconst 0, 1) := by decide +kernel
theorem dX12_takeStreet_67 : decode cX12_takeStreet 67 = .ok (.istore_n 1, 1) := by decide +kernel
theorem dX12_takeStreet_68 : decode cX12_takeStreet 68 = .ok (.iload_n 1, 1) := by decide +kernel
theorem dX12_takeStreet_69 : decode cX12_takeStreet 69 = .ok (.bipush 8, 2) := by decide +kernel
theorem dX12_takeStreet_71 : decode cX12_takeStreet 71 = .ok (.if_icmp .ge 33, 3) := by decide +kernel
theorem dX12_takeStreet_74 : decode cX12_takeStreet 74 = .ok (.aload_n 0, 1) := by decide +kernel
theorem dX12_takeStreet_75 : decode cX12_takeStreet 75 = .ok (.getfield 49, 3) := by decide +kernel
theorem dX12_takeStreet_78 : decode cX12_takeStreet 78 = .ok (.iload_n 1, 1) := by decide +kernel
theorem dX12_takeStreet_79 : decode cX12_takeStreet 79 = .ok (.aload_n 0, 1) := by decide +kernel
theorem dX12_takeStreet_80 : decode cX12_takeStreet 80 = .ok (.getfield 43, 3) := by decide +kernel
theorem dX12_takeStreet_83 : decode cX12_takeStreet 83 = .ok (.iload_n 1, 1) := by decide +kernel
theorem dX12_takeStreet_84 : decode cX12_takeStreet 84 = .ok (.iaload, 1) := by decide +kernel
theorem dX12_takeStreet_85 : decode cX12_takeStreet 85 = .ok (.iastore, 1) := by decide +kernel
theorem dX12_takeStreet_86 : decode cX12_takeStreet 86 = .ok (.aload_n 0, 1) := by decide +kernel
theorem dX12_takeStreet_87 : decode cX12_takeStreet 87 = .ok (.getfield 55, 3) := by decide +kernel
theorem dX12_takeStreet_90 : decode cX12_takeStreet 90 = .ok (.iload_n 1, 1) := by decide +kernel
theorem dX12_takeStreet_91 : decode cX12_takeStreet 91 = .ok (.aload_n 0, 1) := by decide +kernel
theorem dX12_takeStreet_92 : decode cX12_takeStreet 92 = .ok (.getfield 43, 3) := by decide +kernel
theorem dX12_takeStreet_95 : decode cX12_takeStreet 95 = .ok (.iload_n 1, 1) := by decide +kernel
theorem dX12_takeStreet_96 : decode cX12_takeStreet 96 = .ok (.iaload, 1) := by decide +kernel
theorem dX12_takeStreet_97 : decode cX12_takeStreet 97 = .ok (.iastore, 1) := by decide +kernel
theorem dX12_takeStreet_98 : decode cX12_takeStreet 98 = .ok (.iinc 1 1, 3) := by decide +kernel
theorem dX12_takeStreet_101 : decode cX12_takeStreet 101 = .ok (.goto (-33), 3) := by decide +kernel
theorem dX12_takeStreet_104 : decode cX12_takeStreet 104 = .ok (.iconst 0, 1) := by decide +kernel
theorem dX12_takeStreet_105 : decode cX12_takeStreet 105 = .ok (.istore_n 1, 1) := by decide +kernel
theorem dX12_takeStreet_106 : decode cX12_takeStreet 106 = .ok (.iload_n 1, 1) := by decide +kernel
theorem dX12_takeStreet_107 : decode cX12_takeStreet 107 = .ok (.iconst 5, 1) := by decide +kernel
theorem dX12_takeStreet_108 : decode cX12_takeStreet 108 = .ok (.if_icmp .ge 16, 3) := by decide +kernel
theorem dX12_takeStreet_111 : decode cX12_takeStreet 111 = .ok (.aload_n 0, 1) := by decide +kernel
theorem dX12_takeStreet_112 : decode cX12_takeStreet 112 = .ok (.getfield 52, 3) := by decide +kernel
theorem dX12_takeStreet_115 : decode cX12_takeStreet 115 = .ok (.iload_n 1, 1) := by decide +kernel
theorem dX12_takeStreet_116 : decode cX12_takeStreet 116 = .ok (.iconst (-1), 1) := by decide +kernel
theorem dX12_takeStreet_117 : decode cX12_takeStreet 117 = .ok (.iastore, 1) := by decide +kernel
theorem dX12_takeStreet_118 : decode cX12_takeStreet 118 = .ok (.iinc 1 1, 3) := by decide +kernel
theorem dX12_takeStreet_121 : decode cX12_takeStreet 121 = .ok (.goto (-15), 3) := by decide +kernel
theorem dX12_takeStreet_124 : decode cX12_takeStreet 124 = .ok (.aload_n 0, 1) := by decide +kernel
theorem dX12_takeStreet_125 : decode cX12_takeStreet 125 = .ok (.iconst 0, 1) := by decide +kernel
theorem dX12_takeStreet_126 : decode cX12_takeStreet 126 = .ok (.putfield 290, 3) := by decide +kernel
theorem dX12_takeStreet_129 : decode cX12_takeStreet 129 = .ok (.aload_n 0, 1) := by decide +kernel
theorem dX12_takeStreet_130 : decode cX12_takeStreet 130 = .ok (.iconst 0, 1) := by decide +kernel
theorem dX12_takeStreet_131 : decode cX12_takeStreet 131 = .ok (.putfield 293, 3) := by decide +kernel
theorem dX12_takeStreet_134 : decode cX12_takeStreet 134 = .ok (.aload_n 0, 1) := by decide +kernel
theorem dX12_takeStreet_135 : decode cX12_takeStreet 135 = .ok (.iconst 0, 1) := by decide +kernel
theorem dX12_takeStreet_136 : decode cX12_takeStreet 136 = .ok (.putfield 296, 3) := by decide +kernel
theorem dX12_takeStreet_139 : decode cX12_takeStreet 139 = .ok (.aload_n 0, 1) := by decide +kernel
theorem dX12_takeStreet_140 : decode cX12_takeStreet 140 = .ok (.iconst 0, 1) := by decide +kernel
theorem dX12_takeStreet_141 : decode cX12_takeStreet 141 = .ok (.putfield 299, 3) := by decide +kernel
theorem dX12_takeStreet_144 : decode cX12_takeStreet 144 = .ok (.aload_n 0, 1) := by decide +kernel
theorem dX12_takeStreet_145 : decode cX12_takeStreet 145 = .ok (.iconst 0, 1) := by decide +kernel
theorem dX12_takeStreet_146 : decode cX12_takeStreet 146 = .ok (.putfield 302, 3) := by decide +kernel
theorem dX12_takeStreet_149 : decode cX12_takeStreet 149 = .ok (.aload_n 0, 1) := by decide +kernel
theorem dX12_takeStreet_150 : decode cX12_takeStreet 150 = .ok (.getfield 278, 3) := by decide +kernel
theorem dX12_takeStreet_153 : decode cX12_takeStreet 153 = .ok (.ireturn, 1) := by decide +kernel
set_option maxRecDepth 100000 in
theorem u_X12_takeStreet_42 {x : sm_Cx} {n : Nat} {F : Int32 → sm_MI → sm_ML → Prop} {T : List sm_Sh} {I : sm_MI} {L : sm_ML} {a1 : Int32} (hB : sm_Bs T) (hx : sm_Ok x mX12_takeStreet n (sm_KI T F))
    (h : (20 ≤ a1 → sm_V x 0 0 T I L 68 [some (.ref 76), some (.int 0)] []) ∧ (¬ 20 ≤ a1 → vp_in a1 20 ∧ (vp_in a1 20 ∧ (sm_V x 0 0 T (sm_uI I 89 (Int32.toNatClampNeg (a1)) (I 87 (Int32.toNatClampNeg (a1)))) L 42 [some (.ref 76), some (.int (a1 + 1))] [])))) :
    sm_V x 0 0 T I L 42 [some (.ref 76), some (.int a1)] [] :=
  sm_iload_n (z := a1) hx dX12_takeStreet_42 rfl (sm_bipush (v := 20) hx dX12_takeStreet_43 sm_kb_20 (sm_icmpge (a := a1) (b := 20) hx dX12_takeStreet_45 (tgt := 66) (by decide) (fun q1 => sm_iconst (v := 0) hx dX12_takeStreet_66 sm_kc_0 (sm_istore_n (ls' := [some (.ref 76), some (.int 0)]) hx dX12_takeStreet_67 (by decide) rfl ((h.1 q1)))) (fun q1 => sm_aload_n (z := 76) hx dX12_takeStreet_48 rfl (sm_getR hx dX12_takeStreet_49 fl_X12_46_12 (t_76 hB) rfl (sm_iload_n (z := a1) hx dX12_takeStreet_52 rfl (sm_aload_n (z := 76) hx dX12_takeStreet_53 rfl (sm_getR hx dX12_takeStreet_54 fl_X12_40_12 (t_76 hB) rfl (sm_iload_n (z := a1) hx dX12_takeStreet_57 rfl (sm_iald (i := a1) hx dX12_takeStreet_58 (t_87 hB) (h.2 q1).1 (sm_iast (i := a1) (v := (I 87 (Int32.toNatClampNeg (a1)))) hx dX12_takeStreet_59 (t_89 hB) (h.2 q1).2.1 (sm_iinc (ls' := [some (.ref 76), some (.int (a1 + 1))]) (z := a1) (v := (a1 + 1)) hx dX12_takeStreet_60 rfl (sm_kii_1 _) (by decide) rfl (sm_goto hx dX12_takeStreet_63 (tgt := 42) (by decide) ((h.2 q1).2.2)))))))))))))
set_option maxRecDepth 100000 in
theorem u_X12_takeStreet_68 {x : sm_Cx} {n : Nat} {F : Int32 → sm_MI → sm_ML → Prop} {T : List sm_Sh} {I : sm_MI} {L : sm_ML} {a1 : Int32} (hB : sm_Bs T) (hx : sm_Ok x mX12_takeStreet n (sm_KI T F))
    (h : (8 ≤ a1 → sm_V x 0 0 T I L 106 [some (.ref 76), some (.int 0)] []) ∧ (¬ 8 ≤ a1 → vp_in a1 8 ∧ (vp_in a1 8 ∧ (∀ I1 : sm_MI, I1 = (sm_uI I 90 (Int32.toNatClampNeg (a1)) (I 88 (Int32.toNatClampNeg (a1)))) → vp_in a1 8 ∧ (vp_in a1 8 ∧ (sm_V x 0 0 T (sm_uI I1 92 (Int32.toNatClampNeg (a1)) (I1 88 (Int32.toNatClampNeg (a1)))) L 68 [some (.ref 76), some (.int (a1 + 1))] [])))))) :
    sm_V x 0 0 T I L 68 [some (.ref 76), some (.int a1)] [] :=
  sm_iload_n (z := a1) hx dX12_takeStreet_68 rfl (sm_bipush (v := 8) hx dX12_takeStreet_69 sm_kb_8 (sm_icmpge (a := a1) (b := 8) hx dX12_takeStreet_71 (tgt := 104) (by decide) (fun q2 => sm_iconst (v := 0) hx dX12_takeStreet_104 sm_kc_0 (sm_istore_n (ls' := [some (.ref 76), some (.int 0)]) hx dX12_takeStreet_105 (by decide) rfl ((h.1 q2)))) (fun q2 => sm_aload_n (z := 76) hx dX12_takeStreet_74 rfl (sm_getR hx dX12_takeStreet_75 fl_X12_49_12 (t_76 hB) rfl (sm_iload_n (z := a1) hx dX12_takeStreet_78 rfl (sm_aload_n (z := 76) hx dX12_takeStreet_79 rfl (sm_getR hx dX12_takeStreet_80 fl_X12_43_12 (t_76 hB) rfl (sm_iload_n (z := a1) hx dX12_takeStreet_83 rfl (sm_iald (i := a1) hx dX12_takeStreet_84 (t_88 hB) (h.2 q2).1 (sm_iast (i := a1) (v := (I 88 (Int32.toNatClampNeg (a1)))) hx dX12_takeStreet_85 (t_90 hB) (h.2 q2).2.1 (sm_aload_n (z := 76) hx dX12_takeStreet_86 rfl (sm_getR hx dX12_takeStreet_87 fl_X12_55_12 (t_76 hB) rfl (sm_iload_n (z := a1) hx dX12_takeStreet_90 rfl (sm_aload_n (z := 76) hx dX12_takeStreet_91 rfl (sm_getR hx dX12_takeStreet_92 fl_X12_43_12 (t_76 hB) rfl (sm_iload_n (z := a1) hx dX12_takeStreet_95 rfl (sm_iald (i := a1) hx dX12_takeStreet_96 (t_88 hB) ((h.2 q2).2.2 _ rfl).1 (sm_iast (i := a1) (v := ((sm_uI I 90 (Int32.toNatClampNeg (a1)) (I 88 (Int32.toNatClampNeg (a1)))) 88 (Int32.toNatClampNeg (a1)))) hx dX12_takeStreet_97 (t_92 hB) ((h.2 q2).2.2 _ rfl).2.1 (sm_iinc (ls' := [some (.ref 76), some (.int (a1 + 1))]) (z := a1) (v := (a1 + 1)) hx dX12_takeStreet_98 rfl (sm_kii_1 _) (by decide) rfl (sm_goto hx dX12_takeStreet_101 (tgt := 68) (by decide) (((h.2 q2).2.2 _ rfl).2.2)))))))))))))))))))))
set_option maxRecDepth 100000 in
theorem u_X12_takeStreet_106 {x : sm_Cx} {n : Nat} {F : Int32 → sm_MI → sm_ML → Prop} {T : List sm_Sh} {I : sm_MI} {L : sm_ML} {a1 : Int32} (hB : sm_Bs T) (hx : sm_Ok x mX12_takeStreet n (sm_KI T F))
    (h : (5 ≤ a1 → ∀ I1 : sm_MI, I1 = (sm_uI (sm_uI (sm_uI (sm_uI (sm_uI I 76 33 0) 76 34 0) 76 42 0) 76 51 0) 76 60 (sm_z false)) → F (I1 76 27) I1 L) ∧ (¬ 5 ≤ a1 → vp_in a1 5 ∧ (sm_V x 0 0 T (sm_uI I 91 (Int32.toNatClampNeg (a1)) (-1)) L 106 [some (.ref 76), some (.int (a1 + 1))] []))) :
    sm_V x 0 0 T I L 106 [some (.ref 76), some (.int a1)] [] :=
  sm_iload_n (z := a1) hx dX12_takeStreet_106 rfl (sm_iconst (v := 5) hx dX12_takeStreet_107 sm_kc_5 (sm_icmpge (a := a1) (b := 5) hx dX12_takeStreet_108 (tgt := 124) (by decide) (fun q3 => sm_aload_n (z := 76) hx dX12_takeStreet_124 rfl (sm_iconst (v := 0) hx dX12_takeStreet_125 sm_kc_0 (sm_putI hx dX12_takeStreet_126 fl_X12_290_12 (t_76 hB) rfl (sm_aload_n (z := 76) hx dX12_takeStreet_129 rfl (sm_iconst (v := 0) hx dX12_takeStreet_130 sm_kc_0 (sm_putI hx dX12_takeStreet_131 fl_X12_293_12 (t_76 hB) rfl (sm_aload_n (z := 76) hx dX12_takeStreet_134 rfl (sm_iconst (v := 0) hx dX12_takeStreet_135 sm_kc_0 (sm_putI hx dX12_takeStreet_136 fl_X12_296_12 (t_76 hB) rfl (sm_aload_n (z := 76) hx dX12_takeStreet_139 rfl (sm_iconst (v := 0) hx dX12_takeStreet_140 sm_kc_0 (sm_putI hx dX12_takeStreet_141 fl_X12_299_12 (t_76 hB) rfl (sm_aload_n (z := 76) hx dX12_takeStreet_144 rfl (sm_iconst (v := 0) hx dX12_takeStreet_145 sm_kc_0 (sm_putZ (b := false) hx dX12_takeStreet_146 fl_X12_302_12 (t_76 hB) rfl (sm_aload_n (z := 76) hx dX12_takeStreet_149 rfl (sm_getI hx dX12_takeStreet_150 fl_X12_278_12 (t_76 hB) rfl (sm_iretI hx dX12_takeStreet_153 rfl ((h.1 q3) _ rfl))))))))))))))))))) (fun q3 => sm_aload_n (z := 76) hx dX12_takeStreet_111 rfl (sm_getR hx dX12_takeStreet_112 fl_X12_52_12 (t_76 hB) rfl (sm_iload_n (z := a1) hx dX12_takeStreet_115 rfl (sm_iconst (v := (-1)) hx dX12_takeStreet_116 sm_kc_m1 (sm_iast (i := a1) (v := (-1)) hx dX12_takeStreet_117 (t_91 hB) (h.2 q3).1 (sm_iinc (ls' := [some (.ref 76), some (.int (a1 + 1))]) (z := a1) (v := (a1 + 1)) hx dX12_takeStreet_118 rfl (sm_kii_1 _) (by decide) rfl (sm_goto hx dX12_takeStreet_121 (tgt := 106) (by decide) ((h.2 q3).2))))))))))
set_option maxRecDepth 100000 in
theorem c_X12_takeStreet {n : Nat} {F : Int32 → sm_MI → sm_ML → Prop} {T : List sm_Sh} {I : sm_MI} {L : sm_ML}  (hB : sm_Bs T)
    (h : ∀ x : sm_Cx, sm_Ok x mX12_takeStreet n (sm_KI T F) → ∀ I1 : sm_MI, I1 = (sm_uI I 76 26 (I 76 19)) → ∀ I2 : sm_MI, I2 = (sm_uI I1 76 27 (I1 76 20)) → ∀ I3 : sm_MI, I3 = (sm_uI I2 76 28 (I2 76 21)) → ∀ I4 : sm_MI, I4 = (sm_uI I3 76 29 (I3 76 22)) → sm_V x 0 0 T (sm_uI I4 76 30 (I4 76 23)) L 42 [some (.ref 76), some (.int 0)] []) :
    sm_CI n mX12_takeStreet T I L [.ref 76] F :=
  sm_CI.of (by decide +kernel) rfl (fun x hx => show sm_V x 0 0 T I L 0 [some (.ref 76), none] [] from
  sm_aload_n (z := 76) hx dX12_takeStreet_0 rfl (sm_aload_n (z := 76) hx dX12_takeStreet_1 rfl (sm_getI hx dX12_takeStreet_2 fl_X12_231_12 (t_76 hB) rfl (sm_putI hx dX12_takeStreet_5 fl_X12_275_12 (t_76 hB) rfl (sm_aload_n (z := 76) hx dX12_takeStreet_8 rfl (sm_aload_n (z := 76) hx dX12_takeStreet_9 rfl (sm_getI hx dX12_takeStreet_10 fl_X12_234_12 (t_76 hB) rfl (sm_putI hx dX12_takeStreet_13 fl_X12_278_12 (t_76 hB) rfl (sm_aload_n (z := 76) hx dX12_takeStreet_16 rfl (sm_aload_n (z := 76) hx dX12_takeStreet_17 rfl (sm_getI hx dX12_takeStreet_18 fl_X12_251_12 (t_76 hB) rfl (sm_putI hx dX12_takeStreet_21 fl_X12_281_12 (t_76 hB) rfl (sm_aload_n (z := 76) hx dX12_takeStreet_24 rfl (sm_aload_n (z := 76) hx dX12_takeStreet_25 rfl (sm_getI hx dX12_takeStreet_26 fl_X12_254_12 (t_76 hB) rfl (sm_putI hx dX12_takeStreet_29 fl_X12_284_12 (t_76 hB) rfl (sm_aload_n (z := 76) hx dX12_takeStreet_32 rfl (sm_aload_n (z := 76) hx dX12_takeStreet_33 rfl (sm_getI hx dX12_takeStreet_34 fl_X12_257_12 (t_76 hB) rfl (sm_putI hx dX12_takeStreet_37 fl_X12_287_12 (t_76 hB) rfl (sm_iconst (v := 0) hx dX12_takeStreet_40 sm_kc_0 (sm_istore_n (ls' := [some (.ref 76), some (.int 0)]) hx dX12_takeStreet_41 (by decide) rfl ((((((h x hx) _ rfl) _ rfl) _ rfl) _ rfl))))))))))))))))))))))))
theorem dX12_text_0 : decode cX12_text 0 = .ok (.iload_n 1, 1) := by decide +kernel
theorem dX12_text_1 : decode cX12_text 1 = .ok (.ifCond .ne 21, 3) := by decide +kernel
theorem dX12_text_4 : decode cX12_text 4 = .ok (.aload_n 0, 1) := by decide +kernel
theorem dX12_text_5 : decode cX12_text 5 = .ok (.invokevirtual 269, 3) := by decide +kernel
theorem dX12_text_8 : decode cX12_text 8 = .ok (.iconst (-1), 1) := by decide +kernel
theorem dX12_text_9 : decode cX12_text 9 = .ok (.if_icmp .ne 13, 3) := by decide +kernel
theorem dX12_text_12 : decode cX12_text 12 = .ok (.aload_n 0, 1) := by decide +kernel
theorem dX12_text_13 : decode cX12_text 13 = .ok (.iconst 0, 1) := by decide +kernel
theorem dX12_text_14 : decode cX12_text 14 = .ok (.putfield 119, 3) := by decide +kernel
theorem dX12_text_17 : decode cX12_text 17 = .ok (.aload_n 0, 1) := by decide +kernel
theorem dX12_text_18 : decode cX12_text 18 = .ok (.invokevirtual 306, 3) := by decide +kernel
theorem dX12_text_21 : decode cX12_text 21 = .ok (.ireturn, 1) := by decide +kernel
theorem dX12_text_22 : decode cX12_text 22 = .ok (.iload_n 1, 1) := by decide +kernel
theorem dX12_text_23 : decode cX12_text 23 = .ok (.iconst 1, 1) := by decide +kernel
theorem dX12_text_24 : decode cX12_text 24 = .ok (.if_icmp .ne 45, 3) := by decide +kernel
theorem dX12_text_27 : decode cX12_text 27 = .ok (.aload_n 0, 1) := by decide +kernel
theorem dX12_text_28 : decode cX12_text 28 = .ok (.getfield 309, 3) := by decide +kernel
theorem dX12_text_31 : decode cX12_text 31 = .ok (.iconst 5, 1) := by decide +kernel
theorem dX12_text_32 : decode cX12_text 32 = .ok (.if_icmp .ge 37, 3) := by decide +kernel
theorem dX12_text_35 : decode cX12_text 35 = .ok (.aload_n 0, 1) := by decide +kernel
theorem dX12_text_36 : decode cX12_text 36 = .ok (.aload_n 0, 1) := by decide +kernel
theorem dX12_text_37 : decode cX12_text 37 = .ok (.getfield 309, 3) := by decide +kernel
theorem dX12_text_40 : decode cX12_text 40 = .ok (.invokevirtual 272, 3) := by decide +kernel
theorem dX12_text_43 : decode cX12_text 43 = .ok (.iconst (-1), 1) := by decide +kernel
theorem dX12_text_44 : decode cX12_text 44 = .ok (.if_icmp .ne 25, 3) := by decide +kernel
theorem dX12_text_47 : decode cX12_text 47 = .ok (.aload_n 0, 1) := by decide +kernel
theorem dX12_text_48 : decode cX12_text 48 = .ok (.iconst 0, 1) := by decide +kernel
theorem dX12_text_49 : decode cX12_text 49 = .ok (.putfield 119, 3) := by decide +kernel
theorem dX12_text_52 : decode cX12_text 52 = .ok (.aload_n 0, 1) := by decide +kernel
theorem dX12_text_53 : decode cX12_text 53 = .ok (.dup, 1) := by decide +kernel
theorem dX12_text_54 : decode cX12_text 54 = .ok (.getfield 309, 3) := by decide +kernel
theorem dX12_text_57 : decode cX12_text 57 = .ok (.iconst 1, 1) := by decide +kernel
theorem dX12_text_58 : decode cX12_text 58 = .ok (.iadd, 1) := by decide +kernel
theorem dX12_text_59 : decode cX12_text 59 = .ok (.putfield 309, 3) := by decide +kernel
theorem dX12_text_62 : decode cX12_text 62 = .ok (.aload_n 0, 1) := by decide +kernel
theorem dX12_text_63 : decode cX12_text 63 = .ok (.getfield 309, 3) := by decide +kernel
theorem dX12_text_66 : decode cX12_text 66 = .ok (.iconst 1, 1) := by decide +kernel
theorem dX12_text_67 : decode cX12_text 67 = .ok (.isub, 1) := by decide +kernel
theorem dX12_text_68 : decode cX12_text 68 = .ok (.ireturn, 1) := by decide +kernel
theorem dX12_text_69 : decode cX12_text 69 = .ok (.iconst (-1), 1) := by decide +kernel
theorem dX12_text_70 : decode cX12_text 70 = .ok (.ireturn, 1) := by decide +kernel
set_option maxRecDepth 100000 in
theorem c_X12_text {n : Nat} {F : Int32 → sm_MI → sm_ML → Prop} {T : List sm_Sh} {I : sm_MI} {L : sm_ML} {a1 : Int32} (hB : sm_Bs T)
    (h : (¬ a1 = 0 → (¬ a1 = 1 → F (-1) I L) ∧ (a1 = 1 → (5 ≤ (I 76 13) → F (-1) I L) ∧ (¬ 5 ≤ (I 76 13) → sm_CI n mX12_readLaw T I L [.ref 76, .int (I 76 13)] (fun r2 I1 L1 => (¬ r2 = (-1) → F (-1) I1 L1) ∧ (r2 = (-1) → ∀ I3 : sm_MI, I3 = (sm_uI I1 76 2 0) → ∀ I4 : sm_MI, I4 = (sm_uI I3 76 13 ((I3 76 13) + 1)) → F ((I4 76 13) - 1) I4 L1))))) ∧ (a1 = 0 → sm_CI n mX12_readStreet T I L [.ref 76] (fun r6 I5 L5 => (¬ r6 = (-1) → (¬ a1 = 1 → F (-1) I5 L5) ∧ (a1 = 1 → (5 ≤ (I5 76 13) → F (-1) I5 L5) ∧ (¬ 5 ≤ (I5 76 13) → sm_CI n mX12_readLaw T I5 L5 [.ref 76, .int (I5 76 13)] (fun r8 I7 L7 => (¬ r8 = (-1) → F (-1) I7 L7) ∧ (r8 = (-1) → ∀ I9 : sm_MI, I9 = (sm_uI I7 76 2 0) → ∀ I10 : sm_MI, I10 = (sm_uI I9 76 13 ((I9 76 13) + 1)) → F ((I10 76 13) - 1) I10 L7))))) ∧ (r6 = (-1) → sm_CI n mX12_takeStreet T (sm_uI I5 76 2 0) L5 [.ref 76] (fun r12 I11 L11 => F r12 I11 L11))))) :
    sm_CI (n + 1) mX12_text T I L [.ref 76, .int a1] F :=
  sm_CI.of (by decide +kernel) rfl (fun x hx => show sm_V x 0 0 T I L 0 [some (.ref 76), some (.int a1)] [] from
  sm_iload_n (z := a1) hx dX12_text_0 rfl (sm_ifne (a := a1) hx dX12_text_1 (tgt := 22) (by decide) (fun q8 => sm_iload_n (z := a1) hx dX12_text_22 rfl (sm_iconst (v := 1) hx dX12_text_23 sm_kc_1 (sm_icmpne (a := a1) (b := 1) hx dX12_text_24 (tgt := 69) (by decide) (fun q3 => sm_iconst (v := (-1)) hx dX12_text_69 sm_kc_m1 (sm_iretI hx dX12_text_70 rfl ((h.1 q8).1 q3))) (fun q3 => sm_aload_n (z := 76) hx dX12_text_27 rfl (sm_getI hx dX12_text_28 fl_X12_309_12 (t_76 hB) rfl (sm_iconst (v := 5) hx dX12_text_31 sm_kc_5 (sm_icmpge (a := (I 76 13)) (b := 5) hx dX12_text_32 (tgt := 69) (by decide) (fun q2 => sm_iconst (v := (-1)) hx dX12_text_69 sm_kc_m1 (sm_iretI hx dX12_text_70 rfl (((h.1 q8).2 q3).1 q2))) (fun q2 => sm_aload_n (z := 76) hx dX12_text_35 rfl (sm_aload_n (z := 76) hx dX12_text_36 rfl (sm_getI hx dX12_text_37 fl_X12_309_12 (t_76 hB) rfl (sm_callVI (args := [.int (I 76 13)]) (st := []) hx dX12_text_40 lv_X12_272_12 rfl rfl (t_76 hB) rfl rfl (((h.1 q8).2 q3).2 q2) (fun r2 I1 L1 hI1 => sm_iconst (v := (-1)) hx dX12_text_43 sm_kc_m1 (sm_icmpne (a := r2) (b := (-1)) hx dX12_text_44 (tgt := 69) (by decide) (fun q1 => sm_iconst (v := (-1)) hx dX12_text_69 sm_kc_m1 (sm_iretI hx dX12_text_70 rfl (hI1.1 q1))) (fun q1 => sm_aload_n (z := 76) hx dX12_text_47 rfl (sm_iconst (v := 0) hx dX12_text_48 sm_kc_0 (sm_putI hx dX12_text_49 fl_X12_119_12 (t_76 hB) rfl (sm_aload_n (z := 76) hx dX12_text_52 rfl (sm_dup hx dX12_text_53 rfl (sm_getI hx dX12_text_54 fl_X12_309_12 (t_76 hB) rfl (sm_iconst (v := 1) hx dX12_text_57 sm_kc_1 (sm_iadd (a := ((sm_uI I1 76 2 0) 76 13)) (b := 1) hx dX12_text_58 (sm_putI hx dX12_text_59 fl_X12_309_12 (t_76 hB) rfl (sm_aload_n (z := 76) hx dX12_text_62 rfl (sm_getI hx dX12_text_63 fl_X12_309_12 (t_76 hB) rfl (sm_iconst (v := 1) hx dX12_text_66 sm_kc_1 (sm_isub (a := ((sm_uI (sm_uI I1 76 2 0) 76 13 (((sm_uI I1 76 2 0) 76 13) + 1)) 76 13)) (b := 1) hx dX12_text_67 (sm_iretI hx dX12_text_68 rfl (((hI1.2 q1) _ rfl) _ rfl)))))))))))))))))))))))))))) (fun q8 => sm_aload_n (z := 76) hx dX12_text_4 rfl (sm_callVI (args := []) (st := []) hx dX12_text_5 lv_X12_269_12 rfl rfl (t_76 hB) rfl rfl (h.2 q8) (fun r6 I5 L5 hI5 => sm_iconst (v := (-1)) hx dX12_text_8 sm_kc_m1 (sm_icmpne (a := r6) (b := (-1)) hx dX12_text_9 (tgt := 22) (by decide) (fun q7 => sm_iload_n (z := a1) hx dX12_text_22 rfl (sm_iconst (v := 1) hx dX12_text_23 sm_kc_1 (sm_icmpne (a := a1) (b := 1) hx dX12_text_24 (tgt := 69) (by decide) (fun q6 => sm_iconst (v := (-1)) hx dX12_text_69 sm_kc_m1 (sm_iretI hx dX12_text_70 rfl ((hI5.1 q7).1 q6))) (fun q6 => sm_aload_n (z := 76) hx dX12_text_27 rfl (sm_getI hx dX12_text_28 fl_X12_309_12 (t_76 hB) rfl (sm_iconst (v := 5) hx dX12_text_31 sm_kc_5 (sm_icmpge (a := (I5 76 13)) (b := 5) hx dX12_text_32 (tgt := 69) (by decide) (fun q5 => sm_iconst (v := (-1)) hx dX12_text_69 sm_kc_m1 (sm_iretI hx dX12_text_70 rfl (((hI5.1 q7).2 q6).1 q5))) (fun q5 => sm_aload_n (z := 76) hx dX12_text_35 rfl (sm_aload_n (z := 76) hx dX12_text_36 rfl (sm_getI hx dX12_text_37 fl_X12_309_12 (t_76 hB) rfl (sm_callVI (args := [.int (I5 76 13)]) (st := []) hx dX12_text_40 lv_X12_272_12 rfl rfl (t_76 hB) rfl rfl (((hI5.1 q7).2 q6).2 q5) (fun r8 I7 L7 hI7 => sm_iconst (v := (-1)) hx dX12_text_43 sm_kc_m1 (sm_icmpne (a := r8) (b := (-1)) hx dX12_text_44 (tgt := 69) (by decide) (fun q4 => sm_iconst (v := (-1)) hx dX12_text_69 sm_kc_m1 (sm_iretI hx dX12_text_70 rfl (hI7.1 q4))) (fun q4 => sm_aload_n (z := 76) hx dX12_text_47 rfl (sm_iconst (v := 0) hx dX12_text_48 sm_kc_0 (sm_putI hx dX12_text_49 fl_X12_119_12 (t_76 hB) rfl (sm_aload_n (z := 76) hx dX12_text_52 rfl (sm_dup hx dX12_text_53 rfl (sm_getI hx dX12_text_54 fl_X12_309_12 (t_76 hB) rfl (sm_iconst (v := 1) hx dX12_text_57 sm_kc_1 (sm_iadd (a := ((sm_uI I7 76 2 0) 76 13)) (b := 1) hx dX12_text_58 (sm_putI hx dX12_text_59 fl_X12_309_12 (t_76 hB) rfl (sm_aload_n (z := 76) hx dX12_text_62 rfl (sm_getI hx dX12_text_63 fl_X12_309_12 (t_76 hB) rfl (sm_iconst (v := 1) hx dX12_text_66 sm_kc_1 (sm_isub (a := ((sm_uI (sm_uI I7 76 2 0) 76 13 (((sm_uI I7 76 2 0) 76 13) + 1)) 76 13)) (b := 1) hx dX12_text_67 (sm_iretI hx dX12_text_68 rfl (((hI7.2 q4) _ rfl) _ rfl)))))))))))))))))))))))))))) (fun q7 => sm_aload_n (z := 76) hx dX12_text_12 rfl (sm_iconst (v := 0) hx dX12_text_13 sm_kc_0 (sm_putI hx dX12_text_14 fl_X12_119_12 (t_76 hB) rfl (sm_aload_n (z := 76) hx dX12_text_17 rfl (sm_callVI (args := []) (st := []) hx dX12_text_18 lv_X12_306_12 rfl rfl (t_76 hB) rfl rfl (hI5.2 q7) (fun r12 I11 L11 hI11 => sm_iretI hx dX12_text_21 rfl hI11))))))))))))
theorem dX12_isSleeper_0 : decode cX12_isSleeper 0 = .ok (.iload_n 1, 1) := by decide +kernel
theorem dX12_isSleeper_1 : decode cX12_isSleeper 1 = .ok (.iconst 0, 1) := by decide +kernel
theorem dX12_isSleeper_2 : decode cX12_isSleeper 2 = .ok (.aload_n 0, 1) := by decide +kernel
theorem dX12_isSleeper_3 : decode cX12_isSleeper 3 = .ok (.getfield 278, 3) := by decide +kernel
theorem dX12_isSleeper_6 : decode cX12_isSleeper 6 = .ok (.iconst 1, 1) := by decide +kernel
theorem dX12_isSleeper_7 : decode cX12_isSleeper 7 = .ok (.isub, 1) := by decide +kernel
theorem dX12_isSleeper_8 : decode cX12_isSleeper 8 = .ok (.invokestatic 227, 3) := by decide +kernel
theorem dX12_isSleeper_11 : decode cX12_isSleeper 11 = .ok (.ireturn, 1) := by decide +kernel
set_option maxRecDepth 100000 in
theorem c_X12_isSleeper {n : Nat} {F : Bool → sm_MI → sm_ML → Prop} {T : List sm_Sh} {I : sm_MI} {L : sm_ML} {a1 : Int32} (hB : sm_Bs T)
    (h : sm_CZ n mX12_in T I L [.int a1, .int 0, .int ((I 76 27) - 1)] (fun r2 I1 L1 => F r2 I1 L1)) :
    sm_CZ (n + 1) mX12_isSleeper T I L [.ref 76, .int a1] F :=
  sm_CZ.of (by decide +kernel) rfl (fun x hx => show sm_V x 0 0 T I L 0 [some (.ref 76), some (.int a1)] [] from
  sm_iload_n (z := a1) hx dX12_isSleeper_0 rfl (sm_iconst (v := 0) hx dX12_isSleeper_1 sm_kc_0 (sm_aload_n (z := 76) hx dX12_isSleeper_2 rfl (sm_getI hx dX12_isSleeper_3 fl_X12_278_12 (t_76 hB) rfl (sm_iconst (v := 1) hx dX12_isSleeper_6 sm_kc_1 (sm_isub (a := (I 76 27)) (b := 1) hx dX12_isSleeper_7 (sm_callSZ (args := [.int a1, .int 0, .int ((I 76 27) - 1)]) (st := []) hx dX12_isSleeper_8 ls_X12_227 rfl rfl rfl h (fun r2 I1 L1 hI1 => sm_iretZ (z := r2) hx dX12_isSleeper_11 rfl hI1))))))))
theorem dX12_isThing_0 : decode cX12_isThing 0 = .ok (.iload_n 1, 1) := by decide +kernel
theorem dX12_isThing_1 : decode cX12_isThing 1 = .ok (.iconst 0, 1) := by decide +kernel
theorem dX12_isThing_2 : decode cX12_isThing 2 = .ok (.aload_n 0, 1) := by decide +kernel
theorem dX12_isThing_3 : decode cX12_isThing 3 = .ok (.getfield 281, 3) := by decide +kernel
theorem dX12_isThing_6 : decode cX12_isThing 6 = .ok (.iconst 1, 1) := by decide +kernel
theorem dX12_isThing_7 : decode cX12_isThing 7 = .ok (.isub, 1) := by decide +kernel
theorem dX12_isThing_8 : decode cX12_isThing 8 = .ok (.invokestatic 227, 3) := by decide +kernel
theorem dX12_isThing_11 : decode cX12_isThing 11 = .ok (.ireturn, 1) := by decide +kernel
set_option maxRecDepth 100000 in
theorem c_X12_isThing {n : Nat} {F : Bool → sm_MI → sm_ML → Prop} {T : List sm_Sh} {I : sm_MI} {L : sm_ML} {a1 : Int32} (hB : sm_Bs T)
    (h : sm_CZ n mX12_in T I L [.int a1, .int 0, .int ((I 76 28) - 1)] (fun r2 I1 L1 => F r2 I1 L1)) :
    sm_CZ (n + 1) mX12_isThing T I L [.ref 76, .int a1] F :=
  sm_CZ.of (by decide +kernel) rfl (fun x hx => show sm_V x 0 0 T I L 0 [some (.ref 76), some (.int a1)] [] from
  sm_iload_n (z := a1) hx dX12_isThing_0 rfl (sm_iconst (v := 0) hx dX12_isThing_1 sm_kc_0 (sm_aload_n (z := 76) hx dX12_isThing_2 rfl (sm_getI hx dX12_isThing_3 fl_X12_281_12 (t_76 hB) rfl (sm_iconst (v := 1) hx dX12_isThing_6 sm_kc_1 (sm_isub (a := (I 76 28)) (b := 1) hx dX12_isThing_7 (sm_callSZ (args := [.int a1, .int 0, .int ((I 76 28) - 1)]) (st := []) hx dX12_isThing_8 ls_X12_227 rfl rfl rfl h (fun r2 I1 L1 hI1 => sm_iretZ (z := r2) hx dX12_isThing_11 rfl hI1))))))))
theorem dX12_isHouse_0 : decode cX12_isHouse 0 = .ok (.iload_n 1, 1) := by decide +kernel
theorem dX12_isHouse_1 : decode cX12_isHouse 1 = .ok (.iconst 0, 1) := by decide +kernel
theorem dX12_isHouse_2 : decode cX12_isHouse 2 = .ok (.aload_n 0, 1) := by decide +kernel
theorem dX12_isHouse_3 : decode cX12_isHouse 3 = .ok (.getfield 275, 3) := by decide +kernel
theorem dX12_isHouse_6 : decode cX12_isHouse 6 = .ok (.iconst 1, 1) := by decide +kernel
theorem dX12_isHouse_7 : decode cX12_isHouse 7 = .ok (.isub, 1) := by decide +kernel
theorem dX12_isHouse_8 : decode cX12_isHouse 8 = .ok (.invokestatic 227, 3) := by decide +kernel
theorem dX12_isHouse_11 : decode cX12_isHouse 11 = .ok (.ireturn, 1) := by decide +kernel
set_option maxRecDepth 100000 in
theorem c_X12_isHouse {n : Nat} {F : Bool → sm_MI → sm_ML → Prop} {T : List sm_Sh} {I : sm_MI} {L : sm_ML} {a1 : Int32} (hB : sm_Bs T)
    (h : sm_CZ n mX12_in T I L [.int a1, .int 0, .int ((I 76 26) - 1)] (fun r2 I1 L1 => F r2 I1 L1)) :
    sm_CZ (n + 1) mX12_isHouse T I L [.ref 76, .int a1] F :=
  sm_CZ.of (by decide +kernel) rfl (fun x hx => show sm_V x 0 0 T I L 0 [some (.ref 76), some (.int a1)] [] from
  sm_iload_n (z := a1) hx dX12_isHouse_0 rfl (sm_iconst (v := 0) hx dX12_isHouse_1 sm_kc_0 (sm_aload_n (z := 76) hx dX12_isHouse_2 rfl (sm_getI hx dX12_isHouse_3 fl_X12_275_12 (t_76 hB) rfl (sm_iconst (v := 1) hx dX12_isHouse_6 sm_kc_1 (sm_isub (a := (I 76 26)) (b := 1) hx dX12_isHouse_7 (sm_callSZ (args := [.int a1, .int 0, .int ((I 76 26) - 1)]) (st := []) hx dX12_isHouse_8 ls_X12_227 rfl rfl rfl h (fun r2 I1 L1 hI1 => sm_iretZ (z := r2) hx dX12_isHouse_11 rfl hI1))))))))
theorem dX12_of_0 : decode cX12_of 0 = .ok (.aload_n 0, 1) := by decide +kernel
theorem dX12_of_1 : decode cX12_of 1 = .ok (.getfield 46, 3) := by decide +kernel
theorem dX12_of_4 : decode cX12_of 4 = .ok (.iconst 4, 1) := by decide +kernel
theorem dX12_of_5 : decode cX12_of 5 = .ok (.iload_n 1, 1) := by decide +kernel
theorem dX12_of_6 : decode cX12_of 6 = .ok (.imul, 1) := by decide +kernel
theorem dX12_of_7 : decode cX12_of 7 = .ok (.iload_n 2, 1) := by decide +kernel
theorem dX12_of_8 : decode cX12_of 8 = .ok (.iadd, 1) := by decide +kernel
theorem dX12_of_9 : decode cX12_of 9 = .ok (.iaload, 1) := by decide +kernel
theorem dX12_of_10 : decode cX12_of 10 = .ok (.ireturn, 1) := by decide +kernel
set_option maxRecDepth 100000 in
theorem c_X12_of {n : Nat} {F : Int32 → sm_MI → sm_ML → Prop} {T : List sm_Sh} {I : sm_MI} {L : sm_ML} {a1 : Int32} {a2 : Int32} (hB : sm_Bs T)
    (h : vp_in ((4 * a1) + a2) 20 ∧ (F (I 89 (Int32.toNatClampNeg (((4 * a1) + a2)))) I L)) :
    sm_CI n mX12_of T I L [.ref 76, .int a1, .int a2] F :=
  sm_CI.of (by decide +kernel) rfl (fun x hx => show sm_V x 0 0 T I L 0 [some (.ref 76), some (.int a1), some (.int a2)] [] from
  sm_aload_n (z := 76) hx dX12_of_0 rfl (sm_getR hx dX12_of_1 fl_X12_46_12 (t_76 hB) rfl (sm_iconst (v := 4) hx dX12_of_4 sm_kc_4 (sm_iload_n (z := a1) hx dX12_of_5 rfl (sm_imul (a := 4) (b := a1) hx dX12_of_6 (sm_iload_n (z := a2) hx dX12_of_7 rfl (sm_iadd (a := (4 * a1)) (b := a2) hx dX12_of_8 (sm_iald (i := ((4 * a1) + a2)) hx dX12_of_9 (t_89 hB) h.1 (sm_iretI hx dX12_of_10 rfl h.2)))))))))
theorem dX12_sleeper_0 : decode cX12_sleeper 0 = .ok (.aload_n 0, 1) := by decide +kernel
theorem dX12_sleeper_1 : decode cX12_sleeper 1 = .ok (.aload_n 0, 1) := by decide +kernel
theorem dX12_sleeper_2 : decode cX12_sleeper 2 = .ok (.iload_n 1, 1) := by decide +kernel
theorem dX12_sleeper_3 : decode cX12_sleeper 3 = .ok (.invokevirtual 312, 3) := by decide +kernel
theorem dX12_sleeper_6 : decode cX12_sleeper 6 = .ok (.ifCond .eq 16, 3) := by decide +kernel
theorem dX12_sleeper_9 : decode cX12_sleeper 9 = .ok (.iload_n 2, 1) := by decide +kernel
theorem dX12_sleeper_10 : decode cX12_sleeper 10 = .ok (.iconst 0, 1) := by decide +kernel
theorem dX12_sleeper_11 : decode cX12_sleeper 11 = .ok (.iconst 4, 1) := by decide +kernel
theorem dX12_sleeper_12 : decode cX12_sleeper 12 = .ok (.invokestatic 227, 3) := by decide +kernel
theorem dX12_sleeper_15 : decode cX12_sleeper 15 = .ok (.ifCond .eq 7, 3) := by decide +kernel
theorem dX12_sleeper_18 : decode cX12_sleeper 18 = .ok (.iconst 0, 1) := by decide +kernel
theorem dX12_sleeper_19 : decode cX12_sleeper 19 = .ok (.goto 4, 3) := by decide +kernel
theorem dX12_sleeper_22 : decode cX12_sleeper 22 = .ok (.iconst 1, 1) := by decide +kernel
theorem dX12_sleeper_23 : decode cX12_sleeper 23 = .ok (.putfield 112, 3) := by decide +kernel
theorem dX12_sleeper_26 : decode cX12_sleeper 26 = .ok (.aload_n 0, 1) := by decide +kernel
theorem dX12_sleeper_27 : decode cX12_sleeper 27 = .ok (.getfield 112, 3) := by decide +kernel
theorem dX12_sleeper_30 : decode cX12_sleeper 30 = .ok (.iconst 1, 1) := by decide +kernel
theorem dX12_sleeper_31 : decode cX12_sleeper 31 = .ok (.if_icmp .ne 7, 3) := by decide +kernel
theorem dX12_sleeper_34 : decode cX12_sleeper 34 = .ok (.iconst 0, 1) := by decide +kernel
theorem dX12_sleeper_35 : decode cX12_sleeper 35 = .ok (.goto 23, 3) := by decide +kernel
theorem dX12_sleeper_38 : decode cX12_sleeper 38 = .ok (.iload_n 2, 1) := by decide +kernel
theorem dX12_sleeper_39 : decode cX12_sleeper 39 = .ok (.iconst 4, 1) := by decide +kernel
theorem dX12_sleeper_40 : decode cX12_sleeper 40 = .ok (.if_icmp .ne 12, 3) := by decide +kernel
theorem dX12_sleeper_43 : decode cX12_sleeper 43 = .ok (.aload_n 0, 1) := by decide +kernel
theorem dX12_sleeper_44 : decode cX12_sleeper 44 = .ok (.getfield 52, 3) := by decide +kernel
theorem dX12_sleeper_47 : decode cX12_sleeper 47 = .ok (.iload_n 1, 1) := by decide +kernel
theorem dX12_sleeper_48 : decode cX12_sleeper 48 = .ok (.iaload, 1) := by decide +kernel
theorem dX12_sleeper_49 : decode cX12_sleeper 49 = .ok (.goto 9, 3) := by decide +kernel
theorem dX12_sleeper_52 : decode cX12_sleeper 52 = .ok (.aload_n 0, 1) := by decide +kernel
theorem dX12_sleeper_53 : decode cX12_sleeper 53 = .ok (.iload_n 1, 1) := by decide +kernel
theorem dX12_sleeper_54 : decode cX12_sleeper 54 = .ok (.iload_n 2, 1) := by decide +kernel
theorem dX12_sleeper_55 : decode cX12_sleeper 55 = .ok (.invokevirtual 315, 3) := by decide +kernel
theorem dX12_sleeper_58 : decode cX12_sleeper 58 = .ok (.ireturn, 1) := by decide +kernel
set_option maxRecDepth 100000 in
theorem c_X12_sleeper {n : Nat} {F : Int32 → sm_MI → sm_ML → Prop} {T : List sm_Sh} {I : sm_MI} {L : sm_ML} {a1 : Int32} {a2 : Int32} (hB : sm_Bs T)
    (h : sm_CZ n mX12_isSleeper T I L [.ref 76, .int a1] (fun r2 I1 L1 => (r2 = false → ∀ I3 : sm_MI, I3 = (sm_uI I1 76 0 1) → (¬ (I3 76 0) = 1 → (¬ a2 = 4 → sm_CI n mX12_of T I3 L1 [.ref 76, .int a1, .int a2] (fun r5 I4 L4 => F r5 I4 L4)) ∧ (a2 = 4 → vp_in a1 5 ∧ (F (I3 91 (Int32.toNatClampNeg (a1))) I3 L1))) ∧ ((I3 76 0) = 1 → F 0 I3 L1)) ∧ (r2 = true → sm_CZ n mX12_in T I1 L1 [.int a2, .int 0, .int 4] (fun r7 I6 L6 => (r7 = false → ∀ I8 : sm_MI, I8 = (sm_uI I6 76 0 1) → (¬ (I8 76 0) = 1 → (¬ a2 = 4 → sm_CI n mX12_of T I8 L6 [.ref 76, .int a1, .int a2] (fun r10 I9 L9 => F r10 I9 L9)) ∧ (a2 = 4 → vp_in a1 5 ∧ (F (I8 91 (Int32.toNatClampNeg (a1))) I8 L6))) ∧ ((I8 76 0) = 1 → F 0 I8 L6)) ∧ (r7 = true → ∀ I11 : sm_MI, I11 = (sm_uI I6 76 0 0) → (¬ (I11 76 0) = 1 → (¬ a2 = 4 → sm_CI n mX12_of T I11 L6 [.ref 76, .int a1, .int a2] (fun r13 I12 L12 => F r13 I12 L12)) ∧ (a2 = 4 → vp_in a1 5 ∧ (F (I11 91 (Int32.toNatClampNeg (a1))) I11 L6))) ∧ ((I11 76 0) = 1 → F 0 I11 L6)))))) :
    sm_CI (n + 1) mX12_sleeper T I L [.ref 76, .int a1, .int a2] F :=
  sm_CI.of (by decide +kernel) rfl (fun x hx => show sm_V x 0 0 T I L 0 [some (.ref 76), some (.int a1), some (.int a2)] [] from
  sm_aload_n (z := 76) hx dX12_sleeper_0 rfl (sm_aload_n (z := 76) hx dX12_sleeper_1 rfl (sm_iload_n (z := a1) hx dX12_sleeper_2 rfl (sm_callVZ (args := [.int a1]) (st := [.ref 76]) hx dX12_sleeper_3 lv_X12_312_12 rfl rfl (t_76 hB) rfl rfl h (fun r2 I1 L1 hI1 => sm_ifeqZ (b := r2) hx dX12_sleeper_6 (tgt := 22) (by decide) (fun q8 => sm_iconst (v := 1) hx dX12_sleeper_22 sm_kc_1 (sm_putI hx dX12_sleeper_23 fl_X12_112_12 (t_76 hB) rfl (sm_aload_n (z := 76) hx dX12_sleeper_26 rfl (sm_getI hx dX12_sleeper_27 fl_X12_112_12 (t_76 hB) rfl (sm_iconst (v := 1) hx dX12_sleeper_30 sm_kc_1 (sm_icmpne (a := ((sm_uI I1 76 0 1) 76 0)) (b := 1) hx dX12_sleeper_31 (tgt := 38) (by decide) (fun q2 => sm_iload_n (z := a2) hx dX12_sleeper_38 rfl (sm_iconst (v := 4) hx dX12_sleeper_39 sm_kc_4 (sm_icmpne (a := a2) (b := 4) hx dX12_sleeper_40 (tgt := 52) (by decide) (fun q1 => sm_aload_n (z := 76) hx dX12_sleeper_52 rfl (sm_iload_n (z := a1) hx dX12_sleeper_53 rfl (sm_iload_n (z := a2) hx dX12_sleeper_54 rfl (sm_callVI (args := [.int a1, .int a2]) (st := []) hx dX12_sleeper_55 lv_X12_315_12 rfl rfl (t_76 hB) rfl rfl ((((hI1.1 q8) _ rfl).1 q2).1 q1) (fun r5 I4 L4 hI4 => sm_iretI hx dX12_sleeper_58 rfl hI4))))) (fun q1 => sm_aload_n (z := 76) hx dX12_sleeper_43 rfl (sm_getR hx dX12_sleeper_44 fl_X12_52_12 (t_76 hB) rfl (sm_iload_n (z := a1) hx dX12_sleeper_47 rfl (sm_iald (i := a1) hx dX12_sleeper_48 (t_91 hB) ((((hI1.1 q8) _ rfl).1 q2).2 q1).1 (sm_goto hx dX12_sleeper_49 (tgt := 58) (by decide) (sm_iretI hx dX12_sleeper_58 rfl ((((hI1.1 q8) _ rfl).1 q2).2 q1).2))))))))) (fun q2 => sm_iconst (v := 0) hx dX12_sleeper_34 sm_kc_0 (sm_goto hx dX12_sleeper_35 (tgt := 58) (by decide) (sm_iretI hx dX12_sleeper_58 rfl (((hI1.1 q8) _ rfl).2 q2)))))))))) (fun q8 => sm_iload_n (z := a2) hx dX12_sleeper_9 rfl (sm_iconst (v := 0) hx dX12_sleeper_10 sm_kc_0 (sm_iconst (v := 4) hx dX12_sleeper_11 sm_kc_4 (sm_callSZ (args := [.int a2, .int 0, .int 4]) (st := [.ref 76]) hx dX12_sleeper_12 ls_X12_227 rfl rfl rfl (hI1.2 q8) (fun r7 I6 L6 hI6 => sm_ifeqZ (b := r7) hx dX12_sleeper_15 (tgt := 22) (by decide) (fun q7 => sm_iconst (v := 1) hx dX12_sleeper_22 sm_kc_1 (sm_putI hx dX12_sleeper_23 fl_X12_112_12 (t_76 hB) rfl (sm_aload_n (z := 76) hx dX12_sleeper_26 rfl (sm_getI hx dX12_sleeper_27 fl_X12_112_12 (t_76 hB) rfl (sm_iconst (v := 1) hx dX12_sleeper_30 sm_kc_1 (sm_icmpne (a := ((sm_uI I6 76 0 1) 76 0)) (b := 1) hx dX12_sleeper_31 (tgt := 38) (by decide) (fun q4 => sm_iload_n (z := a2) hx dX12_sleeper_38 rfl (sm_iconst (v := 4) hx dX12_sleeper_39 sm_kc_4 (sm_icmpne (a := a2) (b := 4) hx dX12_sleeper_40 (tgt := 52) (by decide) (fun q3 => sm_aload_n (z := 76) hx dX12_sleeper_52 rfl (sm_iload_n (z := a1) hx dX12_sleeper_53 rfl (sm_iload_n (z := a2) hx dX12_sleeper_54 rfl (sm_callVI (args := [.int a1, .int a2]) (st := []) hx dX12_sleeper_55 lv_X12_315_12 rfl rfl (t_76 hB) rfl rfl ((((hI6.1 q7) _ rfl).1 q4).1 q3) (fun r10 I9 L9 hI9 => sm_iretI hx dX12_sleeper_58 rfl hI9))))) (fun q3 => sm_aload_n (z := 76) hx dX12_sleeper_43 rfl (sm_getR hx dX12_sleeper_44 fl_X12_52_12 (t_76 hB) rfl (sm_iload_n (z := a1) hx dX12_sleeper_47 rfl (sm_iald (i := a1) hx dX12_sleeper_48 (t_91 hB) ((((hI6.1 q7) _ rfl).1 q4).2 q3).1 (sm_goto hx dX12_sleeper_49 (tgt := 58) (by decide) (sm_iretI hx dX12_sleeper_58 rfl ((((hI6.1 q7) _ rfl).1 q4).2 q3).2))))))))) (fun q4 => sm_iconst (v := 0) hx dX12_sleeper_34 sm_kc_0 (sm_goto hx dX12_sleeper_35 (tgt := 58) (by decide) (sm_iretI hx dX12_sleeper_58 rfl (((hI6.1 q7) _ rfl).2 q4)))))))))) (fun q7 => sm_iconst (v := 0) hx dX12_sleeper_18 sm_kc_0 (sm_goto hx dX12_sleeper_19 (tgt := 23) (by decide) (sm_putI hx dX12_sleeper_23 fl_X12_112_12 (t_76 hB) rfl (sm_aload_n (z := 76) hx dX12_sleeper_26 rfl (sm_getI hx dX12_sleeper_27 fl_X12_112_12 (t_76 hB) rfl (sm_iconst (v := 1) hx dX12_sleeper_30 sm_kc_1 (sm_icmpne (a := ((sm_uI I6 76 0 0) 76 0)) (b := 1) hx dX12_sleeper_31 (tgt := 38) (by decide) (fun q6 => sm_iload_n (z := a2) hx dX12_sleeper_38 rfl (sm_iconst (v := 4) hx dX12_sleeper_39 sm_kc_4 (sm_icmpne (a := a2) (b := 4) hx dX12_sleeper_40 (tgt := 52) (by decide) (fun q5 => sm_aload_n (z := 76) hx dX12_sleeper_52 rfl (sm_iload_n (z := a1) hx dX12_sleeper_53 rfl (sm_iload_n (z := a2) hx dX12_sleeper_54 rfl (sm_callVI (args := [.int a1, .int a2]) (st := []) hx dX12_sleeper_55 lv_X12_315_12 rfl rfl (t_76 hB) rfl rfl ((((hI6.2 q7) _ rfl).1 q6).1 q5) (fun r13 I12 L12 hI12 => sm_iretI hx dX12_sleeper_58 rfl hI12))))) (fun q5 => sm_aload_n (z := 76) hx dX12_sleeper_43 rfl (sm_getR hx dX12_sleeper_44 fl_X12_52_12 (t_76 hB) rfl (sm_iload_n (z := a1) hx dX12_sleeper_47 rfl (sm_iald (i := a1) hx dX12_sleeper_48 (t_91 hB) ((((hI6.2 q7) _ rfl).1 q6).2 q5).1 (sm_goto hx dX12_sleeper_49 (tgt := 58) (by decide) (sm_iretI hx dX12_sleeper_58 rfl ((((hI6.2 q7) _ rfl).1 q6).2 q5).2))))))))) (fun q6 => sm_iconst (v := 0) hx dX12_sleeper_34 sm_kc_0 (sm_goto hx dX12_sleeper_35 (tgt := 58) (by decide) (sm_iretI hx dX12_sleeper_58 rfl (((hI6.2 q7) _ rfl).2 q6)))))))))))))))))))))
theorem dX12_thing_0 : decode cX12_thing 0 = .ok (.aload_n 0, 1) := by decide +kernel
theorem dX12_thing_1 : decode cX12_thing 1 = .ok (.iload_n 1, 1) := by decide +kernel
theorem dX12_thing_2 : decode cX12_thing 2 = .ok (.invokevirtual 318, 3) := by decide +kernel
theorem dX12_thing_5 : decode cX12_thing 5 = .ok (.ifCond .eq 12, 3) := by decide +kernel
theorem dX12_thing_8 : decode cX12_thing 8 = .ok (.iload_n 2, 1) := by decide +kernel
theorem dX12_thing_9 : decode cX12_thing 9 = .ok (.iconst 0, 1) := by decide +kernel
theorem dX12_thing_10 : decode cX12_thing 10 = .ok (.iconst 1, 1) := by decide +kernel
theorem dX12_thing_11 : decode cX12_thing 11 = .ok (.invokestatic 227, 3) := by decide +kernel
theorem dX12_thing_14 : decode cX12_thing 14 = .ok (.ifCond .ne 7, 3) := by decide +kernel
theorem dX12_thing_17 : decode cX12_thing 17 = .ok (.iconst (-1), 1) := by decide +kernel
theorem dX12_thing_18 : decode cX12_thing 18 = .ok (.goto 22, 3) := by decide +kernel
theorem dX12_thing_21 : decode cX12_thing 21 = .ok (.iload_n 2, 1) := by decide +kernel
theorem dX12_thing_22 : decode cX12_thing 22 = .ok (.ifCond .ne 12, 3) := by decide +kernel
theorem dX12_thing_25 : decode cX12_thing 25 = .ok (.aload_n 0, 1) := by decide +kernel
theorem dX12_thing_26 : decode cX12_thing 26 = .ok (.getfield 55, 3) := by decide +kernel
theorem dX12_thing_29 : decode cX12_thing 29 = .ok (.iload_n 1, 1) := by decide +kernel
theorem dX12_thing_30 : decode cX12_thing 30 = .ok (.iaload, 1) := by decide +kernel
theorem dX12_thing_31 : decode cX12_thing 31 = .ok (.goto 9, 3) := by decide +kernel
theorem dX12_thing_34 : decode cX12_thing 34 = .ok (.aload_n 0, 1) := by decide +kernel
theorem dX12_thing_35 : decode cX12_thing 35 = .ok (.getfield 49, 3) := by decide +kernel
theorem dX12_thing_38 : decode cX12_thing 38 = .ok (.iload_n 1, 1) := by decide +kernel
theorem dX12_thing_39 : decode cX12_thing 39 = .ok (.iaload, 1) := by decide +kernel
theorem dX12_thing_40 : decode cX12_thing 40 = .ok (.ireturn, 1) := by decide +kernel
set_option maxRecDepth 100000 in
theorem c_X12_thing {n : Nat} {F : Int32 → sm_MI → sm_ML → Prop} {T : List sm_Sh} {I : sm_MI} {L : sm_ML} {a1 : Int32} {a2 : Int32} (hB : sm_Bs T)
    (h : sm_CZ n mX12_isThing T I L [.ref 76, .int a1] (fun r2 I1 L1 => (r2 = false → F (-1) I1 L1) ∧ (r2 = true → sm_CZ n mX12_in T I1 L1 [.int a2, .int 0, .int 1] (fun r4 I3 L3 => (r4 = true → (¬ a2 = 0 → vp_in a1 8 ∧ (F (I3 90 (Int32.toNatClampNeg (a1))) I3 L3)) ∧ (a2 = 0 → vp_in a1 8 ∧ (F (I3 92 (Int32.toNatClampNeg (a1))) I3 L3))) ∧ (r4 = false → F (-1) I3 L3))))) :
    sm_CI (n + 1) mX12_thing T I L [.ref 76, .int a1, .int a2] F :=
  sm_CI.of (by decide +kernel) rfl (fun x hx => show sm_V x 0 0 T I L 0 [some (.ref 76), some (.int a1), some (.int a2)] [] from
  sm_aload_n (z := 76) hx dX12_thing_0 rfl (sm_iload_n (z := a1) hx dX12_thing_1 rfl (sm_callVZ (args := [.int a1]) (st := []) hx dX12_thing_2 lv_X12_318_12 rfl rfl (t_76 hB) rfl rfl h (fun r2 I1 L1 hI1 => sm_ifeqZ (b := r2) hx dX12_thing_5 (tgt := 17) (by decide) (fun q3 => sm_iconst (v := (-1)) hx dX12_thing_17 sm_kc_m1 (sm_goto hx dX12_thing_18 (tgt := 40) (by decide) (sm_iretI hx dX12_thing_40 rfl (hI1.1 q3)))) (fun q3 => sm_iload_n (z := a2) hx dX12_thing_8 rfl (sm_iconst (v := 0) hx dX12_thing_9 sm_kc_0 (sm_iconst (v := 1) hx dX12_thing_10 sm_kc_1 (sm_callSZ (args := [.int a2, .int 0, .int 1]) (st := []) hx dX12_thing_11 ls_X12_227 rfl rfl rfl (hI1.2 q3) (fun r4 I3 L3 hI3 => sm_ifneZ (b := r4) hx dX12_thing_14 (tgt := 21) (by decide) (fun q2 => sm_iload_n (z := a2) hx dX12_thing_21 rfl (sm_ifne (a := a2) hx dX12_thing_22 (tgt := 34) (by decide) (fun q1 => sm_aload_n (z := 76) hx dX12_thing_34 rfl (sm_getR hx dX12_thing_35 fl_X12_49_12 (t_76 hB) rfl (sm_iload_n (z := a1) hx dX12_thing_38 rfl (sm_iald (i := a1) hx dX12_thing_39 (t_90 hB) ((hI3.1 q2).1 q1).1 (sm_iretI hx dX12_thing_40 rfl ((hI3.1 q2).1 q1).2))))) (fun q1 => sm_aload_n (z := 76) hx dX12_thing_25 rfl (sm_getR hx dX12_thing_26 fl_X12_55_12 (t_76 hB) rfl (sm_iload_n (z := a1) hx dX12_thing_29 rfl (sm_iald (i := a1) hx dX12_thing_30 (t_92 hB) ((hI3.1 q2).2 q1).1 (sm_goto hx dX12_thing_31 (tgt := 40) (by decide) (sm_iretI hx dX12_thing_40 rfl ((hI3.1 q2).2 q1).2)))))))) (fun q2 => sm_iconst (v := (-1)) hx dX12_thing_17 sm_kc_m1 (sm_goto hx dX12_thing_18 (tgt := 40) (by decide) (sm_iretI hx dX12_thing_40 rfl (hI3.2 q2)))))))))))))
theorem dX12_thingsIn_0 : decode cX12_thingsIn 0 = .ok (.iconst 0, 1) := by decide +kernel
theorem dX12_thingsIn_1 : decode cX12_thingsIn 1 = .ok (.istore_n 2, 1) := by decide +kernel
theorem dX12_thingsIn_2 : decode cX12_thingsIn 2 = .ok (.iconst 0, 1) := by decide +kernel
theorem dX12_thingsIn_3 : decode cX12_thingsIn 3 = .ok (.istore_n 3, 1) := by decide +kernel
theorem dX12_thingsIn_4 : decode cX12_thingsIn 4 = .ok (.iload_n 3, 1) := by decide +kernel
theorem dX12_thingsIn_5 : decode cX12_thingsIn 5 = .ok (.aload_n 0, 1) := by decide +kernel
theorem dX12_thingsIn_6 : decode cX12_thingsIn 6 = .ok (.getfield 281, 3) := by decide +kernel
theorem dX12_thingsIn_9 : decode cX12_thingsIn 9 = .ok (.if_icmp .ge 29, 3) := by decide +kernel
theorem dX12_thingsIn_12 : decode cX12_thingsIn 12 = .ok (.iload_n 2, 1) := by decide +kernel
theorem dX12_thingsIn_13 : decode cX12_thingsIn 13 = .ok (.aload_n 0, 1) := by decide +kernel
theorem dX12_thingsIn_14 : decode cX12_thingsIn 14 = .ok (.getfield 55, 3) := by decide +kernel
theorem dX12_thingsIn_17 : decode cX12_thingsIn 17 = .ok (.iload_n 3, 1) := by decide +kernel
theorem dX12_thingsIn_18 : decode cX12_thingsIn 18 = .ok (.iaload, 1) := by decide +kernel
theorem dX12_thingsIn_19 : decode cX12_thingsIn 19 = .ok (.iload_n 1, 1) := by decide +kernel
theorem dX12_thingsIn_20 : decode cX12_thingsIn 20 = .ok (.if_icmp .ne 9, 3) := by decide +kernel
theorem dX12_thingsIn_23 : decode cX12_thingsIn 23 = .ok (.iconst 1, 1) := by decide +kernel
theorem dX12_thingsIn_24 : decode cX12_thingsIn 24 = .ok (.iload_n 3, 1) := by decide +kernel
theorem dX12_thingsIn_25 : decode cX12_thingsIn 25 = .ok (.ishl, 1) := by decide +kernel
theorem dX12_thingsIn_26 : decode cX12_thingsIn 26 = .ok (.goto 4, 3) := by decide +kernel
theorem dX12_thingsIn_29 : decode cX12_thingsIn 29 = .ok (.iconst 0, 1) := by decide +kernel
theorem dX12_thingsIn_30 : decode cX12_thingsIn 30 = .ok (.ior, 1) := by decide +kernel
theorem dX12_thingsIn_31 : decode cX12_thingsIn 31 = .ok (.istore_n 2, 1) := by decide +kernel
theorem dX12_thingsIn_32 : decode cX12_thingsIn 32 = .ok (.iinc 3 1, 3) := by decide +kernel
theorem dX12_thingsIn_35 : decode cX12_thingsIn 35 = .ok (.goto (-31), 3) := by decide +kernel
theorem dX12_thingsIn_38 : decode cX12_thingsIn 38 = .ok (.iload_n 2, 1) := by decide +kernel
theorem dX12_thingsIn_39 : decode cX12_thingsIn 39 = .ok (.ireturn, 1) := by decide +kernel
set_option maxRecDepth 100000 in
theorem u_X12_thingsIn_4 {x : sm_Cx} {n : Nat} {F : Int32 → sm_MI → sm_ML → Prop} {T : List sm_Sh} {I : sm_MI} {L : sm_ML} {a1 : Int32} {a2 : Int32} {a3 : Int32} (hB : sm_Bs T) (hx : sm_Ok x mX12_thingsIn n (sm_KI T F))
    (h : ((I 76 28) ≤ a3 → F a2 I L) ∧ (¬ (I 76 28) ≤ a3 → vp_in a3 8 ∧ ((¬ (I 92 (Int32.toNatClampNeg (a3))) = a1 → sm_V x 0 0 T I L 4 [some (.ref 76), some (.int a1), some (.int (a2 ||| 0)), some (.int (a3 + 1))] []) ∧ ((I 92 (Int32.toNatClampNeg (a3))) = a1 → sm_V x 0 0 T I L 4 [some (.ref 76), some (.int a1), some (.int (a2 ||| (1 <<< (a3 &&& 31)))), some (.int (a3 + 1))] [])))) :
    sm_V x 0 0 T I L 4 [some (.ref 76), some (.int a1), some (.int a2), some (.int a3)] [] :=
  sm_iload_n (z := a3) hx dX12_thingsIn_4 rfl (sm_aload_n (z := 76) hx dX12_thingsIn_5 rfl (sm_getI hx dX12_thingsIn_6 fl_X12_281_12 (t_76 hB) rfl (sm_icmpge (a := a3) (b := (I 76 28)) hx dX12_thingsIn_9 (tgt := 38) (by decide) (fun q2 => sm_iload_n (z := a2) hx dX12_thingsIn_38 rfl (sm_iretI hx dX12_thingsIn_39 rfl (h.1 q2))) (fun q2 => sm_iload_n (z := a2) hx dX12_thingsIn_12 rfl (sm_aload_n (z := 76) hx dX12_thingsIn_13 rfl (sm_getR hx dX12_thingsIn_14 fl_X12_55_12 (t_76 hB) rfl (sm_iload_n (z := a3) hx dX12_thingsIn_17 rfl (sm_iald (i := a3) hx dX12_thingsIn_18 (t_92 hB) (h.2 q2).1 (sm_iload_n (z := a1) hx dX12_thingsIn_19 rfl (sm_icmpne (a := (I 92 (Int32.toNatClampNeg (a3)))) (b := a1) hx dX12_thingsIn_20 (tgt := 29) (by decide) (fun q1 => sm_iconst (v := 0) hx dX12_thingsIn_29 sm_kc_0 (sm_ior (a := a2) (b := 0) hx dX12_thingsIn_30 (sm_istore_n (ls' := [some (.ref 76), some (.int a1), some (.int (a2 ||| 0)), some (.int a3)]) hx dX12_thingsIn_31 (by decide) rfl (sm_iinc (ls' := [some (.ref 76), some (.int a1), some (.int (a2 ||| 0)), some (.int (a3 + 1))]) (z := a3) (v := (a3 + 1)) hx dX12_thingsIn_32 rfl (sm_kii_1 _) (by decide) rfl (sm_goto hx dX12_thingsIn_35 (tgt := 4) (by decide) (((h.2 q2).2.1 q1))))))) (fun q1 => sm_iconst (v := 1) hx dX12_thingsIn_23 sm_kc_1 (sm_iload_n (z := a3) hx dX12_thingsIn_24 rfl (sm_ishl (a := 1) (b := a3) hx dX12_thingsIn_25 (sm_goto hx dX12_thingsIn_26 (tgt := 30) (by decide) (sm_ior (a := a2) (b := (1 <<< (a3 &&& 31))) hx dX12_thingsIn_30 (sm_istore_n (ls' := [some (.ref 76), some (.int a1), some (.int (a2 ||| (1 <<< (a3 &&& 31)))), some (.int a3)]) hx dX12_thingsIn_31 (by decide) rfl (sm_iinc (ls' := [some (.ref 76), some (.int a1), some (.int (a2 ||| (1 <<< (a3 &&& 31)))), some (.int (a3 + 1))]) (z := a3) (v := (a3 + 1)) hx dX12_thingsIn_32 rfl (sm_kii_1 _) (by decide) rfl (sm_goto hx dX12_thingsIn_35 (tgt := 4) (by decide) (((h.2 q2).2.2 q1))))))))))))))))))))
set_option maxRecDepth 100000 in
theorem c_X12_thingsIn {n : Nat} {F : Int32 → sm_MI → sm_ML → Prop} {T : List sm_Sh} {I : sm_MI} {L : sm_ML} {a1 : Int32} (hB : sm_Bs T)
    (h : ∀ x : sm_Cx, sm_Ok x mX12_thingsIn n (sm_KI T F) → sm_V x 0 0 T I L 4 [some (.ref 76), some (.int a1), some (.int 0), some (.int 0)] []) :
    sm_CI n mX12_thingsIn T I L [.ref 76, .int a1] F :=
  sm_CI.of (by decide +kernel) rfl (fun x hx => show sm_V x 0 0 T I L 0 [some (.ref 76), some (.int a1), none, none] [] from
  sm_iconst (v := 0) hx dX12_thingsIn_0 sm_kc_0 (sm_istore_n (ls' := [some (.ref 76), some (.int a1), some (.int 0), none]) hx dX12_thingsIn_1 (by decide) rfl (sm_iconst (v := 0) hx dX12_thingsIn_2 sm_kc_0 (sm_istore_n (ls' := [some (.ref 76), some (.int a1), some (.int 0), some (.int 0)]) hx dX12_thingsIn_3 (by decide) rfl ((h x hx))))))
theorem dX12_house_0 : decode cX12_house 0 = .ok (.aload_n 0, 1) := by decide +kernel
theorem dX12_house_1 : decode cX12_house 1 = .ok (.iload_n 1, 1) := by decide +kernel
theorem dX12_house_2 : decode cX12_house 2 = .ok (.invokevirtual 321, 3) := by decide +kernel
theorem dX12_house_5 : decode cX12_house 5 = .ok (.ifCond .eq 12, 3) := by decide +kernel
theorem dX12_house_8 : decode cX12_house 8 = .ok (.iload_n 2, 1) := by decide +kernel
theorem dX12_house_9 : decode cX12_house 9 = .ok (.iconst 0, 1) := by decide +kernel
theorem dX12_house_10 : decode cX12_house 10 = .ok (.iconst 1, 1) := by decide +kernel
theorem dX12_house_11 : decode cX12_house 11 = .ok (.invokestatic 227, 3) := by decide +kernel
theorem dX12_house_14 : decode cX12_house 14 = .ok (.ifCond .ne 7, 3) := by decide +kernel
theorem dX12_house_17 : decode cX12_house 17 = .ok (.iconst (-1), 1) := by decide +kernel
theorem dX12_house_18 : decode cX12_house 18 = .ok (.goto 31, 3) := by decide +kernel
theorem dX12_house_21 : decode cX12_house 21 = .ok (.iload_n 2, 1) := by decide +kernel
theorem dX12_house_22 : decode cX12_house 22 = .ok (.ifCond .ne 11, 3) := by decide +kernel
theorem dX12_house_25 : decode cX12_house 25 = .ok (.aload_n 0, 1) := by decide +kernel
theorem dX12_house_26 : decode cX12_house 26 = .ok (.iload_n 1, 1) := by decide +kernel
theorem dX12_house_27 : decode cX12_house 27 = .ok (.invokevirtual 324, 3) := by decide +kernel
theorem dX12_house_30 : decode cX12_house 30 = .ok (.goto 19, 3) := by decide +kernel
theorem dX12_house_33 : decode cX12_house 33 = .ok (.aload_n 0, 1) := by decide +kernel
theorem dX12_house_34 : decode cX12_house 34 = .ok (.getfield 290, 3) := by decide +kernel
theorem dX12_house_37 : decode cX12_house 37 = .ok (.iload_n 1, 1) := by decide +kernel
theorem dX12_house_38 : decode cX12_house 38 = .ok (.invokestatic 240, 3) := by decide +kernel
theorem dX12_house_41 : decode cX12_house 41 = .ok (.ifCond .eq 7, 3) := by decide +kernel
theorem dX12_house_44 : decode cX12_house 44 = .ok (.iconst 1, 1) := by decide +kernel
theorem dX12_house_45 : decode cX12_house 45 = .ok (.goto 4, 3) := by decide +kernel
theorem dX12_house_48 : decode cX12_house 48 = .ok (.iconst 0, 1) := by decide +kernel
theorem dX12_house_49 : decode cX12_house 49 = .ok (.ireturn, 1) := by decide +kernel
set_option maxRecDepth 100000 in
theorem c_X12_house {n : Nat} {F : Int32 → sm_MI → sm_ML → Prop} {T : List sm_Sh} {I : sm_MI} {L : sm_ML} {a1 : Int32} {a2 : Int32} (hB : sm_Bs T)
    (h : sm_CZ n mX12_isHouse T I L [.ref 76, .int a1] (fun r2 I1 L1 => (r2 = false → F (-1) I1 L1) ∧ (r2 = true → sm_CZ n mX12_in T I1 L1 [.int a2, .int 0, .int 1] (fun r4 I3 L3 => (r4 = true → (¬ a2 = 0 → sm_CZ n mX12_has T I3 L3 [.int (I3 76 33), .int a1] (fun r6 I5 L5 => (r6 = false → F 0 I5 L5) ∧ (r6 = true → F 1 I5 L5))) ∧ (a2 = 0 → sm_CI n mX12_thingsIn T I3 L3 [.ref 76, .int a1] (fun r8 I7 L7 => F r8 I7 L7))) ∧ (r4 = false → F (-1) I3 L3))))) :
    sm_CI (n + 1) mX12_house T I L [.ref 76, .int a1, .int a2] F :=
  sm_CI.of (by decide +kernel) rfl (fun x hx => show sm_V x 0 0 T I L 0 [some (.ref 76), some (.int a1), some (.int a2)] [] from
  sm_aload_n (z := 76) hx dX12_house_0 rfl (sm_iload_n (z := a1) hx dX12_house_1 rfl (sm_callVZ (args := [.int a1]) (st := []) hx dX12_house_2 lv_X12_321_12 rfl rfl (t_76 hB) rfl rfl h (fun r2 I1 L1 hI1 => sm_ifeqZ (b := r2) hx dX12_house_5 (tgt := 17) (by decide) (fun q4 => sm_iconst (v := (-1)) hx dX12_house_17 sm_kc_m1 (sm_goto hx dX12_house_18 (tgt := 49) (by decide) (sm_iretI hx dX12_house_49 rfl (hI1.1 q4)))) (fun q4 => sm_iload_n (z := a2) hx dX12_house_8 rfl (sm_iconst (v := 0) hx dX12_house_9 sm_kc_0 (sm_iconst (v := 1) hx dX12_house_10 sm_kc_1 (sm_callSZ (args := [.int a2, .int 0, .int 1]) (st := []) hx dX12_house_11 ls_X12_227 rfl rfl rfl (hI1.2 q4) (fun r4 I3 L3 hI3 => sm_ifneZ (b := r4) hx dX12_house_14 (tgt := 21) (by decide) (fun q3 => sm_iload_n (z := a2) hx dX12_house_21 rfl (sm_ifne (a := a2) hx dX12_house_22 (tgt := 33) (by decide) (fun q2 => sm_aload_n (z := 76) hx dX12_house_33 rfl (sm_getI hx dX12_house_34 fl_X12_290_12 (t_76 hB) rfl (sm_iload_n (z := a1) hx dX12_house_37 rfl (sm_callSZ (args := [.int (I3 76 33), .int a1]) (st := []) hx dX12_house_38 ls_X12_240 rfl rfl rfl ((hI3.1 q3).1 q2) (fun r6 I5 L5 hI5 => sm_ifeqZ (b := r6) hx dX12_house_41 (tgt := 48) (by decide) (fun q1 => sm_iconst (v := 0) hx dX12_house_48 sm_kc_0 (sm_iretI hx dX12_house_49 rfl (hI5.1 q1))) (fun q1 => sm_iconst (v := 1) hx dX12_house_44 sm_kc_1 (sm_goto hx dX12_house_45 (tgt := 49) (by decide) (sm_iretI hx dX12_house_49 rfl (hI5.2 q1))))))))) (fun q2 => sm_aload_n (z := 76) hx dX12_house_25 rfl (sm_iload_n (z := a1) hx dX12_house_26 rfl (sm_callVI (args := [.int a1]) (st := []) hx dX12_house_27 lv_X12_324_12 rfl rfl (t_76 hB) rfl rfl ((hI3.1 q3).2 q2) (fun r8 I7 L7 hI7 => sm_goto hx dX12_house_30 (tgt := 49) (by decide) (sm_iretI hx dX12_house_49 rfl hI7))))))) (fun q3 => sm_iconst (v := (-1)) hx dX12_house_17 sm_kc_m1 (sm_goto hx dX12_house_18 (tgt := 49) (by decide) (sm_iretI hx dX12_house_49 rfl (hI3.2 q3)))))))))))))
theorem dX12_rule_0 : decode cX12_rule 0 = .ok (.aload_n 0, 1) := by decide +kernel
theorem dX12_rule_1 : decode cX12_rule 1 = .ok (.iload_n 1, 1) := by decide +kernel
theorem dX12_rule_2 : decode cX12_rule 2 = .ok (.invokevirtual 312, 3) := by decide +kernel
theorem dX12_rule_5 : decode cX12_rule 5 = .ok (.ifCond .eq 17, 3) := by decide +kernel
theorem dX12_rule_8 : decode cX12_rule 8 = .ok (.iload_n 2, 1) := by decide +kernel
theorem dX12_rule_9 : decode cX12_rule 9 = .ok (.iconst (-1), 1) := by decide +kernel
theorem dX12_rule_10 : decode cX12_rule 10 = .ok (.aload_n 0, 1) := by decide +kernel
theorem dX12_rule_11 : decode cX12_rule 11 = .ok (.getfield 309, 3) := by decide +kernel
theorem dX12_rule_14 : decode cX12_rule 14 = .ok (.iconst 1, 1) := by decide +kernel
theorem dX12_rule_15 : decode cX12_rule 15 = .ok (.isub, 1) := by decide +kernel
theorem dX12_rule_16 : decode cX12_rule 16 = .ok (.invokestatic 227, 3) := by decide +kernel
theorem dX12_rule_19 : decode cX12_rule 19 = .ok (.ifCond .ne 5, 3) := by decide +kernel
theorem dX12_rule_22 : decode cX12_rule 22 = .ok (.iconst 0, 1) := by decide +kernel
theorem dX12_rule_23 : decode cX12_rule 23 = .ok (.ireturn, 1) := by decide +kernel
theorem dX12_rule_24 : decode cX12_rule 24 = .ok (.aload_n 0, 1) := by decide +kernel
theorem dX12_rule_25 : decode cX12_rule 25 = .ok (.getfield 52, 3) := by decide +kernel
theorem dX12_rule_28 : decode cX12_rule 28 = .ok (.iload_n 1, 1) := by decide +kernel
theorem dX12_rule_29 : decode cX12_rule 29 = .ok (.iload_n 2, 1) := by decide +kernel
theorem dX12_rule_30 : decode cX12_rule 30 = .ok (.iastore, 1) := by decide +kernel
theorem dX12_rule_31 : decode cX12_rule 31 = .ok (.iconst 1, 1) := by decide +kernel
theorem dX12_rule_32 : decode cX12_rule 32 = .ok (.ireturn, 1) := by decide +kernel
set_option maxRecDepth 100000 in
theorem c_X12_rule {n : Nat} {F : Bool → sm_MI → sm_ML → Prop} {T : List sm_Sh} {I : sm_MI} {L : sm_ML} {a1 : Int32} {a2 : Int32} (hB : sm_Bs T)
    (h : sm_CZ n mX12_isSleeper T I L [.ref 76, .int a1] (fun r2 I1 L1 => (r2 = false → F false I1 L1) ∧ (r2 = true → sm_CZ n mX12_in T I1 L1 [.int a2, .int (-1), .int ((I1 76 13) - 1)] (fun r4 I3 L3 => (r4 = true → vp_in a1 5 ∧ (F true (sm_uI I3 91 (Int32.toNatClampNeg (a1)) a2) L3)) ∧ (r4 = false → F false I3 L3))))) :
    sm_CZ (n + 1) mX12_rule T I L [.ref 76, .int a1, .int a2] F :=
  sm_CZ.of (by decide +kernel) rfl (fun x hx => show sm_V x 0 0 T I L 0 [some (.ref 76), some (.int a1), some (.int a2)] [] from
  sm_aload_n (z := 76) hx dX12_rule_0 rfl (sm_iload_n (z := a1) hx dX12_rule_1 rfl (sm_callVZ (args := [.int a1]) (st := []) hx dX12_rule_2 lv_X12_312_12 rfl rfl (t_76 hB) rfl rfl h (fun r2 I1 L1 hI1 => sm_ifeqZ (b := r2) hx dX12_rule_5 (tgt := 22) (by decide) (fun q2 => sm_iconst (v := 0) hx dX12_rule_22 sm_kc_0 (sm_iretZ (z := false) hx dX12_rule_23 rfl (hI1.1 q2))) (fun q2 => sm_iload_n (z := a2) hx dX12_rule_8 rfl (sm_iconst (v := (-1)) hx dX12_rule_9 sm_kc_m1 (sm_aload_n (z := 76) hx dX12_rule_10 rfl (sm_getI hx dX12_rule_11 fl_X12_309_12 (t_76 hB) rfl (sm_iconst (v := 1) hx dX12_rule_14 sm_kc_1 (sm_isub (a := (I1 76 13)) (b := 1) hx dX12_rule_15 (sm_callSZ (args := [.int a2, .int (-1), .int ((I1 76 13) - 1)]) (st := []) hx dX12_rule_16 ls_X12_227 rfl rfl rfl (hI1.2 q2) (fun r4 I3 L3 hI3 => sm_ifneZ (b := r4) hx dX12_rule_19 (tgt := 24) (by decide) (fun q1 => sm_aload_n (z := 76) hx dX12_rule_24 rfl (sm_getR hx dX12_rule_25 fl_X12_52_12 (t_76 hB) rfl (sm_iload_n (z := a1) hx dX12_rule_28 rfl (sm_iload_n (z := a2) hx dX12_rule_29 rfl (sm_iast (i := a1) (v := a2) hx dX12_rule_30 (t_91 hB) (hI3.1 q1).1 (sm_iconst (v := 1) hx dX12_rule_31 sm_kc_1 (sm_iretZ (z := true) hx dX12_rule_32 rfl (hI3.1 q1).2))))))) (fun q1 => sm_iconst (v := 0) hx dX12_rule_22 sm_kc_0 (sm_iretZ (z := false) hx dX12_rule_23 rfl (hI3.2 q1)))))))))))))))
theorem dX12_risk_0 : decode cX12_risk 0 = .ok (.iload_n 1, 1) := by decide +kernel
theorem dX12_risk_1 : decode cX12_risk 1 = .ok (.iconst 0, 1) := by decide +kernel
theorem dX12_risk_2 : decode cX12_risk 2 = .ok (.bipush 100, 2) := by decide +kernel
theorem dX12_risk_4 : decode cX12_risk 4 = .ok (.invokestatic 227, 3) := by decide +kernel
theorem dX12_risk_7 : decode cX12_risk 7 = .ok (.ifCond .ne 5, 3) := by decide +kernel
theorem dX12_risk_10 : decode cX12_risk 10 = .ok (.iconst 0, 1) := by decide +kernel
theorem dX12_risk_11 : decode cX12_risk 11 = .ok (.ireturn, 1) := by decide +kernel
theorem dX12_risk_12 : decode cX12_risk 12 = .ok (.aload_n 0, 1) := by decide +kernel
theorem dX12_risk_13 : decode cX12_risk 13 = .ok (.iload_n 1, 1) := by decide +kernel
theorem dX12_risk_14 : decode cX12_risk 14 = .ok (.putfield 327, 3) := by decide +kernel
theorem dX12_risk_17 : decode cX12_risk 17 = .ok (.iconst 1, 1) := by decide +kernel
theorem dX12_risk_18 : decode cX12_risk 18 = .ok (.ireturn, 1) := by decide +kernel
set_option maxRecDepth 100000 in
theorem c_X12_risk {n : Nat} {F : Bool → sm_MI → sm_ML → Prop} {T : List sm_Sh} {I : sm_MI} {L : sm_ML} {a1 : Int32} (hB : sm_Bs T)
    (h : sm_CZ n mX12_in T I L [.int a1, .int 0, .int 100] (fun r2 I1 L1 => (r2 = true → F true (sm_uI I1 76 35 a1) L1) ∧ (r2 = false → F false I1 L1))) :
    sm_CZ (n + 1) mX12_risk T I L [.ref 76, .int a1] F :=
  sm_CZ.of (by decide +kernel) rfl (fun x hx => show sm_V x 0 0 T I L 0 [some (.ref 76), some (.int a1)] [] from
  sm_iload_n (z := a1) hx dX12_risk_0 rfl (sm_iconst (v := 0) hx dX12_risk_1 sm_kc_0 (sm_bipush (v := 100) hx dX12_risk_2 sm_kb_100 (sm_callSZ (args := [.int a1, .int 0, .int 100]) (st := []) hx dX12_risk_4 ls_X12_227 rfl rfl rfl h (fun r2 I1 L1 hI1 => sm_ifneZ (b := r2) hx dX12_risk_7 (tgt := 12) (by decide) (fun q1 => sm_aload_n (z := 76) hx dX12_risk_12 rfl (sm_iload_n (z := a1) hx dX12_risk_13 rfl (sm_putI hx dX12_risk_14 fl_X12_327_12 (t_76 hB) rfl (sm_iconst (v := 1) hx dX12_risk_17 sm_kc_1 (sm_iretZ (z := true) hx dX12_risk_18 rfl (hI1.1 q1)))))) (fun q1 => sm_iconst (v := 0) hx dX12_risk_10 sm_kc_0 (sm_iretZ (z := false) hx dX12_risk_11 rfl (hI1.2 q1))))))))
theorem dX12_seed_0 : decode cX12_seed 0 = .ok (.aload_n 0, 1) := by decide +kernel
theorem dX12_seed_1 : decode cX12_seed 1 = .ok (.lload_n 1, 1) := by decide +kernel
theorem dX12_seed_2 : decode cX12_seed 2 = .ok (.putfield 330, 3) := by decide +kernel
theorem dX12_seed_5 : decode cX12_seed 5 = .ok (.iconst 1, 1) := by decide +kernel
theorem dX12_seed_6 : decode cX12_seed 6 = .ok (.ireturn, 1) := by decide +kernel
set_option maxRecDepth 100000 in
theorem c_X12_seed {n : Nat} {F : Bool → sm_MI → sm_ML → Prop} {T : List sm_Sh} {I : sm_MI} {L : sm_ML} {l1 : Int64} (hB : sm_Bs T)
    (h : F true I (sm_uL L 76 36 l1)) :
    sm_CZ n mX12_seed T I L [.ref 76, .long l1] F :=
  sm_CZ.of (by decide +kernel) rfl (fun x hx => show sm_V x 0 0 T I L 0 [some (.ref 76), some (.long l1), none] [] from
  sm_aload_n (z := 76) hx dX12_seed_0 rfl (sm_lload_n (z := l1) hx dX12_seed_1 rfl (sm_putL hx dX12_seed_2 fl_X12_330_12 (t_76 hB) rfl (sm_iconst (v := 1) hx dX12_seed_5 sm_kc_1 (sm_iretZ (z := true) hx dX12_seed_6 rfl h)))))
theorem dX12_put_0 : decode cX12_put 0 = .ok (.aload_n 0, 1) := by decide +kernel
theorem dX12_put_1 : decode cX12_put 1 = .ok (.iload_n 1, 1) := by decide +kernel
theorem dX12_put_2 : decode cX12_put 2 = .ok (.invokevirtual 318, 3) := by decide +kernel
theorem dX12_put_5 : decode cX12_put 5 = .ok (.ifCond .eq 21, 3) := by decide +kernel
theorem dX12_put_8 : decode cX12_put 8 = .ok (.aload_n 0, 1) := by decide +kernel
theorem dX12_put_9 : decode cX12_put 9 = .ok (.iload_n 2, 1) := by decide +kernel
theorem dX12_put_10 : decode cX12_put 10 = .ok (.invokevirtual 321, 3) := by decide +kernel
theorem dX12_put_13 : decode cX12_put 13 = .ok (.ifCond .eq 13, 3) := by decide +kernel
theorem dX12_put_16 : decode cX12_put 16 = .ok (.aload_n 0, 1) := by decide +kernel
theorem dX12_put_17 : decode cX12_put 17 = .ok (.getfield 55, 3) := by decide +kernel
theorem dX12_put_20 : decode cX12_put 20 = .ok (.iload_n 1, 1) := by decide +kernel
theorem dX12_put_21 : decode cX12_put 21 = .ok (.iaload, 1) := by decide +kernel
theorem dX12_put_22 : decode cX12_put 22 = .ok (.iload_n 2, 1) := by decide +kernel
theorem dX12_put_23 : decode cX12_put 23 = .ok (.if_icmp .ne 5, 3) := by decide +kernel
theorem dX12_put_26 : decode cX12_put 26 = .ok (.iconst 0, 1) := by decide +kernel
theorem dX12_put_27 : decode cX12_put 27 = .ok (.ireturn, 1) := by decide +kernel
theorem dX12_put_28 : decode cX12_put 28 = .ok (.aload_n 0, 1) := by decide +kernel
theorem dX12_put_29 : decode cX12_put 29 = .ok (.getfield 55, 3) := by decide +kernel
theorem dX12_put_32 : decode cX12_put 32 = .ok (.iload_n 1, 1) := by decide +kernel
theorem dX12_put_33 : decode cX12_put 33 = .ok (.iload_n 2, 1) := by decide +kernel
theorem dX12_put_34 : decode cX12_put 34 = .ok (.iastore, 1) := by decide +kernel
theorem dX12_put_35 : decode cX12_put 35 = .ok (.iconst 1, 1) := by decide +kernel
theorem dX12_put_36 : decode cX12_put 36 = .ok (.ireturn, 1) := by decide +kernel
set_option maxRecDepth 100000 in
theorem c_X12_put {n : Nat} {F : Bool → sm_MI → sm_ML → Prop} {T : List sm_Sh} {I : sm_MI} {L : sm_ML} {a1 : Int32} {a2 : Int32} (hB : sm_Bs T)
    (h : sm_CZ n mX12_isThing T I L [.ref 76, .int a1] (fun r2 I1 L1 => (r2 = false → F false I1 L1) ∧ (r2 = true → sm_CZ n mX12_isHouse T I1 L1 [.ref 76, .int a2] (fun r4 I3 L3 => (r4 = false → F false I3 L3) ∧ (r4 = true → vp_in a1 8 ∧ ((¬ (I3 92 (Int32.toNatClampNeg (a1))) = a2 → vp_in a1 8 ∧ (F true (sm_uI I3 92 (Int32.toNatClampNeg (a1)) a2) L3)) ∧ ((I3 92 (Int32.toNatClampNeg (a1))) = a2 → F false I3 L3))))))) :
    sm_CZ (n + 1) mX12_put T I L [.ref 76, .int a1, .int a2] F :=
  sm_CZ.of (by decide +kernel) rfl (fun x hx => show sm_V x 0 0 T I L 0 [some (.ref 76), some (.int a1), some (.int a2)] [] from
  sm_aload_n (z := 76) hx dX12_put_0 rfl (sm_iload_n (z := a1) hx dX12_put_1 rfl (sm_callVZ (args := [.int a1]) (st := []) hx dX12_put_2 lv_X12_318_12 rfl rfl (t_76 hB) rfl rfl h (fun r2 I1 L1 hI1 => sm_ifeqZ (b := r2) hx dX12_put_5 (tgt := 26) (by decide) (fun q3 => sm_iconst (v := 0) hx dX12_put_26 sm_kc_0 (sm_iretZ (z := false) hx dX12_put_27 rfl (hI1.1 q3))) (fun q3 => sm_aload_n (z := 76) hx dX12_put_8 rfl (sm_iload_n (z := a2) hx dX12_put_9 rfl (sm_callVZ (args := [.int a2]) (st := []) hx dX12_put_10 lv_X12_321_12 rfl rfl (t_76 hB) rfl rfl (hI1.2 q3) (fun r4 I3 L3 hI3 => sm_ifeqZ (b := r4) hx dX12_put_13 (tgt := 26) (by decide) (fun q2 => sm_iconst (v := 0) hx dX12_put_26 sm_kc_0 (sm_iretZ (z := false) hx dX12_put_27 rfl (hI3.1 q2))) (fun q2 => sm_aload_n (z := 76) hx dX12_put_16 rfl (sm_getR hx dX12_put_17 fl_X12_55_12 (t_76 hB) rfl (sm_iload_n (z := a1) hx dX12_put_20 rfl (sm_iald (i := a1) hx dX12_put_21 (t_92 hB) (hI3.2 q2).1 (sm_iload_n (z := a2) hx dX12_put_22 rfl (sm_icmpne (a := (I3 92 (Int32.toNatClampNeg (a1)))) (b := a2) hx dX12_put_23 (tgt := 28) (by decide) (fun q1 => sm_aload_n (z := 76) hx dX12_put_28 rfl (sm_getR hx dX12_put_29 fl_X12_55_12 (t_76 hB) rfl (sm_iload_n (z := a1) hx dX12_put_32 rfl (sm_iload_n (z := a2) hx dX12_put_33 rfl (sm_iast (i := a1) (v := a2) hx dX12_put_34 (t_92 hB) ((hI3.2 q2).2.1 q1).1 (sm_iconst (v := 1) hx dX12_put_35 sm_kc_1 (sm_iretZ (z := true) hx dX12_put_36 rfl ((hI3.2 q2).2.1 q1).2))))))) (fun q1 => sm_iconst (v := 0) hx dX12_put_26 sm_kc_0 (sm_iretZ (z := false) hx dX12_put_27 rfl ((hI3.2 q2).2.2 q1)))))))))))))))))
theorem dX12_lock_0 : decode cX12_lock 0 = .ok (.aload_n 0, 1) := by decide +kernel
theorem dX12_lock_1 : decode cX12_lock 1 = .ok (.iload_n 1, 1) := by decide +kernel
theorem dX12_lock_2 : decode cX12_lock 2 = .ok (.invokevirtual 321, 3) := by decide +kernel
theorem dX12_lock_5 : decode cX12_lock 5 = .ok (.ifCond .eq 15, 3) := by decide +kernel
theorem dX12_lock_8 : decode cX12_lock 8 = .ok (.aload_n 0, 1) := by decide +kernel
theorem dX12_lock_9 : decode cX12_lock 9 = .ok (.getfield 290, 3) := by decide +kernel
theorem dX12_lock_12 : decode cX12_lock 12 = .ok (.iload_n 1, 1) := by decide +kernel
theorem dX12_lock_13 : decode cX12_lock 13 = .ok (.invokestatic 240, 3) := by decide +kernel
theorem dX12_lock_16 : decode cX12_lock 16 = .ok (.iload_n 2, 1) := by decide +kernel
theorem dX12_lock_17 : decode cX12_lock 17 = .ok (.if_icmp .ne 5, 3) := by decide +kernel
theorem dX12_lock_20 : decode cX12_lock 20 = .ok (.iconst 0, 1) := by decide +kernel
theorem dX12_lock_21 : decode cX12_lock 21 = .ok (.ireturn, 1) := by decide +kernel
theorem dX12_lock_22 : decode cX12_lock 22 = .ok (.aload_n 0, 1) := by decide +kernel
theorem dX12_lock_23 : decode cX12_lock 23 = .ok (.dup, 1) := by decide +kernel
theorem dX12_lock_24 : decode cX12_lock 24 = .ok (.getfield 290, 3) := by decide +kernel
theorem dX12_lock_27 : decode cX12_lock 27 = .ok (.iconst 1, 1) := by decide +kernel
theorem dX12_lock_28 : decode cX12_lock 28 = .ok (.iload_n 1, 1) := by decide +kernel
theorem dX12_lock_29 : decode cX12_lock 29 = .ok (.ishl, 1) := by decide +kernel
theorem dX12_lock_30 : decode cX12_lock 30 = .ok (.ixor, 1) := by decide +kernel
theorem dX12_lock_31 : decode cX12_lock 31 = .ok (.putfield 290, 3) := by decide +kernel
theorem dX12_lock_34 : decode cX12_lock 34 = .ok (.iconst 1, 1) := by decide +kernel
theorem dX12_lock_35 : decode cX12_lock 35 = .ok (.ireturn, 1) := by decide +kernel
set_option maxRecDepth 100000 in
theorem c_X12_lock {n : Nat} {F : Bool → sm_MI → sm_ML → Prop} {T : List sm_Sh} {I : sm_MI} {L : sm_ML} {a1 : Int32} {b2 : Bool} (hB : sm_Bs T)
    (h : sm_CZ n mX12_isHouse T I L [.ref 76, .int a1] (fun r2 I1 L1 => (r2 = false → F false I1 L1) ∧ (r2 = true → sm_CZ n mX12_has T I1 L1 [.int (I1 76 33), .int a1] (fun r4 I3 L3 => (¬ (sm_z r4) = (sm_z b2) → F true (sm_uI I3 76 33 ((I3 76 33) ^^^ (1 <<< (a1 &&& 31)))) L3) ∧ ((sm_z r4) = (sm_z b2) → F false I3 L3))))) :
    sm_CZ (n + 1) mX12_lock T I L [.ref 76, .int a1, .int (sm_z b2)] F :=
  sm_CZ.of (by decide +kernel) rfl (fun x hx => show sm_V x 0 0 T I L 0 [some (.ref 76), some (.int a1), some (.int (sm_z b2))] [] from
  sm_aload_n (z := 76) hx dX12_lock_0 rfl (sm_iload_n (z := a1) hx dX12_lock_1 rfl (sm_callVZ (args := [.int a1]) (st := []) hx dX12_lock_2 lv_X12_321_12 rfl rfl (t_76 hB) rfl rfl h (fun r2 I1 L1 hI1 => sm_ifeqZ (b := r2) hx dX12_lock_5 (tgt := 20) (by decide) (fun q2 => sm_iconst (v := 0) hx dX12_lock_20 sm_kc_0 (sm_iretZ (z := false) hx dX12_lock_21 rfl (hI1.1 q2))) (fun q2 => sm_aload_n (z := 76) hx dX12_lock_8 rfl (sm_getI hx dX12_lock_9 fl_X12_290_12 (t_76 hB) rfl (sm_iload_n (z := a1) hx dX12_lock_12 rfl (sm_callSZ (args := [.int (I1 76 33), .int a1]) (st := []) hx dX12_lock_13 ls_X12_240 rfl rfl rfl (hI1.2 q2) (fun r4 I3 L3 hI3 => sm_iload_n (z := (sm_z b2)) hx dX12_lock_16 rfl (sm_icmpne (a := (sm_z r4)) (b := (sm_z b2)) hx dX12_lock_17 (tgt := 22) (by decide) (fun q1 => sm_aload_n (z := 76) hx dX12_lock_22 rfl (sm_dup hx dX12_lock_23 rfl (sm_getI hx dX12_lock_24 fl_X12_290_12 (t_76 hB) rfl (sm_iconst (v := 1) hx dX12_lock_27 sm_kc_1 (sm_iload_n (z := a1) hx dX12_lock_28 rfl (sm_ishl (a := 1) (b := a1) hx dX12_lock_29 (sm_ixor (a := (I3 76 33)) (b := (1 <<< (a1 &&& 31))) hx dX12_lock_30 (sm_putI hx dX12_lock_31 fl_X12_290_12 (t_76 hB) rfl (sm_iconst (v := 1) hx dX12_lock_34 sm_kc_1 (sm_iretZ (z := true) hx dX12_lock_35 rfl (hI3.1 q1))))))))))) (fun q1 => sm_iconst (v := 0) hx dX12_lock_20 sm_kc_0 (sm_iretZ (z := false) hx dX12_lock_21 rfl (hI3.2 q1)))))))))))))
theorem dX12_isFull_0 : decode cX12_isFull 0 = .ok (.aload_n 0, 1) := by decide +kernel
theorem dX12_isFull_1 : decode cX12_isFull 1 = .ok (.getfield 284, 3) := by decide +kernel
theorem dX12_isFull_4 : decode cX12_isFull 4 = .ok (.ifCond .le 29, 3) := by decide +kernel
theorem dX12_isFull_7 : decode cX12_isFull 7 = .ok (.iload_n 1, 1) := by decide +kernel
theorem dX12_isFull_8 : decode cX12_isFull 8 = .ok (.aload_n 0, 1) := by decide +kernel
theorem dX12_isFull_9 : decode cX12_isFull 9 = .ok (.getfield 287, 3) := by decide +kernel
theorem dX12_isFull_12 : decode cX12_isFull 12 = .ok (.if_icmp .lt 21, 3) := by decide +kernel
theorem dX12_isFull_15 : decode cX12_isFull 15 = .ok (.iload_n 1, 1) := by decide +kernel
theorem dX12_isFull_16 : decode cX12_isFull 16 = .ok (.aload_n 0, 1) := by decide +kernel
theorem dX12_isFull_17 : decode cX12_isFull 17 = .ok (.getfield 287, 3) := by decide +kernel
theorem dX12_isFull_20 : decode cX12_isFull 20 = .ok (.isub, 1) := by decide +kernel
theorem dX12_isFull_21 : decode cX12_isFull 21 = .ok (.aload_n 0, 1) := by decide +kernel
theorem dX12_isFull_22 : decode cX12_isFull 22 = .ok (.getfield 284, 3) := by decide +kernel
theorem dX12_isFull_25 : decode cX12_isFull 25 = .ok (.irem, 1) := by decide +kernel
theorem dX12_isFull_26 : decode cX12_isFull 26 = .ok (.ifCond .ne 7, 3) := by decide +kernel
theorem dX12_isFull_29 : decode cX12_isFull 29 = .ok (.iconst 1, 1) := by decide +kernel
theorem dX12_isFull_30 : decode cX12_isFull 30 = .ok (.goto 4, 3) := by decide +kernel
theorem dX12_isFull_33 : decode cX12_isFull 33 = .ok (.iconst 0, 1) := by decide +kernel
theorem dX12_isFull_34 : decode cX12_isFull 34 = .ok (.ireturn, 1) := by decide +kernel
set_option maxRecDepth 100000 in
theorem c_X12_isFull {n : Nat} {F : Bool → sm_MI → sm_ML → Prop} {T : List sm_Sh} {I : sm_MI} {L : sm_ML} {a1 : Int32} (hB : sm_Bs T)
    (h : ((I 76 29) ≤ 0 → F false I L) ∧ (¬ (I 76 29) ≤ 0 → (a1 < (I 76 30) → F false I L) ∧ (¬ a1 < (I 76 30) → ¬ (I 76 29) = 0 ∧ ((¬ ((a1 - (I 76 30)) - (a1 - (I 76 30)) / (I 76 29) * (I 76 29)) = 0 → F false I L) ∧ (((a1 - (I 76 30)) - (a1 - (I 76 30)) / (I 76 29) * (I 76 29)) = 0 → F true I L))))) :
    sm_CZ n mX12_isFull T I L [.ref 76, .int a1] F :=
  sm_CZ.of (by decide +kernel) rfl (fun x hx => show sm_V x 0 0 T I L 0 [some (.ref 76), some (.int a1)] [] from
  sm_aload_n (z := 76) hx dX12_isFull_0 rfl (sm_getI hx dX12_isFull_1 fl_X12_284_12 (t_76 hB) rfl (sm_ifle (a := (I 76 29)) hx dX12_isFull_4 (tgt := 33) (by decide) (fun q3 => sm_iconst (v := 0) hx dX12_isFull_33 sm_kc_0 (sm_iretZ (z := false) hx dX12_isFull_34 rfl (h.1 q3))) (fun q3 => sm_iload_n (z := a1) hx dX12_isFull_7 rfl (sm_aload_n (z := 76) hx dX12_isFull_8 rfl (sm_getI hx dX12_isFull_9 fl_X12_287_12 (t_76 hB) rfl (sm_icmplt (a := a1) (b := (I 76 30)) hx dX12_isFull_12 (tgt := 33) (by decide) (fun q2 => sm_iconst (v := 0) hx dX12_isFull_33 sm_kc_0 (sm_iretZ (z := false) hx dX12_isFull_34 rfl ((h.2 q3).1 q2))) (fun q2 => sm_iload_n (z := a1) hx dX12_isFull_15 rfl (sm_aload_n (z := 76) hx dX12_isFull_16 rfl (sm_getI hx dX12_isFull_17 fl_X12_287_12 (t_76 hB) rfl (sm_isub (a := a1) (b := (I 76 30)) hx dX12_isFull_20 (sm_aload_n (z := 76) hx dX12_isFull_21 rfl (sm_getI hx dX12_isFull_22 fl_X12_284_12 (t_76 hB) rfl (sm_irem (a := (a1 - (I 76 30))) (b := (I 76 29)) hx dX12_isFull_25 ((h.2 q3).2 q2).1 (sm_ifne (a := ((a1 - (I 76 30)) - (a1 - (I 76 30)) / (I 76 29) * (I 76 29))) hx dX12_isFull_26 (tgt := 33) (by decide) (fun q1 => sm_iconst (v := 0) hx dX12_isFull_33 sm_kc_0 (sm_iretZ (z := false) hx dX12_isFull_34 rfl (((h.2 q3).2 q2).2.1 q1))) (fun q1 => sm_iconst (v := 1) hx dX12_isFull_29 sm_kc_1 (sm_goto hx dX12_isFull_30 (tgt := 34) (by decide) (sm_iretZ (z := true) hx dX12_isFull_34 rfl (((h.2 q3).2 q2).2.2 q1)))))))))))))))))))
theorem dX12_moon_0 : decode cX12_moon 0 = .ok (.aload_n 0, 1) := by decide +kernel
theorem dX12_moon_1 : decode cX12_moon 1 = .ok (.getfield 275, 3) := by decide +kernel
theorem dX12_moon_4 : decode cX12_moon 4 = .ok (.ifCond .eq 7, 3) := by decide +kernel
theorem dX12_moon_7 : decode cX12_moon 7 = .ok (.iload_n 1, 1) := by decide +kernel
theorem dX12_moon_8 : decode cX12_moon 8 = .ok (.ifCond .ge 7, 3) := by decide +kernel
theorem dX12_moon_11 : decode cX12_moon 11 = .ok (.iconst (-1), 1) := by decide +kernel
theorem dX12_moon_12 : decode cX12_moon 12 = .ok (.goto 16, 3) := by decide +kernel
theorem dX12_moon_15 : decode cX12_moon 15 = .ok (.aload_n 0, 1) := by decide +kernel
theorem dX12_moon_16 : decode cX12_moon 16 = .ok (.iload_n 1, 1) := by decide +kernel
theorem dX12_moon_17 : decode cX12_moon 17 = .ok (.invokevirtual 334, 3) := by decide +kernel
theorem dX12_moon_20 : decode cX12_moon 20 = .ok (.ifCond .eq 7, 3) := by decide +kernel
theorem dX12_moon_23 : decode cX12_moon 23 = .ok (.iconst 1, 1) := by decide +kernel
theorem dX12_moon_24 : decode cX12_moon 24 = .ok (.goto 4, 3) := by decide +kernel
theorem dX12_moon_27 : decode cX12_moon 27 = .ok (.iconst 0, 1) := by decide +kernel
theorem dX12_moon_28 : decode cX12_moon 28 = .ok (.ireturn, 1) := by decide +kernel
set_option maxRecDepth 100000 in
theorem c_X12_moon {n : Nat} {F : Int32 → sm_MI → sm_ML → Prop} {T : List sm_Sh} {I : sm_MI} {L : sm_ML} {a1 : Int32} (hB : sm_Bs T)
    (h : ((I 76 26) = 0 → F (-1) I L) ∧ (¬ (I 76 26) = 0 → (0 ≤ a1 → sm_CZ n mX12_isFull T I L [.ref 76, .int a1] (fun r2 I1 L1 => (r2 = false → F 0 I1 L1) ∧ (r2 = true → F 1 I1 L1))) ∧ (¬ 0 ≤ a1 → F (-1) I L))) :
    sm_CI (n + 1) mX12_moon T I L [.ref 76, .int a1] F :=
  sm_CI.of (by decide +kernel) rfl (fun x hx => show sm_V x 0 0 T I L 0 [some (.ref 76), some (.int a1)] [] from
  sm_aload_n (z := 76) hx dX12_moon_0 rfl (sm_getI hx dX12_moon_1 fl_X12_275_12 (t_76 hB) rfl (sm_ifeq (a := (I 76 26)) hx dX12_moon_4 (tgt := 11) (by decide) (fun q3 => sm_iconst (v := (-1)) hx dX12_moon_11 sm_kc_m1 (sm_goto hx dX12_moon_12 (tgt := 28) (by decide) (sm_iretI hx dX12_moon_28 rfl (h.1 q3)))) (fun q3 => sm_iload_n (z := a1) hx dX12_moon_7 rfl (sm_ifge (a := a1) hx dX12_moon_8 (tgt := 15) (by decide) (fun q2 => sm_aload_n (z := 76) hx dX12_moon_15 rfl (sm_iload_n (z := a1) hx dX12_moon_16 rfl (sm_callVZ (args := [.int a1]) (st := []) hx dX12_moon_17 lv_X12_334_12 rfl rfl (t_76 hB) rfl rfl ((h.2 q3).1 q2) (fun r2 I1 L1 hI1 => sm_ifeqZ (b := r2) hx dX12_moon_20 (tgt := 27) (by decide) (fun q1 => sm_iconst (v := 0) hx dX12_moon_27 sm_kc_0 (sm_iretI hx dX12_moon_28 rfl (hI1.1 q1))) (fun q1 => sm_iconst (v := 1) hx dX12_moon_23 sm_kc_1 (sm_goto hx dX12_moon_24 (tgt := 28) (by decide) (sm_iretI hx dX12_moon_28 rfl (hI1.2 q1)))))))) (fun q2 => sm_iconst (v := (-1)) hx dX12_moon_11 sm_kc_m1 (sm_goto hx dX12_moon_12 (tgt := 28) (by decide) (sm_iretI hx dX12_moon_28 rfl ((h.2 q3).2 q2)))))))))
theorem dX12_ownStride_0 : decode cX12_ownStride 0 = .ok (.aload_n 0, 1) := by decide +kernel
theorem dX12_ownStride_1 : decode cX12_ownStride 1 = .ok (.getfield 58, 3) := by decide +kernel
theorem dX12_ownStride_4 : decode cX12_ownStride 4 = .ok (.iload_n 1, 1) := by decide +kernel
theorem dX12_ownStride_5 : decode cX12_ownStride 5 = .ok (.iaload, 1) := by decide +kernel
theorem dX12_ownStride_6 : decode cX12_ownStride 6 = .ok (.iconst (-1), 1) := by decide +kernel
theorem dX12_ownStride_7 : decode cX12_ownStride 7 = .ok (.if_icmp .eq 10, 3) := by decide +kernel
theorem dX12_ownStride_10 : decode cX12_ownStride 10 = .ok (.aload_n 0, 1) := by decide +kernel
theorem dX12_ownStride_11 : decode cX12_ownStride 11 = .ok (.getfield 58, 3) := by decide +kernel
theorem dX12_ownStride_14 : decode cX12_ownStride 14 = .ok (.iload_n 1, 1) := by decide +kernel
theorem dX12_ownStride_15 : decode cX12_ownStride 15 = .ok (.iaload, 1) := by decide +kernel
theorem dX12_ownStride_16 : decode cX12_ownStride 16 = .ok (.ireturn, 1) := by decide +kernel
theorem dX12_ownStride_17 : decode cX12_ownStride 17 = .ok (.aload_n 0, 1) := by decide +kernel
theorem dX12_ownStride_18 : decode cX12_ownStride 18 = .ok (.getfield 52, 3) := by decide +kernel
theorem dX12_ownStride_21 : decode cX12_ownStride 21 = .ok (.iload_n 1, 1) := by decide +kernel
theorem dX12_ownStride_22 : decode cX12_ownStride 22 = .ok (.iaload, 1) := by decide +kernel
theorem dX12_ownStride_23 : decode cX12_ownStride 23 = .ok (.iconst (-1), 1) := by decide +kernel
theorem dX12_ownStride_24 : decode cX12_ownStride 24 = .ok (.if_icmp .ne 10, 3) := by decide +kernel
theorem dX12_ownStride_27 : decode cX12_ownStride 27 = .ok (.aload_n 0, 1) := by decide +kernel
theorem dX12_ownStride_28 : decode cX12_ownStride 28 = .ok (.iload_n 1, 1) := by decide +kernel
theorem dX12_ownStride_29 : decode cX12_ownStride 29 = .ok (.iconst 1, 1) := by decide +kernel
theorem dX12_ownStride_30 : decode cX12_ownStride 30 = .ok (.invokevirtual 315, 3) := by decide +kernel
theorem dX12_ownStride_33 : decode cX12_ownStride 33 = .ok (.ireturn, 1) := by decide +kernel
theorem dX12_ownStride_34 : decode cX12_ownStride 34 = .ok (.aload_n 0, 1) := by decide +kernel
theorem dX12_ownStride_35 : decode cX12_ownStride 35 = .ok (.getfield 34, 3) := by decide +kernel
theorem dX12_ownStride_38 : decode cX12_ownStride 38 = .ok (.iconst 0, 1) := by decide +kernel
theorem dX12_ownStride_39 : decode cX12_ownStride 39 = .ok (.iload_n 2, 1) := by decide +kernel
theorem dX12_ownStride_40 : decode cX12_ownStride 40 = .ok (.iastore, 1) := by decide +kernel
theorem dX12_ownStride_41 : decode cX12_ownStride 41 = .ok (.aload_n 0, 1) := by decide +kernel
theorem dX12_ownStride_42 : decode cX12_ownStride 42 = .ok (.getfield 34, 3) := by decide +kernel
theorem dX12_ownStride_45 : decode cX12_ownStride 45 = .ok (.iconst 1, 1) := by decide +kernel
theorem dX12_ownStride_46 : decode cX12_ownStride 46 = .ok (.aload_n 0, 1) := by decide +kernel
theorem dX12_ownStride_47 : decode cX12_ownStride 47 = .ok (.iload_n 1, 1) := by decide +kernel
theorem dX12_ownStride_48 : decode cX12_ownStride 48 = .ok (.iconst 0, 1) := by decide +kernel
theorem dX12_ownStride_49 : decode cX12_ownStride 49 = .ok (.invokevirtual 315, 3) := by decide +kernel
theorem dX12_ownStride_52 : decode cX12_ownStride 52 = .ok (.iastore, 1) := by decide +kernel
theorem dX12_ownStride_53 : decode cX12_ownStride 53 = .ok (.aload_n 0, 1) := by decide +kernel
theorem dX12_ownStride_54 : decode cX12_ownStride 54 = .ok (.getfield 34, 3) := by decide +kernel
theorem dX12_ownStride_57 : decode cX12_ownStride 57 = .ok (.iconst 2, 1) := by decide +kernel
theorem dX12_ownStride_58 : decode cX12_ownStride 58 = .ok (.aload_n 0, 1) := by decide +kernel
theorem dX12_ownStride_59 : decode cX12_ownStride 59 = .ok (.iload_n 1, 1) := by decide +kernel
theorem dX12_ownStride_60 : decode cX12_ownStride 60 = .ok (.iconst 1, 1) := by decide +kernel
theorem dX12_ownStride_61 : decode cX12_ownStride 61 = .ok (.invokevirtual 315, 3) := by decide +kernel
theorem dX12_ownStride_64 : decode cX12_ownStride 64 = .ok (.iastore, 1) := by decide +kernel
theorem dX12_ownStride_65 : decode cX12_ownStride 65 = .ok (.aload_n 0, 1) := by decide +kernel
theorem dX12_ownStride_66 : decode cX12_ownStride 66 = .ok (.getfield 34, 3) := by decide +kernel
theorem dX12_ownStride_69 : decode cX12_ownStride 69 = .ok (.iconst 3, 1) := by decide +kernel
theorem dX12_ownStride_70 : decode cX12_ownStride 70 = .ok (.aload_n 0, 1) := by decide +kernel
theorem dX12_ownStride_71 : decode cX12_ownStride 71 = .ok (.aload_n 0, 1) := by decide +kernel
theorem dX12_ownStride_72 : decode cX12_ownStride 72 = .ok (.iload_n 1, 1) := by decide +kernel
theorem dX12_ownStride_73 : decode cX12_ownStride 73 = .ok (.iconst 0, 1) := by decide +kernel
theorem dX12_ownStride_74 : decode cX12_ownStride 74 = .ok (.invokevirtual 315, 3) := by decide +kernel
theorem dX12_ownStride_77 : decode cX12_ownStride 77 = .ok (.invokevirtual 324, 3) := by decide +kernel
theorem dX12_ownStride_80 : decode cX12_ownStride 80 = .ok (.invokestatic 337, 3) := by decide +kernel
theorem dX12_ownStride_83 : decode cX12_ownStride 83 = .ok (.iastore, 1) := by decide +kernel
theorem dX12_ownStride_84 : decode cX12_ownStride 84 = .ok (.aload_n 0, 1) := by decide +kernel
theorem dX12_ownStride_85 : decode cX12_ownStride 85 = .ok (.getfield 34, 3) := by decide +kernel
theorem dX12_ownStride_88 : decode cX12_ownStride 88 = .ok (.iconst 4, 1) := by decide +kernel
theorem dX12_ownStride_89 : decode cX12_ownStride 89 = .ok (.aload_n 0, 1) := by decide +kernel
theorem dX12_ownStride_90 : decode cX12_ownStride 90 = .ok (.iload_n 2, 1) := by decide +kernel
theorem dX12_ownStride_91 : decode cX12_ownStride 91 = .ok (.invokevirtual 334, 3) := by decide +kernel
theorem dX12_ownStride_94 : decode cX12_ownStride 94 = .ok (.ifCond .eq 7, 3) := by decide +kernel
theorem dX12_ownStride_97 : decode cX12_ownStride 97 = .ok (.iconst 1, 1) := by decide +kernel
theorem dX12_ownStride_98 : decode cX12_ownStride 98 = .ok (.goto 4, 3) := by decide +kernel
theorem dX12_ownStride_101 : decode cX12_ownStride 101 = .ok (.iconst 0, 1) := by decide +kernel
theorem dX12_ownStride_102 : decode cX12_ownStride 102 = .ok (.iastore, 1) := by decide +kernel
theorem dX12_ownStride_103 : decode cX12_ownStride 103 = .ok (.aload_n 0, 1) := by decide +kernel
theorem dX12_ownStride_104 : decode cX12_ownStride 104 = .ok (.getfield 34, 3) := by decide +kernel
theorem dX12_ownStride_107 : decode cX12_ownStride 107 = .ok (.iconst 5, 1) := by decide +kernel
theorem dX12_ownStride_108 : decode cX12_ownStride 108 = .ok (.iload_n 1, 1) := by decide +kernel
theorem dX12_ownStride_109 : decode cX12_ownStride 109 = .ok (.iastore, 1) := by decide +kernel
theorem dX12_ownStride_110 : decode cX12_ownStride 110 = .ok (.aload_n 0, 1) := by decide +kernel
theorem dX12_ownStride_111 : decode cX12_ownStride 111 = .ok (.aload_n 0, 1) := by decide +kernel
theorem dX12_ownStride_112 : decode cX12_ownStride 112 = .ok (.getfield 52, 3) := by decide +kernel
theorem dX12_ownStride_115 : decode cX12_ownStride 115 = .ok (.iload_n 1, 1) := by decide +kernel
theorem dX12_ownStride_116 : decode cX12_ownStride 116 = .ok (.iaload, 1) := by decide +kernel
theorem dX12_ownStride_117 : decode cX12_ownStride 117 = .ok (.invokevirtual 342, 3) := by decide +kernel
theorem dX12_ownStride_120 : decode cX12_ownStride 120 = .ok (.ireturn, 1) := by decide +kernel
set_option maxRecDepth 100000 in
theorem c_X12_ownStride {n : Nat} {F : Int32 → sm_MI → sm_ML → Prop} {T : List sm_Sh} {I : sm_MI} {L : sm_ML} {a1 : Int32} {a2 : Int32} (hB : sm_Bs T)
    (h : vp_in a1 5 ∧ (((I 93 (Int32.toNatClampNeg (a1))) = (-1) → vp_in a1 5 ∧ ((¬ (I 91 (Int32.toNatClampNeg (a1))) = (-1) → vp_in 0 6 ∧ (sm_CI n mX12_of T (sm_uI I 85 (Int32.toNatClampNeg (0)) a2) L [.ref 76, .int a1, .int 0] (fun r2 I1 L1 => vp_in 1 6 ∧ (sm_CI n mX12_of T (sm_uI I1 85 (Int32.toNatClampNeg (1)) r2) L1 [.ref 76, .int a1, .int 1] (fun r4 I3 L3 => vp_in 2 6 ∧ (sm_CI n mX12_of T (sm_uI I3 85 (Int32.toNatClampNeg (2)) r4) L3 [.ref 76, .int a1, .int 0] (fun r6 I5 L5 => sm_CI n mX12_thingsIn T I5 L5 [.ref 76, .int r6] (fun r8 I7 L7 => sm_CI n mJ6_bitCount_0f7a4 T I7 L7 [.int r8] (fun r10 I9 L9 => vp_in 3 6 ∧ (sm_CZ n mX12_isFull T (sm_uI I9 85 (Int32.toNatClampNeg (3)) r10) L9 [.ref 76, .int a2] (fun r12 I11 L11 => (r12 = false → vp_in 4 6 ∧ (vp_in 5 6 ∧ (∀ I13 : sm_MI, I13 = (sm_uI (sm_uI I11 85 (Int32.toNatClampNeg (4)) 0) 85 (Int32.toNatClampNeg (5)) a1) → vp_in a1 5 ∧ (sm_CI n mX12_worthOf T I13 L11 [.ref 76, .int (I13 91 (Int32.toNatClampNeg (a1)))] (fun r15 I14 L14 => F r15 I14 L14))))) ∧ (r12 = true → vp_in 4 6 ∧ (vp_in 5 6 ∧ (∀ I16 : sm_MI, I16 = (sm_uI (sm_uI I11 85 (Int32.toNatClampNeg (4)) 1) 85 (Int32.toNatClampNeg (5)) a1) → vp_in a1 5 ∧ (sm_CI n mX12_worthOf T I16 L11 [.ref 76, .int (I16 91 (Int32.toNatClampNeg (a1)))] (fun r18 I17 L17 => F r18 I17 L17)))))))))))))))) ∧ ((I 91 (Int32.toNatClampNeg (a1))) = (-1) → sm_CI n mX12_of T I L [.ref 76, .int a1, .int 1] (fun r20 I19 L19 => F r20 I19 L19)))) ∧ (¬ (I 93 (Int32.toNatClampNeg (a1))) = (-1) → vp_in a1 5 ∧ (F (I 93 (Int32.toNatClampNeg (a1))) I L)))) :
    sm_CI (n + 1) mX12_ownStride T I L [.ref 76, .int a1, .int a2] F :=
  sm_CI.of (by decide +kernel) rfl (fun x hx => show sm_V x 0 0 T I L 0 [some (.ref 76), some (.int a1), some (.int a2)] [] from
  sm_aload_n (z := 76) hx dX12_ownStride_0 rfl (sm_getR hx dX12_ownStride_1 fl_X12_58_12 (t_76 hB) rfl (sm_iload_n (z := a1) hx dX12_ownStride_4 rfl (sm_iald (i := a1) hx dX12_ownStride_5 (t_93 hB) h.1 (sm_iconst (v := (-1)) hx dX12_ownStride_6 sm_kc_m1 (sm_icmpeq (a := (I 93 (Int32.toNatClampNeg (a1)))) (b := (-1)) hx dX12_ownStride_7 (tgt := 17) (by decide) (fun q3 => sm_aload_n (z := 76) hx dX12_ownStride_17 rfl (sm_getR hx dX12_ownStride_18 fl_X12_52_12 (t_76 hB) rfl (sm_iload_n (z := a1) hx dX12_ownStride_21 rfl (sm_iald (i := a1) hx dX12_ownStride_22 (t_91 hB) (h.2.1 q3).1 (sm_iconst (v := (-1)) hx dX12_ownStride_23 sm_kc_m1 (sm_icmpne (a := (I 91 (Int32.toNatClampNeg (a1)))) (b := (-1)) hx dX12_ownStride_24 (tgt := 34) (by decide) (fun q2 => sm_aload_n (z := 76) hx dX12_ownStride_34 rfl (sm_getR hx dX12_ownStride_35 fl_X12_34_12 (t_76 hB) rfl (sm_iconst (v := 0) hx dX12_ownStride_38 sm_kc_0 (sm_iload_n (z := a2) hx dX12_ownStride_39 rfl (sm_iast (i := 0) (v := a2) hx dX12_ownStride_40 (t_85 hB) ((h.2.1 q3).2.1 q2).1 (sm_aload_n (z := 76) hx dX12_ownStride_41 rfl (sm_getR hx dX12_ownStride_42 fl_X12_34_12 (t_76 hB) rfl (sm_iconst (v := 1) hx dX12_ownStride_45 sm_kc_1 (sm_aload_n (z := 76) hx dX12_ownStride_46 rfl (sm_iload_n (z := a1) hx dX12_ownStride_47 rfl (sm_iconst (v := 0) hx dX12_ownStride_48 sm_kc_0 (sm_callVI (args := [.int a1, .int 0]) (st := [.int 1, .ref 85]) hx dX12_ownStride_49 lv_X12_315_12 rfl rfl (t_76 hB) rfl rfl ((h.2.1 q3).2.1 q2).2 (fun r2 I1 L1 hI1 => sm_iast (i := 1) (v := r2) hx dX12_ownStride_52 (t_85 hB) hI1.1 (sm_aload_n (z := 76) hx dX12_ownStride_53 rfl (sm_getR hx dX12_ownStride_54 fl_X12_34_12 (t_76 hB) rfl (sm_iconst (v := 2) hx dX12_ownStride_57 sm_kc_2 (sm_aload_n (z := 76) hx dX12_ownStride_58 rfl (sm_iload_n (z := a1) hx dX12_ownStride_59 rfl (sm_iconst (v := 1) hx dX12_ownStride_60 sm_kc_1 (sm_callVI (args := [.int a1, .int 1]) (st := [.int 2, .ref 85]) hx dX12_ownStride_61 lv_X12_315_12 rfl rfl (t_76 hB) rfl rfl hI1.2 (fun r4 I3 L3 hI3 => sm_iast (i := 2) (v := r4) hx dX12_ownStride_64 (t_85 hB) hI3.1 (sm_aload_n (z := 76) hx dX12_ownStride_65 rfl (sm_getR hx dX12_ownStride_66 fl_X12_34_12 (t_76 hB) rfl (sm_iconst (v := 3) hx dX12_ownStride_69 sm_kc_3 (sm_aload_n (z := 76) hx dX12_ownStride_70 rfl (sm_aload_n (z := 76) hx dX12_ownStride_71 rfl (sm_iload_n (z := a1) hx dX12_ownStride_72 rfl (sm_iconst (v := 0) hx dX12_ownStride_73 sm_kc_0 (sm_callVI (args := [.int a1, .int 0]) (st := [.ref 76, .int 3, .ref 85]) hx dX12_ownStride_74 lv_X12_315_12 rfl rfl (t_76 hB) rfl rfl hI3.2 (fun r6 I5 L5 hI5 => sm_callVI (args := [.int r6]) (st := [.int 3, .ref 85]) hx dX12_ownStride_77 lv_X12_324_12 rfl rfl (t_76 hB) rfl rfl hI5 (fun r8 I7 L7 hI7 => sm_callSI (args := [.int r8]) (st := [.int 3, .ref 85]) hx dX12_ownStride_80 ls_X12_337 rfl rfl rfl hI7 (fun r10 I9 L9 hI9 => sm_iast (i := 3) (v := r10) hx dX12_ownStride_83 (t_85 hB) hI9.1 (sm_aload_n (z := 76) hx dX12_ownStride_84 rfl (sm_getR hx dX12_ownStride_85 fl_X12_34_12 (t_76 hB) rfl (sm_iconst (v := 4) hx dX12_ownStride_88 sm_kc_4 (sm_aload_n (z := 76) hx dX12_ownStride_89 rfl (sm_iload_n (z := a2) hx dX12_ownStride_90 rfl (sm_callVZ (args := [.int a2]) (st := [.int 4, .ref 85]) hx dX12_ownStride_91 lv_X12_334_12 rfl rfl (t_76 hB) rfl rfl hI9.2 (fun r12 I11 L11 hI11 => sm_ifeqZ (b := r12) hx dX12_ownStride_94 (tgt := 101) (by decide) (fun q1 => sm_iconst (v := 0) hx dX12_ownStride_101 sm_kc_0 (sm_iast (i := 4) (v := 0) hx dX12_ownStride_102 (t_85 hB) (hI11.1 q1).1 (sm_aload_n (z := 76) hx dX12_ownStride_103 rfl (sm_getR hx dX12_ownStride_104 fl_X12_34_12 (t_76 hB) rfl (sm_iconst (v := 5) hx dX12_ownStride_107 sm_kc_5 (sm_iload_n (z := a1) hx dX12_ownStride_108 rfl (sm_iast (i := 5) (v := a1) hx dX12_ownStride_109 (t_85 hB) (hI11.1 q1).2.1 (sm_aload_n (z := 76) hx dX12_ownStride_110 rfl (sm_aload_n (z := 76) hx dX12_ownStride_111 rfl (sm_getR hx dX12_ownStride_112 fl_X12_52_12 (t_76 hB) rfl (sm_iload_n (z := a1) hx dX12_ownStride_115 rfl (sm_iald (i := a1) hx dX12_ownStride_116 (t_91 hB) ((hI11.1 q1).2.2 _ rfl).1 (sm_callVI (args := [.int ((sm_uI (sm_uI I11 85 (Int32.toNatClampNeg (4)) 0) 85 (Int32.toNatClampNeg (5)) a1) 91 (Int32.toNatClampNeg (a1)))]) (st := []) hx dX12_ownStride_117 lv_X12_342_12 rfl rfl (t_76 hB) rfl rfl ((hI11.1 q1).2.2 _ rfl).2 (fun r15 I14 L14 hI14 => sm_iretI hx dX12_ownStride_120 rfl hI14)))))))))))))) (fun q1 => sm_iconst (v := 1) hx dX12_ownStride_97 sm_kc_1 (sm_goto hx dX12_ownStride_98 (tgt := 102) (by decide) (sm_iast (i := 4) (v := 1) hx dX12_ownStride_102 (t_85 hB) (hI11.2 q1).1 (sm_aload_n (z := 76) hx dX12_ownStride_103 rfl (sm_getR hx dX12_ownStride_104 fl_X12_34_12 (t_76 hB) rfl (sm_iconst (v := 5) hx dX12_ownStride_107 sm_kc_5 (sm_iload_n (z := a1) hx dX12_ownStride_108 rfl (sm_iast (i := 5) (v := a1) hx dX12_ownStride_109 (t_85 hB) (hI11.2 q1).2.1 (sm_aload_n (z := 76) hx dX12_ownStride_110 rfl (sm_aload_n (z := 76) hx dX12_ownStride_111 rfl (sm_getR hx dX12_ownStride_112 fl_X12_52_12 (t_76 hB) rfl (sm_iload_n (z := a1) hx dX12_ownStride_115 rfl (sm_iald (i := a1) hx dX12_ownStride_116 (t_91 hB) ((hI11.2 q1).2.2 _ rfl).1 (sm_callVI (args := [.int ((sm_uI (sm_uI I11 85 (Int32.toNatClampNeg (4)) 1) 85 (Int32.toNatClampNeg (5)) a1) 91 (Int32.toNatClampNeg (a1)))]) (st := []) hx dX12_ownStride_117 lv_X12_342_12 rfl rfl (t_76 hB) rfl rfl ((hI11.2 q1).2.2 _ rfl).2 (fun r18 I17 L17 hI17 => sm_iretI hx dX12_ownStride_120 rfl hI17)))))))))))))))))))))))))))))))))))))))))))))))))))))) (fun q2 => sm_aload_n (z := 76) hx dX12_ownStride_27 rfl (sm_iload_n (z := a1) hx dX12_ownStride_28 rfl (sm_iconst (v := 1) hx dX12_ownStride_29 sm_kc_1 (sm_callVI (args := [.int a1, .int 1]) (st := []) hx dX12_ownStride_30 lv_X12_315_12 rfl rfl (t_76 hB) rfl rfl ((h.2.1 q3).2.2 q2) (fun r20 I19 L19 hI19 => sm_iretI hx dX12_ownStride_33 rfl hI19))))))))))) (fun q3 => sm_aload_n (z := 76) hx dX12_ownStride_10 rfl (sm_getR hx dX12_ownStride_11 fl_X12_58_12 (t_76 hB) rfl (sm_iload_n (z := a1) hx dX12_ownStride_14 rfl (sm_iald (i := a1) hx dX12_ownStride_15 (t_93 hB) (h.2.2 q3).1 (sm_iretI hx dX12_ownStride_16 rfl (h.2.2 q3).2)))))))))))
theorem dX12_takenFrom_0 : decode cX12_takenFrom 0 = .ok (.aload_n 0, 1) := by decide +kernel
theorem dX12_takenFrom_1 : decode cX12_takenFrom 1 = .ok (.iload_n 2, 1) := by decide +kernel
theorem dX12_takenFrom_2 : decode cX12_takenFrom 2 = .ok (.invokevirtual 324, 3) := by decide +kernel
theorem dX12_takenFrom_5 : decode cX12_takenFrom 5 = .ok (.istore_n 3, 1) := by decide +kernel
theorem dX12_takenFrom_6 : decode cX12_takenFrom 6 = .ok (.iload_n 3, 1) := by decide +kernel
theorem dX12_takenFrom_7 : decode cX12_takenFrom 7 = .ok (.ifCond .ne 7, 3) := by decide +kernel
theorem dX12_takenFrom_10 : decode cX12_takenFrom 10 = .ok (.iconst (-1), 1) := by decide +kernel
theorem dX12_takenFrom_11 : decode cX12_takenFrom 11 = .ok (.goto 27, 3) := by decide +kernel
theorem dX12_takenFrom_14 : decode cX12_takenFrom 14 = .ok (.aload_n 0, 1) := by decide +kernel
theorem dX12_takenFrom_15 : decode cX12_takenFrom 15 = .ok (.iload_n 1, 1) := by decide +kernel
theorem dX12_takenFrom_16 : decode cX12_takenFrom 16 = .ok (.iconst 3, 1) := by decide +kernel
theorem dX12_takenFrom_17 : decode cX12_takenFrom 17 = .ok (.invokevirtual 315, 3) := by decide +kernel
theorem dX12_takenFrom_20 : decode cX12_takenFrom 20 = .ok (.iconst 1, 1) := by decide +kernel
theorem dX12_takenFrom_21 : decode cX12_takenFrom 21 = .ok (.if_icmp .ne 13, 3) := by decide +kernel
theorem dX12_takenFrom_24 : decode cX12_takenFrom 24 = .ok (.bipush 31, 2) := by decide +kernel
theorem dX12_takenFrom_26 : decode cX12_takenFrom 26 = .ok (.iload_n 3, 1) := by decide +kernel
theorem dX12_takenFrom_27 : decode cX12_takenFrom 27 = .ok (.invokestatic 345, 3) := by decide +kernel
theorem dX12_takenFrom_30 : decode cX12_takenFrom 30 = .ok (.isub, 1) := by decide +kernel
theorem dX12_takenFrom_31 : decode cX12_takenFrom 31 = .ok (.goto 7, 3) := by decide +kernel
theorem dX12_takenFrom_34 : decode cX12_takenFrom 34 = .ok (.iload_n 3, 1) := by decide +kernel
theorem dX12_takenFrom_35 : decode cX12_takenFrom 35 = .ok (.invokestatic 348, 3) := by decide +kernel
theorem dX12_takenFrom_38 : decode cX12_takenFrom 38 = .ok (.ireturn, 1) := by decide +kernel
set_option maxRecDepth 100000 in
theorem c_X12_takenFrom {n : Nat} {F : Int32 → sm_MI → sm_ML → Prop} {T : List sm_Sh} {I : sm_MI} {L : sm_ML} {a1 : Int32} {a2 : Int32} (hB : sm_Bs T)
    (h : sm_CI n mX12_thingsIn T I L [.ref 76, .int a2] (fun r2 I1 L1 => (¬ r2 = 0 → sm_CI n mX12_of T I1 L1 [.ref 76, .int a1, .int 3] (fun r4 I3 L3 => (¬ r4 = 1 → sm_CI n mJ6_numberOfTrailingZeros_0f7a4 T I3 L3 [.int r2] (fun r6 I5 L5 => F r6 I5 L5)) ∧ (r4 = 1 → sm_CI n mJ6_numberOfLeadingZeros_0f7a4 T I3 L3 [.int r2] (fun r8 I7 L7 => F (31 - r8) I7 L7)))) ∧ (r2 = 0 → F (-1) I1 L1))) :
    sm_CI (n + 1) mX12_takenFrom T I L [.ref 76, .int a1, .int a2] F :=
  sm_CI.of (by decide +kernel) rfl (fun x hx => show sm_V x 0 0 T I L 0 [some (.ref 76), some (.int a1), some (.int a2), none] [] from
  sm_aload_n (z := 76) hx dX12_takenFrom_0 rfl (sm_iload_n (z := a2) hx dX12_takenFrom_1 rfl (sm_callVI (args := [.int a2]) (st := []) hx dX12_takenFrom_2 lv_X12_324_12 rfl rfl (t_76 hB) rfl rfl h (fun r2 I1 L1 hI1 => sm_istore_n (ls' := [some (.ref 76), some (.int a1), some (.int a2), some (.int r2)]) hx dX12_takenFrom_5 (by decide) rfl (sm_iload_n (z := r2) hx dX12_takenFrom_6 rfl (sm_ifne (a := r2) hx dX12_takenFrom_7 (tgt := 14) (by decide) (fun q2 => sm_aload_n (z := 76) hx dX12_takenFrom_14 rfl (sm_iload_n (z := a1) hx dX12_takenFrom_15 rfl (sm_iconst (v := 3) hx dX12_takenFrom_16 sm_kc_3 (sm_callVI (args := [.int a1, .int 3]) (st := []) hx dX12_takenFrom_17 lv_X12_315_12 rfl rfl (t_76 hB) rfl rfl (hI1.1 q2) (fun r4 I3 L3 hI3 => sm_iconst (v := 1) hx dX12_takenFrom_20 sm_kc_1 (sm_icmpne (a := r4) (b := 1) hx dX12_takenFrom_21 (tgt := 34) (by decide) (fun q1 => sm_iload_n (z := r2) hx dX12_takenFrom_34 rfl (sm_callSI (args := [.int r2]) (st := []) hx dX12_takenFrom_35 ls_X12_348 rfl rfl rfl (hI3.1 q1) (fun r6 I5 L5 hI5 => sm_iretI hx dX12_takenFrom_38 rfl hI5))) (fun q1 => sm_bipush (v := 31) hx dX12_takenFrom_24 sm_kb_31 (sm_iload_n (z := r2) hx dX12_takenFrom_26 rfl (sm_callSI (args := [.int r2]) (st := [.int 31]) hx dX12_takenFrom_27 ls_X12_345 rfl rfl rfl (hI3.2 q1) (fun r8 I7 L7 hI7 => sm_isub (a := 31) (b := r8) hx dX12_takenFrom_30 (sm_goto hx dX12_takenFrom_31 (tgt := 38) (by decide) (sm_iretI hx dX12_takenFrom_38 rfl hI7)))))))))))) (fun q2 => sm_iconst (v := (-1)) hx dX12_takenFrom_10 sm_kc_m1 (sm_goto hx dX12_takenFrom_11 (tgt := 38) (by decide) (sm_iretI hx dX12_takenFrom_38 rfl (hI1.2 q2))))))))))
theorem dX12_walk_0 : decode cX12_walk 0 = .ok (.aload_n 0, 1) := by decide +kernel
theorem dX12_walk_1 : decode cX12_walk 1 = .ok (.iload_n 1, 1) := by decide +kernel
theorem dX12_walk_2 : decode cX12_walk 2 = .ok (.iconst 2, 1) := by decide +kernel
theorem dX12_walk_3 : decode cX12_walk 3 = .ok (.invokevirtual 315, 3) := by decide +kernel
theorem dX12_walk_6 : decode cX12_walk 6 = .ok (.istore 4, 2) := by decide +kernel
theorem dX12_walk_8 : decode cX12_walk 8 = .ok (.iload_n 1, 1) := by decide +kernel
theorem dX12_walk_9 : decode cX12_walk 9 = .ok (.aload_n 0, 1) := by decide +kernel
theorem dX12_walk_10 : decode cX12_walk 10 = .ok (.getfield 64, 3) := by decide +kernel
theorem dX12_walk_13 : decode cX12_walk 13 = .ok (.if_icmp .ne 7, 3) := by decide +kernel
theorem dX12_walk_16 : decode cX12_walk 16 = .ok (.iconst 0, 1) := by decide +kernel
theorem dX12_walk_17 : decode cX12_walk 17 = .ok (.goto 38, 3) := by decide +kernel
theorem dX12_walk_20 : decode cX12_walk 20 = .ok (.iload 4, 2) := by decide +kernel
theorem dX12_walk_22 : decode cX12_walk 22 = .ok (.iconst 2, 1) := by decide +kernel
theorem dX12_walk_23 : decode cX12_walk 23 = .ok (.if_icmp .ne 18, 3) := by decide +kernel
theorem dX12_walk_26 : decode cX12_walk 26 = .ok (.iload_n 1, 1) := by decide +kernel
theorem dX12_walk_27 : decode cX12_walk 27 = .ok (.ifCond .le 14, 3) := by decide +kernel
theorem dX12_walk_30 : decode cX12_walk 30 = .ok (.aload_n 0, 1) := by decide +kernel
theorem dX12_walk_31 : decode cX12_walk 31 = .ok (.getfield 61, 3) := by decide +kernel
theorem dX12_walk_34 : decode cX12_walk 34 = .ok (.iload_n 1, 1) := by decide +kernel
theorem dX12_walk_35 : decode cX12_walk 35 = .ok (.iconst 1, 1) := by decide +kernel
theorem dX12_walk_36 : decode cX12_walk 36 = .ok (.isub, 1) := by decide +kernel
theorem dX12_walk_37 : decode cX12_walk 37 = .ok (.iaload, 1) := by decide +kernel
theorem dX12_walk_38 : decode cX12_walk 38 = .ok (.goto 17, 3) := by decide +kernel
theorem dX12_walk_41 : decode cX12_walk 41 = .ok (.iload_n 3, 1) := by decide +kernel
theorem dX12_walk_42 : decode cX12_walk 42 = .ok (.ifCond .eq 7, 3) := by decide +kernel
theorem dX12_walk_45 : decode cX12_walk 45 = .ok (.iconst 0, 1) := by decide +kernel
theorem dX12_walk_46 : decode cX12_walk 46 = .ok (.goto 9, 3) := by decide +kernel
theorem dX12_walk_49 : decode cX12_walk 49 = .ok (.aload_n 0, 1) := by decide +kernel
theorem dX12_walk_50 : decode cX12_walk 50 = .ok (.iload_n 1, 1) := by decide +kernel
theorem dX12_walk_51 : decode cX12_walk 51 = .ok (.iload_n 2, 1) := by decide +kernel
theorem dX12_walk_52 : decode cX12_walk 52 = .ok (.invokevirtual 351, 3) := by decide +kernel
theorem dX12_walk_55 : decode cX12_walk 55 = .ok (.istore 5, 2) := by decide +kernel
theorem dX12_walk_57 : decode cX12_walk 57 = .ok (.iload 4, 2) := by decide +kernel
theorem dX12_walk_59 : decode cX12_walk 59 = .ok (.iconst 1, 1) := by decide +kernel
theorem dX12_walk_60 : decode cX12_walk 60 = .ok (.if_icmp .ne 17, 3) := by decide +kernel
theorem dX12_walk_63 : decode cX12_walk 63 = .ok (.aload_n 0, 1) := by decide +kernel
theorem dX12_walk_64 : decode cX12_walk 64 = .ok (.iload_n 2, 1) := by decide +kernel
theorem dX12_walk_65 : decode cX12_walk 65 = .ok (.invokevirtual 334, 3) := by decide +kernel
theorem dX12_walk_68 : decode cX12_walk 68 = .ok (.ifCond .eq 9, 3) := by decide +kernel
theorem dX12_walk_71 : decode cX12_walk 71 = .ok (.iload 5, 2) := by decide +kernel
theorem dX12_walk_73 : decode cX12_walk 73 = .ok (.ineg, 1) := by decide +kernel
theorem dX12_walk_74 : decode cX12_walk 74 = .ok (.goto 5, 3) := by decide +kernel
theorem dX12_walk_77 : decode cX12_walk 77 = .ok (.iload 5, 2) := by decide +kernel
theorem dX12_walk_79 : decode cX12_walk 79 = .ok (.istore 5, 2) := by decide +kernel
theorem dX12_walk_81 : decode cX12_walk 81 = .ok (.aload_n 0, 1) := by decide +kernel
theorem dX12_walk_82 : decode cX12_walk 82 = .ok (.getfield 61, 3) := by decide +kernel
theorem dX12_walk_85 : decode cX12_walk 85 = .ok (.iload_n 1, 1) := by decide +kernel
theorem dX12_walk_86 : decode cX12_walk 86 = .ok (.iload 5, 2) := by decide +kernel
theorem dX12_walk_88 : decode cX12_walk 88 = .ok (.iastore, 1) := by decide +kernel
theorem dX12_walk_89 : decode cX12_walk 89 = .ok (.aload_n 0, 1) := by decide +kernel
theorem dX12_walk_90 : decode cX12_walk 90 = .ok (.iload_n 1, 1) := by decide +kernel
theorem dX12_walk_91 : decode cX12_walk 91 = .ok (.iconst 0, 1) := by decide +kernel
theorem dX12_walk_92 : decode cX12_walk 92 = .ok (.invokevirtual 315, 3) := by decide +kernel
theorem dX12_walk_95 : decode cX12_walk 95 = .ok (.istore 6, 2) := by decide +kernel
theorem dX12_walk_97 : decode cX12_walk 97 = .ok (.iload 6, 2) := by decide +kernel
theorem dX12_walk_99 : decode cX12_walk 99 = .ok (.iload 5, 2) := by decide +kernel
theorem dX12_walk_101 : decode cX12_walk 101 = .ok (.iadd, 1) := by decide +kernel
theorem dX12_walk_102 : decode cX12_walk 102 = .ok (.aload_n 0, 1) := by decide +kernel
theorem dX12_walk_103 : decode cX12_walk 103 = .ok (.getfield 275, 3) := by decide +kernel
theorem dX12_walk_106 : decode cX12_walk 106 = .ok (.invokestatic 354, 3) := by decide +kernel
theorem dX12_walk_109 : decode cX12_walk 109 = .ok (.istore 7, 2) := by decide +kernel
theorem dX12_walk_111 : decode cX12_walk 111 = .ok (.iload 4, 2) := by decide +kernel
theorem dX12_walk_113 : decode cX12_walk 113 = .ok (.iconst 4, 1) := by decide +kernel
theorem dX12_walk_114 : decode cX12_walk 114 = .ok (.if_icmp .ne 8, 3) := by decide +kernel
theorem dX12_walk_117 : decode cX12_walk 117 = .ok (.iload 7, 2) := by decide +kernel
theorem dX12_walk_119 : decode cX12_walk 119 = .ok (.goto 5, 3) := by decide +kernel
theorem dX12_walk_122 : decode cX12_walk 122 = .ok (.iload 6, 2) := by decide +kernel
theorem dX12_walk_124 : decode cX12_walk 124 = .ok (.istore 8, 2) := by decide +kernel
theorem dX12_walk_126 : decode cX12_walk 126 = .ok (.iload 4, 2) := by decide +kernel
theorem dX12_walk_128 : decode cX12_walk 128 = .ok (.iconst 4, 1) := by decide +kernel
theorem dX12_walk_129 : decode cX12_walk 129 = .ok (.if_icmp .ne 8, 3) := by decide +kernel
theorem dX12_walk_132 : decode cX12_walk 132 = .ok (.iload 6, 2) := by decide +kernel
theorem dX12_walk_134 : decode cX12_walk 134 = .ok (.goto 5, 3) := by decide +kernel
theorem dX12_walk_137 : decode cX12_walk 137 = .ok (.iload 7, 2) := by decide +kernel
theorem dX12_walk_139 : decode cX12_walk 139 = .ok (.istore 9, 2) := by decide +kernel
theorem dX12_walk_141 : decode cX12_walk 141 = .ok (.aload_n 0, 1) := by decide +kernel
theorem dX12_walk_142 : decode cX12_walk 142 = .ok (.iload_n 1, 1) := by decide +kernel
theorem dX12_walk_143 : decode cX12_walk 143 = .ok (.iload 8, 2) := by decide +kernel
theorem dX12_walk_145 : decode cX12_walk 145 = .ok (.invokevirtual 357, 3) := by decide +kernel
theorem dX12_walk_148 : decode cX12_walk 148 = .ok (.istore 10, 2) := by decide +kernel
theorem dX12_walk_150 : decode cX12_walk 150 = .ok (.iload_n 3, 1) := by decide +kernel
theorem dX12_walk_151 : decode cX12_walk 151 = .ok (.ifCond .ne 48, 3) := by decide +kernel
theorem dX12_walk_154 : decode cX12_walk 154 = .ok (.iload_n 1, 1) := by decide +kernel
theorem dX12_walk_155 : decode cX12_walk 155 = .ok (.aload_n 0, 1) := by decide +kernel
theorem dX12_walk_156 : decode cX12_walk 156 = .ok (.getfield 64, 3) := by decide +kernel
theorem dX12_walk_159 : decode cX12_walk 159 = .ok (.if_icmp .eq 40, 3) := by decide +kernel
theorem dX12_walk_162 : decode cX12_walk 162 = .ok (.iload 8, 2) := by decide +kernel
theorem dX12_walk_164 : decode cX12_walk 164 = .ok (.iload 9, 2) := by decide +kernel
theorem dX12_walk_166 : decode cX12_walk 166 = .ok (.if_icmp .eq 33, 3) := by decide +kernel
theorem dX12_walk_169 : decode cX12_walk 169 = .ok (.iload 10, 2) := by decide +kernel
theorem dX12_walk_171 : decode cX12_walk 171 = .ok (.iconst (-1), 1) := by decide +kernel
theorem dX12_walk_172 : decode cX12_walk 172 = .ok (.if_icmp .eq 27, 3) := by decide +kernel
theorem dX12_walk_175 : decode cX12_walk 175 = .ok (.aload_n 0, 1) := by decide +kernel
theorem dX12_walk_176 : decode cX12_walk 176 = .ok (.getfield 290, 3) := by decide +kernel
theorem dX12_walk_179 : decode cX12_walk 179 = .ok (.iload 8, 2) := by decide +kernel
theorem dX12_walk_181 : decode cX12_walk 181 = .ok (.invokestatic 240, 3) := by decide +kernel
theorem dX12_walk_184 : decode cX12_walk 184 = .ok (.ifCond .ne 15, 3) := by decide +kernel
theorem dX12_walk_187 : decode cX12_walk 187 = .ok (.aload_n 0, 1) := by decide +kernel
theorem dX12_walk_188 : decode cX12_walk 188 = .ok (.getfield 290, 3) := by decide +kernel
theorem dX12_walk_191 : decode cX12_walk 191 = .ok (.iload 9, 2) := by decide +kernel
theorem dX12_walk_193 : decode cX12_walk 193 = .ok (.invokestatic 240, 3) := by decide +kernel
theorem dX12_walk_196 : decode cX12_walk 196 = .ok (.ifCond .eq 5, 3) := by decide +kernel
theorem dX12_walk_199 : decode cX12_walk 199 = .ok (.iconst (-1), 1) := by decide +kernel
theorem dX12_walk_200 : decode cX12_walk 200 = .ok (.ireturn, 1) := by decide +kernel
theorem dX12_walk_201 : decode cX12_walk 201 = .ok (.aload_n 0, 1) := by decide +kernel
theorem dX12_walk_202 : decode cX12_walk 202 = .ok (.getfield 55, 3) := by decide +kernel
theorem dX12_walk_205 : decode cX12_walk 205 = .ok (.iload 10, 2) := by decide +kernel
theorem dX12_walk_207 : decode cX12_walk 207 = .ok (.iload 9, 2) := by decide +kernel
theorem dX12_walk_209 : decode cX12_walk 209 = .ok (.iastore, 1) := by decide +kernel
theorem dX12_walk_210 : decode cX12_walk 210 = .ok (.iload 10, 2) := by decide +kernel
theorem dX12_walk_212 : decode cX12_walk 212 = .ok (.ireturn, 1) := by decide +kernel
set_option maxRecDepth 100000 in
theorem u_X12_walk_55 {x : sm_Cx} {n : Nat} {F : Int32 → sm_MI → sm_ML → Prop} {T : List sm_Sh} {I : sm_MI} {L : sm_ML} {a1 : Int32} {a2 : Int32} {b3 : Bool} {a4 : Int32} {as0 : Int32} (hB : sm_Bs T) (hx : sm_Ok x mX12_walk (n + 1) (sm_KI T F))
    (h : (¬ a4 = 1 → sm_V x 0 0 T I L 79 [some (.ref 76), some (.int a1), some (.int a2), some (.int (sm_z b3)), some (.int a4), some (.int as0), none, none, none, none, none] [.int as0]) ∧ (a4 = 1 → sm_CZ n mX12_isFull T I L [.ref 76, .int a2] (fun r2 I1 L1 => (r2 = false → sm_V x 0 0 T I1 L1 79 [some (.ref 76), some (.int a1), some (.int a2), some (.int (sm_z b3)), some (.int a4), some (.int as0), none, none, none, none, none] [.int as0]) ∧ (r2 = true → sm_V x 0 0 T I1 L1 79 [some (.ref 76), some (.int a1), some (.int a2), some (.int (sm_z b3)), some (.int a4), some (.int as0), none, none, none, none, none] [.int (-as0)])))) :
    sm_V x 0 0 T I L 55 [some (.ref 76), some (.int a1), some (.int a2), some (.int (sm_z b3)), some (.int a4), none, none, none, none, none, none] [.int as0] :=
  sm_istore (ls' := [some (.ref 76), some (.int a1), some (.int a2), some (.int (sm_z b3)), some (.int a4), some (.int as0), none, none, none, none, none]) hx dX12_walk_55 (by decide) rfl (sm_iload (z := a4) hx dX12_walk_57 rfl (sm_iconst (v := 1) hx dX12_walk_59 sm_kc_1 (sm_icmpne (a := a4) (b := 1) hx dX12_walk_60 (tgt := 77) (by decide) (fun q2 => sm_iload (z := as0) hx dX12_walk_77 rfl ((h.1 q2))) (fun q2 => sm_aload_n (z := 76) hx dX12_walk_63 rfl (sm_iload_n (z := a2) hx dX12_walk_64 rfl (sm_callVZ (args := [.int a2]) (st := []) hx dX12_walk_65 lv_X12_334_12 rfl rfl (t_76 hB) rfl rfl (h.2 q2) (fun r2 I1 L1 hI1 => sm_ifeqZ (b := r2) hx dX12_walk_68 (tgt := 77) (by decide) (fun q1 => sm_iload (z := as0) hx dX12_walk_77 rfl ((hI1.1 q1))) (fun q1 => sm_iload (z := as0) hx dX12_walk_71 rfl (sm_ineg (a := as0) hx dX12_walk_73 (sm_goto hx dX12_walk_74 (tgt := 79) (by decide) ((hI1.2 q1))))))))))))
set_option maxRecDepth 100000 in
theorem u_X12_walk_79 {x : sm_Cx} {n : Nat} {F : Int32 → sm_MI → sm_ML → Prop} {T : List sm_Sh} {I : sm_MI} {L : sm_ML} {a1 : Int32} {a2 : Int32} {b3 : Bool} {a4 : Int32} {a5 : Int32} {as0 : Int32} (hB : sm_Bs T) (hx : sm_Ok x mX12_walk (n + 1) (sm_KI T F))
    (h : vp_in a1 5 ∧ (sm_CI n mX12_of T (sm_uI I 94 (Int32.toNatClampNeg (a1)) as0) L [.ref 76, .int a1, .int 0] (fun r2 I1 L1 => sm_CI n mJ9_floorMod_7cf53 T I1 L1 [.int (r2 + as0), .int (I1 76 26)] (fun r4 I3 L3 => (¬ a4 = 4 → (¬ a4 = 4 → sm_V x 0 0 T I3 L3 139 [some (.ref 76), some (.int a1), some (.int a2), some (.int (sm_z b3)), some (.int a4), some (.int as0), some (.int r2), some (.int r4), some (.int r2), none, none] [.int r4]) ∧ (a4 = 4 → sm_V x 0 0 T I3 L3 139 [some (.ref 76), some (.int a1), some (.int a2), some (.int (sm_z b3)), some (.int a4), some (.int as0), some (.int r2), some (.int r4), some (.int r2), none, none] [.int r2])) ∧ (a4 = 4 → (¬ a4 = 4 → sm_V x 0 0 T I3 L3 139 [some (.ref 76), some (.int a1), some (.int a2), some (.int (sm_z b3)), some (.int a4), some (.int as0), some (.int r2), some (.int r4), some (.int r4), none, none] [.int r4]) ∧ (a4 = 4 → sm_V x 0 0 T I3 L3 139 [some (.ref 76), some (.int a1), some (.int a2), some (.int (sm_z b3)), some (.int a4), some (.int as0), some (.int r2), some (.int r4), some (.int r4), none, none] [.int r2])))))) :
    sm_V x 0 0 T I L 79 [some (.ref 76), some (.int a1), some (.int a2), some (.int (sm_z b3)), some (.int a4), some (.int a5), none, none, none, none, none] [.int as0] :=
  sm_istore (ls' := [some (.ref 76), some (.int a1), some (.int a2), some (.int (sm_z b3)), some (.int a4), some (.int as0), none, none, none, none, none]) hx dX12_walk_79 (by decide) rfl (sm_aload_n (z := 76) hx dX12_walk_81 rfl (sm_getR hx dX12_walk_82 fl_X12_61_12 (t_76 hB) rfl (sm_iload_n (z := a1) hx dX12_walk_85 rfl (sm_iload (z := as0) hx dX12_walk_86 rfl (sm_iast (i := a1) (v := as0) hx dX12_walk_88 (t_94 hB) h.1 (sm_aload_n (z := 76) hx dX12_walk_89 rfl (sm_iload_n (z := a1) hx dX12_walk_90 rfl (sm_iconst (v := 0) hx dX12_walk_91 sm_kc_0 (sm_callVI (args := [.int a1, .int 0]) (st := []) hx dX12_walk_92 lv_X12_315_12 rfl rfl (t_76 hB) rfl rfl h.2 (fun r2 I1 L1 hI1 => sm_istore (ls' := [some (.ref 76), some (.int a1), some (.int a2), some (.int (sm_z b3)), some (.int a4), some (.int as0), some (.int r2), none, none, none, none]) hx dX12_walk_95 (by decide) rfl (sm_iload (z := r2) hx dX12_walk_97 rfl (sm_iload (z := as0) hx dX12_walk_99 rfl (sm_iadd (a := r2) (b := as0) hx dX12_walk_101 (sm_aload_n (z := 76) hx dX12_walk_102 rfl (sm_getI hx dX12_walk_103 fl_X12_275_12 (t_76 hB) rfl (sm_callSI (args := [.int (r2 + as0), .int (I1 76 26)]) (st := []) hx dX12_walk_106 ls_X12_354 rfl rfl rfl hI1 (fun r4 I3 L3 hI3 => sm_istore (ls' := [some (.ref 76), some (.int a1), some (.int a2), some (.int (sm_z b3)), some (.int a4), some (.int as0), some (.int r2), some (.int r4), none, none, none]) hx dX12_walk_109 (by decide) rfl (sm_iload (z := a4) hx dX12_walk_111 rfl (sm_iconst (v := 4) hx dX12_walk_113 sm_kc_4 (sm_icmpne (a := a4) (b := 4) hx dX12_walk_114 (tgt := 122) (by decide) (fun q5 => sm_iload (z := r2) hx dX12_walk_122 rfl (sm_istore (ls' := [some (.ref 76), some (.int a1), some (.int a2), some (.int (sm_z b3)), some (.int a4), some (.int as0), some (.int r2), some (.int r4), some (.int r2), none, none]) hx dX12_walk_124 (by decide) rfl (sm_iload (z := a4) hx dX12_walk_126 rfl (sm_iconst (v := 4) hx dX12_walk_128 sm_kc_4 (sm_icmpne (a := a4) (b := 4) hx dX12_walk_129 (tgt := 137) (by decide) (fun q3 => sm_iload (z := r4) hx dX12_walk_137 rfl (((hI3.1 q5).1 q3))) (fun q3 => sm_iload (z := r2) hx dX12_walk_132 rfl (sm_goto hx dX12_walk_134 (tgt := 139) (by decide) (((hI3.1 q5).2 q3))))))))) (fun q5 => sm_iload (z := r4) hx dX12_walk_117 rfl (sm_goto hx dX12_walk_119 (tgt := 124) (by decide) (sm_istore (ls' := [some (.ref 76), some (.int a1), some (.int a2), some (.int (sm_z b3)), some (.int a4), some (.int as0), some (.int r2), some (.int r4), some (.int r4), none, none]) hx dX12_walk_124 (by decide) rfl (sm_iload (z := a4) hx dX12_walk_126 rfl (sm_iconst (v := 4) hx dX12_walk_128 sm_kc_4 (sm_icmpne (a := a4) (b := 4) hx dX12_walk_129 (tgt := 137) (by decide) (fun q4 => sm_iload (z := r4) hx dX12_walk_137 rfl (((hI3.2 q5).1 q4))) (fun q4 => sm_iload (z := r2) hx dX12_walk_132 rfl (sm_goto hx dX12_walk_134 (tgt := 139) (by decide) (((hI3.2 q5).2 q4))))))))))))))))))))))))))))))
set_option maxRecDepth 100000 in
theorem u_X12_walk_139 {x : sm_Cx} {n : Nat} {F : Int32 → sm_MI → sm_ML → Prop} {T : List sm_Sh} {I : sm_MI} {L : sm_ML} {a1 : Int32} {a2 : Int32} {b3 : Bool} {a4 : Int32} {a5 : Int32} {a6 : Int32} {a7 : Int32} {a8 : Int32} {as0 : Int32} (hB : sm_Bs T) (hx : sm_Ok x mX12_walk (n + 1) (sm_KI T F))
    (h : sm_CI n mX12_takenFrom T I L [.ref 76, .int a1, .int a8] (fun r2 I1 L1 => (b3 = true → F (-1) I1 L1) ∧ (b3 = false → (a1 = (I1 76 39) → F (-1) I1 L1) ∧ (¬ a1 = (I1 76 39) → (a8 = as0 → F (-1) I1 L1) ∧ (¬ a8 = as0 → (r2 = (-1) → F (-1) I1 L1) ∧ (¬ r2 = (-1) → sm_CZ n mX12_has T I1 L1 [.int (I1 76 33), .int a8] (fun r4 I3 L3 => (r4 = true → F (-1) I3 L3) ∧ (r4 = false → sm_CZ n mX12_has T I3 L3 [.int (I3 76 33), .int as0] (fun r6 I5 L5 => (r6 = false → vp_in r2 8 ∧ (F r2 (sm_uI I5 92 (Int32.toNatClampNeg (r2)) as0) L5)) ∧ (r6 = true → F (-1) I5 L5)))))))))) :
    sm_V x 0 0 T I L 139 [some (.ref 76), some (.int a1), some (.int a2), some (.int (sm_z b3)), some (.int a4), some (.int a5), some (.int a6), some (.int a7), some (.int a8), none, none] [.int as0] :=
  sm_istore (ls' := [some (.ref 76), some (.int a1), some (.int a2), some (.int (sm_z b3)), some (.int a4), some (.int a5), some (.int a6), some (.int a7), some (.int a8), some (.int as0), none]) hx dX12_walk_139 (by decide) rfl (sm_aload_n (z := 76) hx dX12_walk_141 rfl (sm_iload_n (z := a1) hx dX12_walk_142 rfl (sm_iload (z := a8) hx dX12_walk_143 rfl (sm_callVI (args := [.int a1, .int a8]) (st := []) hx dX12_walk_145 lv_X12_357_12 rfl rfl (t_76 hB) rfl rfl h (fun r2 I1 L1 hI1 => sm_istore (ls' := [some (.ref 76), some (.int a1), some (.int a2), some (.int (sm_z b3)), some (.int a4), some (.int a5), some (.int a6), some (.int a7), some (.int a8), some (.int as0), some (.int r2)]) hx dX12_walk_148 (by decide) rfl (sm_iload_n (z := (sm_z b3)) hx dX12_walk_150 rfl (sm_ifneZ (b := b3) hx dX12_walk_151 (tgt := 199) (by decide) (fun q11 => sm_iconst (v := (-1)) hx dX12_walk_199 sm_kc_m1 (sm_iretI hx dX12_walk_200 rfl (hI1.1 q11))) (fun q11 => sm_iload_n (z := a1) hx dX12_walk_154 rfl (sm_aload_n (z := 76) hx dX12_walk_155 rfl (sm_getI hx dX12_walk_156 fl_X12_64_12 (t_76 hB) rfl (sm_icmpeq (a := a1) (b := (I1 76 39)) hx dX12_walk_159 (tgt := 199) (by decide) (fun q10 => sm_iconst (v := (-1)) hx dX12_walk_199 sm_kc_m1 (sm_iretI hx dX12_walk_200 rfl ((hI1.2 q11).1 q10))) (fun q10 => sm_iload (z := a8) hx dX12_walk_162 rfl (sm_iload (z := as0) hx dX12_walk_164 rfl (sm_icmpeq (a := a8) (b := as0) hx dX12_walk_166 (tgt := 199) (by decide) (fun q9 => sm_iconst (v := (-1)) hx dX12_walk_199 sm_kc_m1 (sm_iretI hx dX12_walk_200 rfl (((hI1.2 q11).2 q10).1 q9))) (fun q9 => sm_iload (z := r2) hx dX12_walk_169 rfl (sm_iconst (v := (-1)) hx dX12_walk_171 sm_kc_m1 (sm_icmpeq (a := r2) (b := (-1)) hx dX12_walk_172 (tgt := 199) (by decide) (fun q8 => sm_iconst (v := (-1)) hx dX12_walk_199 sm_kc_m1 (sm_iretI hx dX12_walk_200 rfl ((((hI1.2 q11).2 q10).2 q9).1 q8))) (fun q8 => sm_aload_n (z := 76) hx dX12_walk_175 rfl (sm_getI hx dX12_walk_176 fl_X12_290_12 (t_76 hB) rfl (sm_iload (z := a8) hx dX12_walk_179 rfl (sm_callSZ (args := [.int (I1 76 33), .int a8]) (st := []) hx dX12_walk_181 ls_X12_240 rfl rfl rfl ((((hI1.2 q11).2 q10).2 q9).2 q8) (fun r4 I3 L3 hI3 => sm_ifneZ (b := r4) hx dX12_walk_184 (tgt := 199) (by decide) (fun q7 => sm_iconst (v := (-1)) hx dX12_walk_199 sm_kc_m1 (sm_iretI hx dX12_walk_200 rfl (hI3.1 q7))) (fun q7 => sm_aload_n (z := 76) hx dX12_walk_187 rfl (sm_getI hx dX12_walk_188 fl_X12_290_12 (t_76 hB) rfl (sm_iload (z := as0) hx dX12_walk_191 rfl (sm_callSZ (args := [.int (I3 76 33), .int as0]) (st := []) hx dX12_walk_193 ls_X12_240 rfl rfl rfl (hI3.2 q7) (fun r6 I5 L5 hI5 => sm_ifeqZ (b := r6) hx dX12_walk_196 (tgt := 201) (by decide) (fun q6 => sm_aload_n (z := 76) hx dX12_walk_201 rfl (sm_getR hx dX12_walk_202 fl_X12_55_12 (t_76 hB) rfl (sm_iload (z := r2) hx dX12_walk_205 rfl (sm_iload (z := as0) hx dX12_walk_207 rfl (sm_iast (i := r2) (v := as0) hx dX12_walk_209 (t_92 hB) (hI5.1 q6).1 (sm_iload (z := r2) hx dX12_walk_210 rfl (sm_iretI hx dX12_walk_212 rfl (hI5.1 q6).2))))))) (fun q6 => sm_iconst (v := (-1)) hx dX12_walk_199 sm_kc_m1 (sm_iretI hx dX12_walk_200 rfl (hI5.2 q6))))))))))))))))))))))))))))))
set_option maxRecDepth 100000 in
theorem c_X12_walk {n : Nat} {F : Int32 → sm_MI → sm_ML → Prop} {T : List sm_Sh} {I : sm_MI} {L : sm_ML} {a1 : Int32} {a2 : Int32} {b3 : Bool} (hB : sm_Bs T)
    (h : ∀ x : sm_Cx, sm_Ok x mX12_walk (n + 1) (sm_KI T F) → sm_CI n mX12_of T I L [.ref 76, .int a1, .int 2] (fun r2 I1 L1 => (¬ a1 = (I1 76 39) → (¬ r2 = 2 → (b3 = false → sm_CI n mX12_ownStride T I1 L1 [.ref 76, .int a1, .int a2] (fun r4 I3 L3 => sm_V x 0 0 T I3 L3 55 [some (.ref 76), some (.int a1), some (.int a2), some (.int (sm_z b3)), some (.int r2), none, none, none, none, none, none] [.int r4])) ∧ (b3 = true → sm_V x 0 0 T I1 L1 55 [some (.ref 76), some (.int a1), some (.int a2), some (.int (sm_z b3)), some (.int r2), none, none, none, none, none, none] [.int 0])) ∧ (r2 = 2 → (a1 ≤ 0 → (b3 = false → sm_CI n mX12_ownStride T I1 L1 [.ref 76, .int a1, .int a2] (fun r6 I5 L5 => sm_V x 0 0 T I5 L5 55 [some (.ref 76), some (.int a1), some (.int a2), some (.int (sm_z b3)), some (.int r2), none, none, none, none, none, none] [.int r6])) ∧ (b3 = true → sm_V x 0 0 T I1 L1 55 [some (.ref 76), some (.int a1), some (.int a2), some (.int (sm_z b3)), some (.int r2), none, none, none, none, none, none] [.int 0])) ∧ (¬ a1 ≤ 0 → vp_in (a1 - 1) 5 ∧ (sm_V x 0 0 T I1 L1 55 [some (.ref 76), some (.int a1), some (.int a2), some (.int (sm_z b3)), some (.int r2), none, none, none, none, none, none] [.int (I1 94 (Int32.toNatClampNeg ((a1 - 1))))])))) ∧ (a1 = (I1 76 39) → sm_V x 0 0 T I1 L1 55 [some (.ref 76), some (.int a1), some (.int a2), some (.int (sm_z b3)), some (.int r2), none, none, none, none, none, none] [.int 0]))) :
    sm_CI (n + 1) mX12_walk T I L [.ref 76, .int a1, .int a2, .int (sm_z b3)] F :=
  sm_CI.of (by decide +kernel) rfl (fun x hx => show sm_V x 0 0 T I L 0 [some (.ref 76), some (.int a1), some (.int a2), some (.int (sm_z b3)), none, none, none, none, none, none, none] [] from
  sm_aload_n (z := 76) hx dX12_walk_0 rfl (sm_iload_n (z := a1) hx dX12_walk_1 rfl (sm_iconst (v := 2) hx dX12_walk_2 sm_kc_2 (sm_callVI (args := [.int a1, .int 2]) (st := []) hx dX12_walk_3 lv_X12_315_12 rfl rfl (t_76 hB) rfl rfl (h x hx) (fun r2 I1 L1 hI1 => sm_istore (ls' := [some (.ref 76), some (.int a1), some (.int a2), some (.int (sm_z b3)), some (.int r2), none, none, none, none, none, none]) hx dX12_walk_6 (by decide) rfl (sm_iload_n (z := a1) hx dX12_walk_8 rfl (sm_aload_n (z := 76) hx dX12_walk_9 rfl (sm_getI hx dX12_walk_10 fl_X12_64_12 (t_76 hB) rfl (sm_icmpne (a := a1) (b := (I1 76 39)) hx dX12_walk_13 (tgt := 20) (by decide) (fun q16 => sm_iload (z := r2) hx dX12_walk_20 rfl (sm_iconst (v := 2) hx dX12_walk_22 sm_kc_2 (sm_icmpne (a := r2) (b := 2) hx dX12_walk_23 (tgt := 41) (by decide) (fun q15 => sm_iload_n (z := (sm_z b3)) hx dX12_walk_41 rfl (sm_ifeqZ (b := b3) hx dX12_walk_42 (tgt := 49) (by decide) (fun q12 => sm_aload_n (z := 76) hx dX12_walk_49 rfl (sm_iload_n (z := a1) hx dX12_walk_50 rfl (sm_iload_n (z := a2) hx dX12_walk_51 rfl (sm_callVI (args := [.int a1, .int a2]) (st := []) hx dX12_walk_52 lv_X12_351_12 rfl rfl (t_76 hB) rfl rfl (((hI1.1 q16).1 q15).1 q12) (fun r4 I3 L3 hI3 => hI3))))) (fun q12 => sm_iconst (v := 0) hx dX12_walk_45 sm_kc_0 (sm_goto hx dX12_walk_46 (tgt := 55) (by decide) ((((hI1.1 q16).1 q15).2 q12)))))) (fun q15 => sm_iload_n (z := a1) hx dX12_walk_26 rfl (sm_ifle (a := a1) hx dX12_walk_27 (tgt := 41) (by decide) (fun q14 => sm_iload_n (z := (sm_z b3)) hx dX12_walk_41 rfl (sm_ifeqZ (b := b3) hx dX12_walk_42 (tgt := 49) (by decide) (fun q13 => sm_aload_n (z := 76) hx dX12_walk_49 rfl (sm_iload_n (z := a1) hx dX12_walk_50 rfl (sm_iload_n (z := a2) hx dX12_walk_51 rfl (sm_callVI (args := [.int a1, .int a2]) (st := []) hx dX12_walk_52 lv_X12_351_12 rfl rfl (t_76 hB) rfl rfl ((((hI1.1 q16).2 q15).1 q14).1 q13) (fun r6 I5 L5 hI5 => hI5))))) (fun q13 => sm_iconst (v := 0) hx dX12_walk_45 sm_kc_0 (sm_goto hx dX12_walk_46 (tgt := 55) (by decide) (((((hI1.1 q16).2 q15).1 q14).2 q13)))))) (fun q14 => sm_aload_n (z := 76) hx dX12_walk_30 rfl (sm_getR hx dX12_walk_31 fl_X12_61_12 (t_76 hB) rfl (sm_iload_n (z := a1) hx dX12_walk_34 rfl (sm_iconst (v := 1) hx dX12_walk_35 sm_kc_1 (sm_isub (a := a1) (b := 1) hx dX12_walk_36 (sm_iald (i := (a1 - 1)) hx dX12_walk_37 (t_94 hB) (((hI1.1 q16).2 q15).2 q14).1 (sm_goto hx dX12_walk_38 (tgt := 55) (by decide) ((((hI1.1 q16).2 q15).2 q14).2))))))))))))) (fun q16 => sm_iconst (v := 0) hx dX12_walk_16 sm_kc_0 (sm_goto hx dX12_walk_17 (tgt := 55) (by decide) ((hI1.2 q16)))))))))))))
theorem dX12_draw_0 : decode cX12_draw 0 = .ok (.aload_n 0, 1) := by decide +kernel
theorem dX12_draw_1 : decode cX12_draw 1 = .ok (.aload_n 0, 1) := by decide +kernel
theorem dX12_draw_2 : decode cX12_draw 2 = .ok (.getfield 330, 3) := by decide +kernel
theorem dX12_draw_5 : decode cX12_draw 5 = .ok (.ldc2_w 360, 3) := by decide +kernel
theorem dX12_draw_8 : decode cX12_draw 8 = .ok (.lmul, 1) := by decide +kernel
theorem dX12_draw_9 : decode cX12_draw 9 = .ok (.ldc2_w 362, 3) := by decide +kernel
theorem dX12_draw_12 : decode cX12_draw 12 = .ok (.ladd, 1) := by decide +kernel
theorem dX12_draw_13 : decode cX12_draw 13 = .ok (.putfield 330, 3) := by decide +kernel
theorem dX12_draw_16 : decode cX12_draw 16 = .ok (.aload_n 0, 1) := by decide +kernel
theorem dX12_draw_17 : decode cX12_draw 17 = .ok (.getfield 330, 3) := by decide +kernel
theorem dX12_draw_20 : decode cX12_draw 20 = .ok (.bipush 33, 2) := by decide +kernel
theorem dX12_draw_22 : decode cX12_draw 22 = .ok (.lushr, 1) := by decide +kernel
theorem dX12_draw_23 : decode cX12_draw 23 = .ok (.ldc2_w 364, 3) := by decide +kernel
theorem dX12_draw_26 : decode cX12_draw 26 = .ok (.lrem, 1) := by decide +kernel
theorem dX12_draw_27 : decode cX12_draw 27 = .ok (.l2i, 1) := by decide +kernel
theorem dX12_draw_28 : decode cX12_draw 28 = .ok (.ireturn, 1) := by decide +kernel
set_option maxRecDepth 100000 in
theorem c_X12_draw {n : Nat} {F : Int32 → sm_MI → sm_ML → Prop} {T : List sm_Sh} {I : sm_MI} {L : sm_ML}  (hB : sm_Bs T)
    (h : F (Int64.toInt32 ((Int64.toUInt64 ((sm_uL L 76 36 (((L 76 36) * 6364136223846793005) + 1442695040888963407)) 76 36) >>> ((Int32.toInt64 33).toUInt64 &&& Int64.toUInt64 63)).toInt64 - (Int64.toUInt64 ((sm_uL L 76 36 (((L 76 36) * 6364136223846793005) + 1442695040888963407)) 76 36) >>> ((Int32.toInt64 33).toUInt64 &&& Int64.toUInt64 63)).toInt64 / 100 * 100)) I (sm_uL L 76 36 (((L 76 36) * 6364136223846793005) + 1442695040888963407))) :
    sm_CI n mX12_draw T I L [.ref 76] F :=
  sm_CI.of (by decide +kernel) rfl (fun x hx => show sm_V x 0 0 T I L 0 [some (.ref 76)] [] from
  sm_aload_n (z := 76) hx dX12_draw_0 rfl (sm_aload_n (z := 76) hx dX12_draw_1 rfl (sm_getL hx dX12_draw_2 fl_X12_330_12 (t_76 hB) rfl (sm_ldc2 (v := 6364136223846793005) hx dX12_draw_5 k_X12_360 (sm_lmul (a := (L 76 36)) (b := 6364136223846793005) hx dX12_draw_8 (sm_ldc2 (v := 1442695040888963407) hx dX12_draw_9 k_X12_362 (sm_ladd (a := ((L 76 36) * 6364136223846793005)) (b := 1442695040888963407) hx dX12_draw_12 (sm_putL hx dX12_draw_13 fl_X12_330_12 (t_76 hB) rfl (sm_aload_n (z := 76) hx dX12_draw_16 rfl (sm_getL hx dX12_draw_17 fl_X12_330_12 (t_76 hB) rfl (sm_bipush (v := 33) hx dX12_draw_20 sm_kb_33 (sm_lushr (a := ((sm_uL L 76 36 (((L 76 36) * 6364136223846793005) + 1442695040888963407)) 76 36)) (b := 33) hx dX12_draw_22 (sm_ldc2 (v := 100) hx dX12_draw_23 k_X12_364 (sm_lrem (a := (Int64.toUInt64 ((sm_uL L 76 36 (((L 76 36) * 6364136223846793005) + 1442695040888963407)) 76 36) >>> ((Int32.toInt64 33).toUInt64 &&& Int64.toUInt64 63)).toInt64) (b := 100) hx dX12_draw_26 (by decide) (sm_l2i (a := ((Int64.toUInt64 ((sm_uL L 76 36 (((L 76 36) * 6364136223846793005) + 1442695040888963407)) 76 36) >>> ((Int32.toInt64 33).toUInt64 &&& Int64.toUInt64 63)).toInt64 - (Int64.toUInt64 ((sm_uL L 76 36 (((L 76 36) * 6364136223846793005) + 1442695040888963407)) 76 36) >>> ((Int32.toInt64 33).toUInt64 &&& Int64.toUInt64 63)).toInt64 / 100 * 100)) hx dX12_draw_27 (sm_iretI hx dX12_draw_28 rfl h))))))))))))))))
theorem dX12_keep_0 : decode cX12_keep 0 = .ok (.aload_n 0, 1) := by decide +kernel
theorem dX12_keep_1 : decode cX12_keep 1 = .ok (.getfield 296, 3) := by decide +kernel
theorem dX12_keep_4 : decode cX12_keep 4 = .ok (.bipush 60, 2) := by decide +kernel
theorem dX12_keep_6 : decode cX12_keep 6 = .ok (.if_icmp .ne 72, 3) := by decide +kernel
theorem dX12_keep_9 : decode cX12_keep 9 = .ok (.bipush 8, 2) := by decide +kernel
theorem dX12_keep_11 : decode cX12_keep 11 = .ok (.istore_n 1, 1) := by decide +kernel
theorem dX12_keep_12 : decode cX12_keep 12 = .ok (.iload_n 1, 1) := by decide +kernel
theorem dX12_keep_13 : decode cX12_keep 13 = .ok (.sipush 480, 3) := by decide +kernel
theorem dX12_keep_16 : decode cX12_keep 16 = .ok (.if_icmp .ge 24, 3) := by decide +kernel
theorem dX12_keep_19 : decode cX12_keep 19 = .ok (.aload_n 0, 1) := by decide +kernel
theorem dX12_keep_20 : decode cX12_keep 20 = .ok (.getfield 68, 3) := by decide +kernel
theorem dX12_keep_23 : decode cX12_keep 23 = .ok (.iload_n 1, 1) := by decide +kernel
theorem dX12_keep_24 : decode cX12_keep 24 = .ok (.bipush 8, 2) := by decide +kernel
theorem dX12_keep_26 : decode cX12_keep 26 = .ok (.isub, 1) := by decide +kernel
theorem dX12_keep_27 : decode cX12_keep 27 = .ok (.aload_n 0, 1) := by decide +kernel
theorem dX12_keep_28 : decode cX12_keep 28 = .ok (.getfield 68, 3) := by decide +kernel
theorem dX12_keep_31 : decode cX12_keep 31 = .ok (.iload_n 1, 1) := by decide +kernel
theorem dX12_keep_32 : decode cX12_keep 32 = .ok (.iaload, 1) := by decide +kernel
theorem dX12_keep_33 : decode cX12_keep 33 = .ok (.iastore, 1) := by decide +kernel
theorem dX12_keep_34 : decode cX12_keep 34 = .ok (.iinc 1 1, 3) := by decide +kernel
theorem dX12_keep_37 : decode cX12_keep 37 = .ok (.goto (-25), 3) := by decide +kernel
theorem dX12_keep_40 : decode cX12_keep 40 = .ok (.iconst 1, 1) := by decide +kernel
theorem dX12_keep_41 : decode cX12_keep 41 = .ok (.istore_n 1, 1) := by decide +kernel
theorem dX12_keep_42 : decode cX12_keep 42 = .ok (.iload_n 1, 1) := by decide +kernel
theorem dX12_keep_43 : decode cX12_keep 43 = .ok (.bipush 60, 2) := by decide +kernel
theorem dX12_keep_45 : decode cX12_keep 45 = .ok (.if_icmp .ge 23, 3) := by decide +kernel
theorem dX12_keep_48 : decode cX12_keep 48 = .ok (.aload_n 0, 1) := by decide +kernel
theorem dX12_keep_49 : decode cX12_keep 49 = .ok (.getfield 71, 3) := by decide +kernel
theorem dX12_keep_52 : decode cX12_keep 52 = .ok (.iload_n 1, 1) := by decide +kernel
theorem dX12_keep_53 : decode cX12_keep 53 = .ok (.iconst 1, 1) := by decide +kernel
theorem dX12_keep_54 : decode cX12_keep 54 = .ok (.isub, 1) := by decide +kernel
theorem dX12_keep_55 : decode cX12_keep 55 = .ok (.aload_n 0, 1) := by decide +kernel
theorem dX12_keep_56 : decode cX12_keep 56 = .ok (.getfield 71, 3) := by decide +kernel
theorem dX12_keep_59 : decode cX12_keep 59 = .ok (.iload_n 1, 1) := by decide +kernel
theorem dX12_keep_60 : decode cX12_keep 60 = .ok (.laload, 1) := by decide +kernel
theorem dX12_keep_61 : decode cX12_keep 61 = .ok (.lastore, 1) := by decide +kernel
theorem dX12_keep_62 : decode cX12_keep 62 = .ok (.iinc 1 1, 3) := by decide +kernel
theorem dX12_keep_65 : decode cX12_keep 65 = .ok (.goto (-23), 3) := by decide +kernel
theorem dX12_keep_68 : decode cX12_keep 68 = .ok (.aload_n 0, 1) := by decide +kernel
theorem dX12_keep_69 : decode cX12_keep 69 = .ok (.dup, 1) := by decide +kernel
theorem dX12_keep_70 : decode cX12_keep 70 = .ok (.getfield 296, 3) := by decide +kernel
theorem dX12_keep_73 : decode cX12_keep 73 = .ok (.iconst 1, 1) := by decide +kernel
theorem dX12_keep_74 : decode cX12_keep 74 = .ok (.isub, 1) := by decide +kernel
theorem dX12_keep_75 : decode cX12_keep 75 = .ok (.putfield 296, 3) := by decide +kernel
theorem dX12_keep_78 : decode cX12_keep 78 = .ok (.iconst 0, 1) := by decide +kernel
theorem dX12_keep_79 : decode cX12_keep 79 = .ok (.istore_n 1, 1) := by decide +kernel
theorem dX12_keep_80 : decode cX12_keep 80 = .ok (.iload_n 1, 1) := by decide +kernel
theorem dX12_keep_81 : decode cX12_keep 81 = .ok (.bipush 8, 2) := by decide +kernel
theorem dX12_keep_83 : decode cX12_keep 83 = .ok (.if_icmp .ge 29, 3) := by decide +kernel
theorem dX12_keep_86 : decode cX12_keep 86 = .ok (.aload_n 0, 1) := by decide +kernel
theorem dX12_keep_87 : decode cX12_keep 87 = .ok (.getfield 68, 3) := by decide +kernel
theorem dX12_keep_90 : decode cX12_keep 90 = .ok (.bipush 8, 2) := by decide +kernel
theorem dX12_keep_92 : decode cX12_keep 92 = .ok (.aload_n 0, 1) := by decide +kernel
theorem dX12_keep_93 : decode cX12_keep 93 = .ok (.getfield 296, 3) := by decide +kernel
theorem dX12_keep_96 : decode cX12_keep 96 = .ok (.imul, 1) := by decide +kernel
theorem dX12_keep_97 : decode cX12_keep 97 = .ok (.iload_n 1, 1) := by decide +kernel
theorem dX12_keep_98 : decode cX12_keep 98 = .ok (.iadd, 1) := by decide +kernel
theorem dX12_keep_99 : decode cX12_keep 99 = .ok (.aload_n 0, 1) := by decide +kernel
theorem dX12_keep_100 : decode cX12_keep 100 = .ok (.getfield 55, 3) := by decide +kernel
theorem dX12_keep_103 : decode cX12_keep 103 = .ok (.iload_n 1, 1) := by decide +kernel
theorem dX12_keep_104 : decode cX12_keep 104 = .ok (.iaload, 1) := by decide +kernel
theorem dX12_keep_105 : decode cX12_keep 105 = .ok (.iastore, 1) := by decide +kernel
theorem dX12_keep_106 : decode cX12_keep 106 = .ok (.iinc 1 1, 3) := by decide +kernel
theorem dX12_keep_109 : decode cX12_keep 109 = .ok (.goto (-29), 3) := by decide +kernel
theorem dX12_keep_112 : decode cX12_keep 112 = .ok (.aload_n 0, 1) := by decide +kernel
theorem dX12_keep_113 : decode cX12_keep 113 = .ok (.getfield 71, 3) := by decide +kernel
theorem dX12_keep_116 : decode cX12_keep 116 = .ok (.aload_n 0, 1) := by decide +kernel
theorem dX12_keep_117 : decode cX12_keep 117 = .ok (.getfield 296, 3) := by decide +kernel
theorem dX12_keep_120 : decode cX12_keep 120 = .ok (.aload_n 0, 1) := by decide +kernel
theorem dX12_keep_121 : decode cX12_keep 121 = .ok (.getfield 330, 3) := by decide +kernel
theorem dX12_keep_124 : decode cX12_keep 124 = .ok (.lastore, 1) := by decide +kernel
theorem dX12_keep_125 : decode cX12_keep 125 = .ok (.aload_n 0, 1) := by decide +kernel
theorem dX12_keep_126 : decode cX12_keep 126 = .ok (.dup, 1) := by decide +kernel
theorem dX12_keep_127 : decode cX12_keep 127 = .ok (.getfield 296, 3) := by decide +kernel
theorem dX12_keep_130 : decode cX12_keep 130 = .ok (.iconst 1, 1) := by decide +kernel
theorem dX12_keep_131 : decode cX12_keep 131 = .ok (.iadd, 1) := by decide +kernel
theorem dX12_keep_132 : decode cX12_keep 132 = .ok (.putfield 296, 3) := by decide +kernel
theorem dX12_keep_135 : decode cX12_keep 135 = .ok (.return_, 1) := by decide +kernel
set_option maxRecDepth 100000 in
theorem u_X12_keep_12 {x : sm_Cx} {n : Nat} {F : sm_MI → sm_ML → Prop} {T : List sm_Sh} {I : sm_MI} {L : sm_ML} {a1 : Int32} (hB : sm_Bs T) (hx : sm_Ok x mX12_keep n (sm_KV T F))
    (h : (480 ≤ a1 → sm_V x 0 0 T I L 42 [some (.ref 76), some (.int 1)] []) ∧ (¬ 480 ≤ a1 → vp_in a1 480 ∧ (vp_in (a1 - 8) 480 ∧ (sm_V x 0 0 T (sm_uI I 95 (Int32.toNatClampNeg ((a1 - 8))) (I 95 (Int32.toNatClampNeg (a1)))) L 12 [some (.ref 76), some (.int (a1 + 1))] [])))) :
    sm_V x 0 0 T I L 12 [some (.ref 76), some (.int a1)] [] :=
  sm_iload_n (z := a1) hx dX12_keep_12 rfl (sm_sipush (v := 480) hx dX12_keep_13 sm_ks_480 (sm_icmpge (a := a1) (b := 480) hx dX12_keep_16 (tgt := 40) (by decide) (fun q1 => sm_iconst (v := 1) hx dX12_keep_40 sm_kc_1 (sm_istore_n (ls' := [some (.ref 76), some (.int 1)]) hx dX12_keep_41 (by decide) rfl ((h.1 q1)))) (fun q1 => sm_aload_n (z := 76) hx dX12_keep_19 rfl (sm_getR hx dX12_keep_20 fl_X12_68_12 (t_76 hB) rfl (sm_iload_n (z := a1) hx dX12_keep_23 rfl (sm_bipush (v := 8) hx dX12_keep_24 sm_kb_8 (sm_isub (a := a1) (b := 8) hx dX12_keep_26 (sm_aload_n (z := 76) hx dX12_keep_27 rfl (sm_getR hx dX12_keep_28 fl_X12_68_12 (t_76 hB) rfl (sm_iload_n (z := a1) hx dX12_keep_31 rfl (sm_iald (i := a1) hx dX12_keep_32 (t_95 hB) (h.2 q1).1 (sm_iast (i := (a1 - 8)) (v := (I 95 (Int32.toNatClampNeg (a1)))) hx dX12_keep_33 (t_95 hB) (h.2 q1).2.1 (sm_iinc (ls' := [some (.ref 76), some (.int (a1 + 1))]) (z := a1) (v := (a1 + 1)) hx dX12_keep_34 rfl (sm_kii_1 _) (by decide) rfl (sm_goto hx dX12_keep_37 (tgt := 12) (by decide) ((h.2 q1).2.2)))))))))))))))
set_option maxRecDepth 100000 in
theorem u_X12_keep_42 {x : sm_Cx} {n : Nat} {F : sm_MI → sm_ML → Prop} {T : List sm_Sh} {I : sm_MI} {L : sm_ML} {a1 : Int32} (hB : sm_Bs T) (hx : sm_Ok x mX12_keep n (sm_KV T F))
    (h : (60 ≤ a1 → sm_V x 0 0 T (sm_uI I 76 42 ((I 76 42) - 1)) L 80 [some (.ref 76), some (.int 0)] []) ∧ (¬ 60 ≤ a1 → vp_in a1 60 ∧ (vp_in (a1 - 1) 60 ∧ (sm_V x 0 0 T I (sm_uL L 96 (Int32.toNatClampNeg ((a1 - 1))) (L 96 (Int32.toNatClampNeg (a1)))) 42 [some (.ref 76), some (.int (a1 + 1))] [])))) :
    sm_V x 0 0 T I L 42 [some (.ref 76), some (.int a1)] [] :=
  sm_iload_n (z := a1) hx dX12_keep_42 rfl (sm_bipush (v := 60) hx dX12_keep_43 sm_kb_60 (sm_icmpge (a := a1) (b := 60) hx dX12_keep_45 (tgt := 68) (by decide) (fun q2 => sm_aload_n (z := 76) hx dX12_keep_68 rfl (sm_dup hx dX12_keep_69 rfl (sm_getI hx dX12_keep_70 fl_X12_296_12 (t_76 hB) rfl (sm_iconst (v := 1) hx dX12_keep_73 sm_kc_1 (sm_isub (a := (I 76 42)) (b := 1) hx dX12_keep_74 (sm_putI hx dX12_keep_75 fl_X12_296_12 (t_76 hB) rfl (sm_iconst (v := 0) hx dX12_keep_78 sm_kc_0 (sm_istore_n (ls' := [some (.ref 76), some (.int 0)]) hx dX12_keep_79 (by decide) rfl ((h.1 q2)))))))))) (fun q2 => sm_aload_n (z := 76) hx dX12_keep_48 rfl (sm_getR hx dX12_keep_49 fl_X12_71_12 (t_76 hB) rfl (sm_iload_n (z := a1) hx dX12_keep_52 rfl (sm_iconst (v := 1) hx dX12_keep_53 sm_kc_1 (sm_isub (a := a1) (b := 1) hx dX12_keep_54 (sm_aload_n (z := 76) hx dX12_keep_55 rfl (sm_getR hx dX12_keep_56 fl_X12_71_12 (t_76 hB) rfl (sm_iload_n (z := a1) hx dX12_keep_59 rfl (sm_lald (i := a1) hx dX12_keep_60 (t_96 hB) (h.2 q2).1 (sm_last (i := (a1 - 1)) (v := (L 96 (Int32.toNatClampNeg (a1)))) hx dX12_keep_61 (t_96 hB) (h.2 q2).2.1 (sm_iinc (ls' := [some (.ref 76), some (.int (a1 + 1))]) (z := a1) (v := (a1 + 1)) hx dX12_keep_62 rfl (sm_kii_1 _) (by decide) rfl (sm_goto hx dX12_keep_65 (tgt := 42) (by decide) ((h.2 q2).2.2)))))))))))))))
set_option maxRecDepth 100000 in
theorem u_X12_keep_80 {x : sm_Cx} {n : Nat} {F : sm_MI → sm_ML → Prop} {T : List sm_Sh} {I : sm_MI} {L : sm_ML} {a1 : Int32} (hB : sm_Bs T) (hx : sm_Ok x mX12_keep n (sm_KV T F))
    (h : (8 ≤ a1 → vp_in (I 76 42) 60 ∧ (F (sm_uI I 76 42 ((I 76 42) + 1)) (sm_uL L 96 (Int32.toNatClampNeg ((I 76 42))) (L 76 36)))) ∧ (¬ 8 ≤ a1 → vp_in a1 8 ∧ (vp_in ((8 * (I 76 42)) + a1) 480 ∧ (sm_V x 0 0 T (sm_uI I 95 (Int32.toNatClampNeg (((8 * (I 76 42)) + a1))) (I 92 (Int32.toNatClampNeg (a1)))) L 80 [some (.ref 76), some (.int (a1 + 1))] [])))) :
    sm_V x 0 0 T I L 80 [some (.ref 76), some (.int a1)] [] :=
  sm_iload_n (z := a1) hx dX12_keep_80 rfl (sm_bipush (v := 8) hx dX12_keep_81 sm_kb_8 (sm_icmpge (a := a1) (b := 8) hx dX12_keep_83 (tgt := 112) (by decide) (fun q3 => sm_aload_n (z := 76) hx dX12_keep_112 rfl (sm_getR hx dX12_keep_113 fl_X12_71_12 (t_76 hB) rfl (sm_aload_n (z := 76) hx dX12_keep_116 rfl (sm_getI hx dX12_keep_117 fl_X12_296_12 (t_76 hB) rfl (sm_aload_n (z := 76) hx dX12_keep_120 rfl (sm_getL hx dX12_keep_121 fl_X12_330_12 (t_76 hB) rfl (sm_last (i := (I 76 42)) (v := (L 76 36)) hx dX12_keep_124 (t_96 hB) (h.1 q3).1 (sm_aload_n (z := 76) hx dX12_keep_125 rfl (sm_dup hx dX12_keep_126 rfl (sm_getI hx dX12_keep_127 fl_X12_296_12 (t_76 hB) rfl (sm_iconst (v := 1) hx dX12_keep_130 sm_kc_1 (sm_iadd (a := (I 76 42)) (b := 1) hx dX12_keep_131 (sm_putI hx dX12_keep_132 fl_X12_296_12 (t_76 hB) rfl (sm_vretV hx dX12_keep_135 rfl (h.1 q3).2)))))))))))))) (fun q3 => sm_aload_n (z := 76) hx dX12_keep_86 rfl (sm_getR hx dX12_keep_87 fl_X12_68_12 (t_76 hB) rfl (sm_bipush (v := 8) hx dX12_keep_90 sm_kb_8 (sm_aload_n (z := 76) hx dX12_keep_92 rfl (sm_getI hx dX12_keep_93 fl_X12_296_12 (t_76 hB) rfl (sm_imul (a := 8) (b := (I 76 42)) hx dX12_keep_96 (sm_iload_n (z := a1) hx dX12_keep_97 rfl (sm_iadd (a := (8 * (I 76 42))) (b := a1) hx dX12_keep_98 (sm_aload_n (z := 76) hx dX12_keep_99 rfl (sm_getR hx dX12_keep_100 fl_X12_55_12 (t_76 hB) rfl (sm_iload_n (z := a1) hx dX12_keep_103 rfl (sm_iald (i := a1) hx dX12_keep_104 (t_92 hB) (h.2 q3).1 (sm_iast (i := ((8 * (I 76 42)) + a1)) (v := (I 92 (Int32.toNatClampNeg (a1)))) hx dX12_keep_105 (t_95 hB) (h.2 q3).2.1 (sm_iinc (ls' := [some (.ref 76), some (.int (a1 + 1))]) (z := a1) (v := (a1 + 1)) hx dX12_keep_106 rfl (sm_kii_1 _) (by decide) rfl (sm_goto hx dX12_keep_109 (tgt := 80) (by decide) ((h.2 q3).2.2))))))))))))))))))
set_option maxRecDepth 100000 in
theorem c_X12_keep {n : Nat} {F : sm_MI → sm_ML → Prop} {T : List sm_Sh} {I : sm_MI} {L : sm_ML}  (hB : sm_Bs T)
    (h : ∀ x : sm_Cx, sm_Ok x mX12_keep n (sm_KV T F) → (¬ (I 76 42) = 60 → sm_V x 0 0 T I L 80 [some (.ref 76), some (.int 0)] []) ∧ ((I 76 42) = 60 → sm_V x 0 0 T I L 12 [some (.ref 76), some (.int 8)] [])) :
    sm_CV n mX12_keep T I L [.ref 76] F :=
  sm_CV.of (by decide +kernel) rfl (fun x hx => show sm_V x 0 0 T I L 0 [some (.ref 76), none] [] from
  sm_aload_n (z := 76) hx dX12_keep_0 rfl (sm_getI hx dX12_keep_1 fl_X12_296_12 (t_76 hB) rfl (sm_bipush (v := 60) hx dX12_keep_4 sm_kb_60 (sm_icmpne (a := (I 76 42)) (b := 60) hx dX12_keep_6 (tgt := 78) (by decide) (fun q4 => sm_iconst (v := 0) hx dX12_keep_78 sm_kc_0 (sm_istore_n (ls' := [some (.ref 76), some (.int 0)]) hx dX12_keep_79 (by decide) rfl (((h x hx).1 q4)))) (fun q4 => sm_bipush (v := 8) hx dX12_keep_9 sm_kb_8 (sm_istore_n (ls' := [some (.ref 76), some (.int 8)]) hx dX12_keep_11 (by decide) rfl (((h x hx).2 q4))))))))
theorem dX12_areNights_0 : decode cX12_areNights 0 = .ok (.aload_n 0, 1) := by decide +kernel
theorem dX12_areNights_1 : decode cX12_areNights 1 = .ok (.getfield 275, 3) := by decide +kernel
theorem dX12_areNights_4 : decode cX12_areNights 4 = .ok (.ifCond .le 17, 3) := by decide +kernel
theorem dX12_areNights_7 : decode cX12_areNights 7 = .ok (.iload_n 1, 1) := by decide +kernel
theorem dX12_areNights_8 : decode cX12_areNights 8 = .ok (.iconst 1, 1) := by decide +kernel
theorem dX12_areNights_9 : decode cX12_areNights 9 = .ok (.bipush 60, 2) := by decide +kernel
theorem dX12_areNights_11 : decode cX12_areNights 11 = .ok (.invokestatic 227, 3) := by decide +kernel
theorem dX12_areNights_14 : decode cX12_areNights 14 = .ok (.ifCond .eq 7, 3) := by decide +kernel
theorem dX12_areNights_17 : decode cX12_areNights 17 = .ok (.iconst 1, 1) := by decide +kernel
theorem dX12_areNights_18 : decode cX12_areNights 18 = .ok (.goto 4, 3) := by decide +kernel
theorem dX12_areNights_21 : decode cX12_areNights 21 = .ok (.iconst 0, 1) := by decide +kernel
theorem dX12_areNights_22 : decode cX12_areNights 22 = .ok (.ireturn, 1) := by decide +kernel
set_option maxRecDepth 100000 in
theorem c_X12_areNights {n : Nat} {F : Bool → sm_MI → sm_ML → Prop} {T : List sm_Sh} {I : sm_MI} {L : sm_ML} {a1 : Int32} (hB : sm_Bs T)
    (h : ((I 76 26) ≤ 0 → F false I L) ∧ (¬ (I 76 26) ≤ 0 → sm_CZ n mX12_in T I L [.int a1, .int 1, .int 60] (fun r2 I1 L1 => (r2 = false → F false I1 L1) ∧ (r2 = true → F true I1 L1)))) :
    sm_CZ (n + 1) mX12_areNights T I L [.ref 76, .int a1] F :=
  sm_CZ.of (by decide +kernel) rfl (fun x hx => show sm_V x 0 0 T I L 0 [some (.ref 76), some (.int a1)] [] from
  sm_aload_n (z := 76) hx dX12_areNights_0 rfl (sm_getI hx dX12_areNights_1 fl_X12_275_12 (t_76 hB) rfl (sm_ifle (a := (I 76 26)) hx dX12_areNights_4 (tgt := 21) (by decide) (fun q2 => sm_iconst (v := 0) hx dX12_areNights_21 sm_kc_0 (sm_iretZ (z := false) hx dX12_areNights_22 rfl (h.1 q2))) (fun q2 => sm_iload_n (z := a1) hx dX12_areNights_7 rfl (sm_iconst (v := 1) hx dX12_areNights_8 sm_kc_1 (sm_bipush (v := 60) hx dX12_areNights_9 sm_kb_60 (sm_callSZ (args := [.int a1, .int 1, .int 60]) (st := []) hx dX12_areNights_11 ls_X12_227 rfl rfl rfl (h.2 q2) (fun r2 I1 L1 hI1 => sm_ifeqZ (b := r2) hx dX12_areNights_14 (tgt := 21) (by decide) (fun q1 => sm_iconst (v := 0) hx dX12_areNights_21 sm_kc_0 (sm_iretZ (z := false) hx dX12_areNights_22 rfl (hI1.1 q1))) (fun q1 => sm_iconst (v := 1) hx dX12_areNights_17 sm_kc_1 (sm_goto hx dX12_areNights_18 (tgt := 22) (by decide) (sm_iretZ (z := true) hx dX12_areNights_22 rfl (hI1.2 q1))))))))))))
theorem dX12_nights_0 : decode cX12_nights 0 = .ok (.aload_n 0, 1) := by decide +kernel
theorem dX12_nights_1 : decode cX12_nights 1 = .ok (.iload_n 1, 1) := by decide +kernel
theorem dX12_nights_2 : decode cX12_nights 2 = .ok (.invokevirtual 366, 3) := by decide +kernel
theorem dX12_nights_5 : decode cX12_nights 5 = .ok (.ifCond .ne 5, 3) := by decide +kernel
theorem dX12_nights_8 : decode cX12_nights 8 = .ok (.iconst (-1), 1) := by decide +kernel
theorem dX12_nights_9 : decode cX12_nights 9 = .ok (.ireturn, 1) := by decide +kernel
theorem dX12_nights_10 : decode cX12_nights 10 = .ok (.iconst 0, 1) := by decide +kernel
theorem dX12_nights_11 : decode cX12_nights 11 = .ok (.istore_n 2, 1) := by decide +kernel
theorem dX12_nights_12 : decode cX12_nights 12 = .ok (.iload_n 2, 1) := by decide +kernel
theorem dX12_nights_13 : decode cX12_nights 13 = .ok (.iload_n 1, 1) := by decide +kernel
theorem dX12_nights_14 : decode cX12_nights 14 = .ok (.if_icmp .ge 86, 3) := by decide +kernel
theorem dX12_nights_17 : decode cX12_nights 17 = .ok (.aload_n 0, 1) := by decide +kernel
theorem dX12_nights_18 : decode cX12_nights 18 = .ok (.invokevirtual 369, 3) := by decide +kernel
theorem dX12_nights_21 : decode cX12_nights 21 = .ok (.iconst 0, 1) := by decide +kernel
theorem dX12_nights_22 : decode cX12_nights 22 = .ok (.istore_n 3, 1) := by decide +kernel
theorem dX12_nights_23 : decode cX12_nights 23 = .ok (.iload_n 3, 1) := by decide +kernel
theorem dX12_nights_24 : decode cX12_nights 24 = .ok (.aload_n 0, 1) := by decide +kernel
theorem dX12_nights_25 : decode cX12_nights 25 = .ok (.getfield 278, 3) := by decide +kernel
theorem dX12_nights_28 : decode cX12_nights 28 = .ok (.if_icmp .ge 56, 3) := by decide +kernel
theorem dX12_nights_31 : decode cX12_nights 31 = .ok (.aload_n 0, 1) := by decide +kernel
theorem dX12_nights_32 : decode cX12_nights 32 = .ok (.iload_n 3, 1) := by decide +kernel
theorem dX12_nights_33 : decode cX12_nights 33 = .ok (.iconst 2, 1) := by decide +kernel
theorem dX12_nights_34 : decode cX12_nights 34 = .ok (.invokevirtual 315, 3) := by decide +kernel
theorem dX12_nights_37 : decode cX12_nights 37 = .ok (.iconst 3, 1) := by decide +kernel
theorem dX12_nights_38 : decode cX12_nights 38 = .ok (.if_icmp .ne 25, 3) := by decide +kernel
theorem dX12_nights_41 : decode cX12_nights 41 = .ok (.aload_n 0, 1) := by decide +kernel
theorem dX12_nights_42 : decode cX12_nights 42 = .ok (.getfield 327, 3) := by decide +kernel
theorem dX12_nights_45 : decode cX12_nights 45 = .ok (.ifCond .le 18, 3) := by decide +kernel
theorem dX12_nights_48 : decode cX12_nights 48 = .ok (.aload_n 0, 1) := by decide +kernel
theorem dX12_nights_49 : decode cX12_nights 49 = .ok (.invokevirtual 372, 3) := by decide +kernel
theorem dX12_nights_52 : decode cX12_nights 52 = .ok (.aload_n 0, 1) := by decide +kernel
theorem dX12_nights_53 : decode cX12_nights 53 = .ok (.getfield 327, 3) := by decide +kernel
theorem dX12_nights_56 : decode cX12_nights 56 = .ok (.if_icmp .ge 7, 3) := by decide +kernel
theorem dX12_nights_59 : decode cX12_nights 59 = .ok (.iconst 1, 1) := by decide +kernel
theorem dX12_nights_60 : decode cX12_nights 60 = .ok (.goto 4, 3) := by decide +kernel
theorem dX12_nights_63 : decode cX12_nights 63 = .ok (.iconst 0, 1) := by decide +kernel
theorem dX12_nights_64 : decode cX12_nights 64 = .ok (.istore 4, 2) := by decide +kernel
theorem dX12_nights_66 : decode cX12_nights 66 = .ok (.aload_n 0, 1) := by decide +kernel
theorem dX12_nights_67 : decode cX12_nights 67 = .ok (.iload_n 3, 1) := by decide +kernel
theorem dX12_nights_68 : decode cX12_nights 68 = .ok (.aload_n 0, 1) := by decide +kernel
theorem dX12_nights_69 : decode cX12_nights 69 = .ok (.getfield 293, 3) := by decide +kernel
theorem dX12_nights_72 : decode cX12_nights 72 = .ok (.iload 4, 2) := by decide +kernel
theorem dX12_nights_74 : decode cX12_nights 74 = .ok (.invokevirtual 375, 3) := by decide +kernel
theorem dX12_nights_77 : decode cX12_nights 77 = .ok (.pop, 1) := by decide +kernel
theorem dX12_nights_78 : decode cX12_nights 78 = .ok (.iinc 3 1, 3) := by decide +kernel
theorem dX12_nights_81 : decode cX12_nights 81 = .ok (.goto (-58), 3) := by decide +kernel
theorem dX12_nights_84 : decode cX12_nights 84 = .ok (.aload_n 0, 1) := by decide +kernel
theorem dX12_nights_85 : decode cX12_nights 85 = .ok (.dup, 1) := by decide +kernel
theorem dX12_nights_86 : decode cX12_nights 86 = .ok (.getfield 293, 3) := by decide +kernel
theorem dX12_nights_89 : decode cX12_nights 89 = .ok (.iconst 1, 1) := by decide +kernel
theorem dX12_nights_90 : decode cX12_nights 90 = .ok (.iadd, 1) := by decide +kernel
theorem dX12_nights_91 : decode cX12_nights 91 = .ok (.putfield 293, 3) := by decide +kernel
theorem dX12_nights_94 : decode cX12_nights 94 = .ok (.iinc 2 1, 3) := by decide +kernel
theorem dX12_nights_97 : decode cX12_nights 97 = .ok (.goto (-85), 3) := by decide +kernel
theorem dX12_nights_100 : decode cX12_nights 100 = .ok (.aload_n 0, 1) := by decide +kernel
theorem dX12_nights_101 : decode cX12_nights 101 = .ok (.getfield 293, 3) := by decide +kernel
theorem dX12_nights_104 : decode cX12_nights 104 = .ok (.ireturn, 1) := by decide +kernel
set_option maxRecDepth 100000 in
theorem u_X12_nights_12 {x : sm_Cx} {n : Nat} {F : Int32 → sm_MI → sm_ML → Prop} {T : List sm_Sh} {I : sm_MI} {L : sm_ML} {a1 : Int32} {a2 : Int32} {u3 : Option Value} {u4 : Option Value} (hB : sm_Bs T) (hx : sm_Ok x mX12_nights (n + 1) (sm_KI T F))
    (h : (a1 ≤ a2 → F (I 76 34) I L) ∧ (¬ a1 ≤ a2 → sm_CV n mX12_keep T I L [.ref 76] (fun I1 L1 => sm_V x 0 0 T I1 L1 23 [some (.ref 76), some (.int a1), some (.int a2), some (.int 0), u4] []))) :
    sm_V x 0 0 T I L 12 [some (.ref 76), some (.int a1), some (.int a2), u3, u4] [] :=
  sm_iload_n (z := a2) hx dX12_nights_12 rfl (sm_iload_n (z := a1) hx dX12_nights_13 rfl (sm_icmpge (a := a2) (b := a1) hx dX12_nights_14 (tgt := 100) (by decide) (fun q1 => sm_aload_n (z := 76) hx dX12_nights_100 rfl (sm_getI hx dX12_nights_101 fl_X12_293_12 (t_76 hB) rfl (sm_iretI hx dX12_nights_104 rfl (h.1 q1)))) (fun q1 => sm_aload_n (z := 76) hx dX12_nights_17 rfl (sm_callVV (args := []) (st := []) hx dX12_nights_18 lv_X12_369_12 rfl rfl (t_76 hB) rfl rfl (h.2 q1) (fun I1 L1 hI1 => sm_iconst (v := 0) hx dX12_nights_21 sm_kc_0 (sm_istore_n (ls' := [some (.ref 76), some (.int a1), some (.int a2), some (.int 0), u4]) hx dX12_nights_22 (by decide) rfl (hI1)))))))
set_option maxRecDepth 100000 in
theorem u_X12_nights_23 {x : sm_Cx} {n : Nat} {F : Int32 → sm_MI → sm_ML → Prop} {T : List sm_Sh} {I : sm_MI} {L : sm_ML} {a1 : Int32} {a2 : Int32} {a3 : Int32} {u4 : Option Value} (hB : sm_Bs T) (hx : sm_Ok x mX12_nights (n + 1) (sm_KI T F))
    (h : ((I 76 27) ≤ a3 → sm_V x 0 0 T (sm_uI I 76 34 ((I 76 34) + 1)) L 12 [some (.ref 76), some (.int a1), some (.int (a2 + 1)), some (.int a3), u4] []) ∧ (¬ (I 76 27) ≤ a3 → sm_CI n mX12_of T I L [.ref 76, .int a3, .int 2] (fun r2 I1 L1 => (¬ r2 = 3 → sm_CI n mX12_walk T I1 L1 [.ref 76, .int a3, .int (I1 76 34), .int (sm_z false)] (fun r4 I3 L3 => sm_V x 0 0 T I3 L3 23 [some (.ref 76), some (.int a1), some (.int a2), some (.int (a3 + 1)), some (.int 0)] [])) ∧ (r2 = 3 → ((I1 76 35) ≤ 0 → sm_CI n mX12_walk T I1 L1 [.ref 76, .int a3, .int (I1 76 34), .int (sm_z false)] (fun r6 I5 L5 => sm_V x 0 0 T I5 L5 23 [some (.ref 76), some (.int a1), some (.int a2), some (.int (a3 + 1)), some (.int 0)] [])) ∧ (¬ (I1 76 35) ≤ 0 → sm_CI n mX12_draw T I1 L1 [.ref 76] (fun r8 I7 L7 => ((I7 76 35) ≤ r8 → sm_CI n mX12_walk T I7 L7 [.ref 76, .int a3, .int (I7 76 34), .int (sm_z false)] (fun r10 I9 L9 => sm_V x 0 0 T I9 L9 23 [some (.ref 76), some (.int a1), some (.int a2), some (.int (a3 + 1)), some (.int 0)] [])) ∧ (¬ (I7 76 35) ≤ r8 → sm_CI n mX12_walk T I7 L7 [.ref 76, .int a3, .int (I7 76 34), .int (sm_z true)] (fun r12 I11 L11 => sm_V x 0 0 T I11 L11 23 [some (.ref 76), some (.int a1), some (.int a2), some (.int (a3 + 1)), some (.int 1)] [])))))))) :
    sm_V x 0 0 T I L 23 [some (.ref 76), some (.int a1), some (.int a2), some (.int a3), u4] [] :=
  sm_iload_n (z := a3) hx dX12_nights_23 rfl (sm_aload_n (z := 76) hx dX12_nights_24 rfl (sm_getI hx dX12_nights_25 fl_X12_278_12 (t_76 hB) rfl (sm_icmpge (a := a3) (b := (I 76 27)) hx dX12_nights_28 (tgt := 84) (by decide) (fun q5 => sm_aload_n (z := 76) hx dX12_nights_84 rfl (sm_dup hx dX12_nights_85 rfl (sm_getI hx dX12_nights_86 fl_X12_293_12 (t_76 hB) rfl (sm_iconst (v := 1) hx dX12_nights_89 sm_kc_1 (sm_iadd (a := (I 76 34)) (b := 1) hx dX12_nights_90 (sm_putI hx dX12_nights_91 fl_X12_293_12 (t_76 hB) rfl (sm_iinc (ls' := [some (.ref 76), some (.int a1), some (.int (a2 + 1)), some (.int a3), u4]) (z := a2) (v := (a2 + 1)) hx dX12_nights_94 rfl (sm_kii_1 _) (by decide) rfl (sm_goto hx dX12_nights_97 (tgt := 12) (by decide) ((h.1 q5)))))))))) (fun q5 => sm_aload_n (z := 76) hx dX12_nights_31 rfl (sm_iload_n (z := a3) hx dX12_nights_32 rfl (sm_iconst (v := 2) hx dX12_nights_33 sm_kc_2 (sm_callVI (args := [.int a3, .int 2]) (st := []) hx dX12_nights_34 lv_X12_315_12 rfl rfl (t_76 hB) rfl rfl (h.2 q5) (fun r2 I1 L1 hI1 => sm_iconst (v := 3) hx dX12_nights_37 sm_kc_3 (sm_icmpne (a := r2) (b := 3) hx dX12_nights_38 (tgt := 63) (by decide) (fun q4 => sm_iconst (v := 0) hx dX12_nights_63 sm_kc_0 (sm_istore (ls' := [some (.ref 76), some (.int a1), some (.int a2), some (.int a3), some (.int 0)]) hx dX12_nights_64 (by decide) rfl (sm_aload_n (z := 76) hx dX12_nights_66 rfl (sm_iload_n (z := a3) hx dX12_nights_67 rfl (sm_aload_n (z := 76) hx dX12_nights_68 rfl (sm_getI hx dX12_nights_69 fl_X12_293_12 (t_76 hB) rfl (sm_iload (z := 0) hx dX12_nights_72 rfl (sm_callVI (args := [.int a3, .int (I1 76 34), .int (sm_z false)]) (st := []) hx dX12_nights_74 lv_X12_375_12 rfl rfl (t_76 hB) rfl rfl (hI1.1 q4) (fun r4 I3 L3 hI3 => sm_pop hx dX12_nights_77 rfl (sm_iinc (ls' := [some (.ref 76), some (.int a1), some (.int a2), some (.int (a3 + 1)), some (.int 0)]) (z := a3) (v := (a3 + 1)) hx dX12_nights_78 rfl (sm_kii_1 _) (by decide) rfl (sm_goto hx dX12_nights_81 (tgt := 23) (by decide) (hI3)))))))))))) (fun q4 => sm_aload_n (z := 76) hx dX12_nights_41 rfl (sm_getI hx dX12_nights_42 fl_X12_327_12 (t_76 hB) rfl (sm_ifle (a := (I1 76 35)) hx dX12_nights_45 (tgt := 63) (by decide) (fun q3 => sm_iconst (v := 0) hx dX12_nights_63 sm_kc_0 (sm_istore (ls' := [some (.ref 76), some (.int a1), some (.int a2), some (.int a3), some (.int 0)]) hx dX12_nights_64 (by decide) rfl (sm_aload_n (z := 76) hx dX12_nights_66 rfl (sm_iload_n (z := a3) hx dX12_nights_67 rfl (sm_aload_n (z := 76) hx dX12_nights_68 rfl (sm_getI hx dX12_nights_69 fl_X12_293_12 (t_76 hB) rfl (sm_iload (z := 0) hx dX12_nights_72 rfl (sm_callVI (args := [.int a3, .int (I1 76 34), .int (sm_z false)]) (st := []) hx dX12_nights_74 lv_X12_375_12 rfl rfl (t_76 hB) rfl rfl ((hI1.2 q4).1 q3) (fun r6 I5 L5 hI5 => sm_pop hx dX12_nights_77 rfl (sm_iinc (ls' := [some (.ref 76), some (.int a1), some (.int a2), some (.int (a3 + 1)), some (.int 0)]) (z := a3) (v := (a3 + 1)) hx dX12_nights_78 rfl (sm_kii_1 _) (by decide) rfl (sm_goto hx dX12_nights_81 (tgt := 23) (by decide) (hI5)))))))))))) (fun q3 => sm_aload_n (z := 76) hx dX12_nights_48 rfl (sm_callVI (args := []) (st := []) hx dX12_nights_49 lv_X12_372_12 rfl rfl (t_76 hB) rfl rfl ((hI1.2 q4).2 q3) (fun r8 I7 L7 hI7 => sm_aload_n (z := 76) hx dX12_nights_52 rfl (sm_getI hx dX12_nights_53 fl_X12_327_12 (t_76 hB) rfl (sm_icmpge (a := r8) (b := (I7 76 35)) hx dX12_nights_56 (tgt := 63) (by decide) (fun q2 => sm_iconst (v := 0) hx dX12_nights_63 sm_kc_0 (sm_istore (ls' := [some (.ref 76), some (.int a1), some (.int a2), some (.int a3), some (.int 0)]) hx dX12_nights_64 (by decide) rfl (sm_aload_n (z := 76) hx dX12_nights_66 rfl (sm_iload_n (z := a3) hx dX12_nights_67 rfl (sm_aload_n (z := 76) hx dX12_nights_68 rfl (sm_getI hx dX12_nights_69 fl_X12_293_12 (t_76 hB) rfl (sm_iload (z := 0) hx dX12_nights_72 rfl (sm_callVI (args := [.int a3, .int (I7 76 34), .int (sm_z false)]) (st := []) hx dX12_nights_74 lv_X12_375_12 rfl rfl (t_76 hB) rfl rfl (hI7.1 q2) (fun r10 I9 L9 hI9 => sm_pop hx dX12_nights_77 rfl (sm_iinc (ls' := [some (.ref 76), some (.int a1), some (.int a2), some (.int (a3 + 1)), some (.int 0)]) (z := a3) (v := (a3 + 1)) hx dX12_nights_78 rfl (sm_kii_1 _) (by decide) rfl (sm_goto hx dX12_nights_81 (tgt := 23) (by decide) (hI9)))))))))))) (fun q2 => sm_iconst (v := 1) hx dX12_nights_59 sm_kc_1 (sm_goto hx dX12_nights_60 (tgt := 64) (by decide) (sm_istore (ls' := [some (.ref 76), some (.int a1), some (.int a2), some (.int a3), some (.int 1)]) hx dX12_nights_64 (by decide) rfl (sm_aload_n (z := 76) hx dX12_nights_66 rfl (sm_iload_n (z := a3) hx dX12_nights_67 rfl (sm_aload_n (z := 76) hx dX12_nights_68 rfl (sm_getI hx dX12_nights_69 fl_X12_293_12 (t_76 hB) rfl (sm_iload (z := 1) hx dX12_nights_72 rfl (sm_callVI (args := [.int a3, .int (I7 76 34), .int (sm_z true)]) (st := []) hx dX12_nights_74 lv_X12_375_12 rfl rfl (t_76 hB) rfl rfl (hI7.2 q2) (fun r12 I11 L11 hI11 => sm_pop hx dX12_nights_77 rfl (sm_iinc (ls' := [some (.ref 76), some (.int a1), some (.int a2), some (.int (a3 + 1)), some (.int 1)]) (z := a3) (v := (a3 + 1)) hx dX12_nights_78 rfl (sm_kii_1 _) (by decide) rfl (sm_goto hx dX12_nights_81 (tgt := 23) (by decide) (hI11))))))))))))))))))))))))))))))
set_option maxRecDepth 100000 in
theorem c_X12_nights {n : Nat} {F : Int32 → sm_MI → sm_ML → Prop} {T : List sm_Sh} {I : sm_MI} {L : sm_ML} {a1 : Int32} (hB : sm_Bs T)
    (h : ∀ x : sm_Cx, sm_Ok x mX12_nights (n + 1) (sm_KI T F) → sm_CZ n mX12_areNights T I L [.ref 76, .int a1] (fun r2 I1 L1 => (r2 = true → sm_V x 0 0 T I1 L1 12 [some (.ref 76), some (.int a1), some (.int 0), none, none] []) ∧ (r2 = false → F (-1) I1 L1))) :
    sm_CI (n + 1) mX12_nights T I L [.ref 76, .int a1] F :=
  sm_CI.of (by decide +kernel) rfl (fun x hx => show sm_V x 0 0 T I L 0 [some (.ref 76), some (.int a1), none, none, none] [] from
  sm_aload_n (z := 76) hx dX12_nights_0 rfl (sm_iload_n (z := a1) hx dX12_nights_1 rfl (sm_callVZ (args := [.int a1]) (st := []) hx dX12_nights_2 lv_X12_366_12 rfl rfl (t_76 hB) rfl rfl (h x hx) (fun r2 I1 L1 hI1 => sm_ifneZ (b := r2) hx dX12_nights_5 (tgt := 10) (by decide) (fun q6 => sm_iconst (v := 0) hx dX12_nights_10 sm_kc_0 (sm_istore_n (ls' := [some (.ref 76), some (.int a1), some (.int 0), none, none]) hx dX12_nights_11 (by decide) rfl ((hI1.1 q6)))) (fun q6 => sm_iconst (v := (-1)) hx dX12_nights_8 sm_kc_m1 (sm_iretI hx dX12_nights_9 rfl (hI1.2 q6)))))))
theorem dX12_undo_0 : decode cX12_undo 0 = .ok (.aload_n 0, 1) := by decide +kernel
theorem dX12_undo_1 : decode cX12_undo 1 = .ok (.getfield 296, 3) := by decide +kernel
theorem dX12_undo_4 : decode cX12_undo 4 = .ok (.ifCond .ne 5, 3) := by decide +kernel
theorem dX12_undo_7 : decode cX12_undo 7 = .ok (.iconst (-1), 1) := by decide +kernel
theorem dX12_undo_8 : decode cX12_undo 8 = .ok (.ireturn, 1) := by decide +kernel
theorem dX12_undo_9 : decode cX12_undo 9 = .ok (.aload_n 0, 1) := by decide +kernel
theorem dX12_undo_10 : decode cX12_undo 10 = .ok (.dup, 1) := by decide +kernel
theorem dX12_undo_11 : decode cX12_undo 11 = .ok (.getfield 296, 3) := by decide +kernel
theorem dX12_undo_14 : decode cX12_undo 14 = .ok (.iconst 1, 1) := by decide +kernel
theorem dX12_undo_15 : decode cX12_undo 15 = .ok (.isub, 1) := by decide +kernel
theorem dX12_undo_16 : decode cX12_undo 16 = .ok (.putfield 296, 3) := by decide +kernel
theorem dX12_undo_19 : decode cX12_undo 19 = .ok (.iconst 0, 1) := by decide +kernel
theorem dX12_undo_20 : decode cX12_undo 20 = .ok (.istore_n 1, 1) := by decide +kernel
theorem dX12_undo_21 : decode cX12_undo 21 = .ok (.iload_n 1, 1) := by decide +kernel
theorem dX12_undo_22 : decode cX12_undo 22 = .ok (.bipush 8, 2) := by decide +kernel
theorem dX12_undo_24 : decode cX12_undo 24 = .ok (.if_icmp .ge 29, 3) := by decide +kernel
theorem dX12_undo_27 : decode cX12_undo 27 = .ok (.aload_n 0, 1) := by decide +kernel
theorem dX12_undo_28 : decode cX12_undo 28 = .ok (.getfield 55, 3) := by decide +kernel
theorem dX12_undo_31 : decode cX12_undo 31 = .ok (.iload_n 1, 1) := by decide +kernel
theorem dX12_undo_32 : decode cX12_undo 32 = .ok (.aload_n 0, 1) := by decide +kernel
theorem dX12_undo_33 : decode cX12_undo 33 = .ok (.getfield 68, 3) := by decide +kernel
theorem dX12_undo_36 : decode cX12_undo 36 = .ok (.bipush 8, 2) := by decide +kernel
theorem dX12_undo_38 : decode cX12_undo 38 = .ok (.aload_n 0, 1) := by decide +kernel
theorem dX12_undo_39 : decode cX12_undo 39 = .ok (.getfield 296, 3) := by decide +kernel
theorem dX12_undo_42 : decode cX12_undo 42 = .ok (.imul, 1) := by decide +kernel
theorem dX12_undo_43 : decode cX12_undo 43 = .ok (.iload_n 1, 1) := by decide +kernel
theorem dX12_undo_44 : decode cX12_undo 44 = .ok (.iadd, 1) := by decide +kernel
theorem dX12_undo_45 : decode cX12_undo 45 = .ok (.iaload, 1) := by decide +kernel
theorem dX12_undo_46 : decode cX12_undo 46 = .ok (.iastore, 1) := by decide +kernel
theorem dX12_undo_47 : decode cX12_undo 47 = .ok (.iinc 1 1, 3) := by decide +kernel
theorem dX12_undo_50 : decode cX12_undo 50 = .ok (.goto (-29), 3) := by decide +kernel
theorem dX12_undo_53 : decode cX12_undo 53 = .ok (.aload_n 0, 1) := by decide +kernel
theorem dX12_undo_54 : decode cX12_undo 54 = .ok (.aload_n 0, 1) := by decide +kernel
theorem dX12_undo_55 : decode cX12_undo 55 = .ok (.getfield 71, 3) := by decide +kernel
theorem dX12_undo_58 : decode cX12_undo 58 = .ok (.aload_n 0, 1) := by decide +kernel
theorem dX12_undo_59 : decode cX12_undo 59 = .ok (.getfield 296, 3) := by decide +kernel
theorem dX12_undo_62 : decode cX12_undo 62 = .ok (.laload, 1) := by decide +kernel
theorem dX12_undo_63 : decode cX12_undo 63 = .ok (.putfield 330, 3) := by decide +kernel
theorem dX12_undo_66 : decode cX12_undo 66 = .ok (.aload_n 0, 1) := by decide +kernel
theorem dX12_undo_67 : decode cX12_undo 67 = .ok (.dup, 1) := by decide +kernel
theorem dX12_undo_68 : decode cX12_undo 68 = .ok (.getfield 293, 3) := by decide +kernel
theorem dX12_undo_71 : decode cX12_undo 71 = .ok (.iconst 1, 1) := by decide +kernel
theorem dX12_undo_72 : decode cX12_undo 72 = .ok (.isub, 1) := by decide +kernel
theorem dX12_undo_73 : decode cX12_undo 73 = .ok (.putfield 293, 3) := by decide +kernel
theorem dX12_undo_76 : decode cX12_undo 76 = .ok (.aload_n 0, 1) := by decide +kernel
theorem dX12_undo_77 : decode cX12_undo 77 = .ok (.getfield 293, 3) := by decide +kernel
theorem dX12_undo_80 : decode cX12_undo 80 = .ok (.ireturn, 1) := by decide +kernel
set_option maxRecDepth 100000 in
theorem u_X12_undo_21 {x : sm_Cx} {n : Nat} {F : Int32 → sm_MI → sm_ML → Prop} {T : List sm_Sh} {I : sm_MI} {L : sm_ML} {a1 : Int32} (hB : sm_Bs T) (hx : sm_Ok x mX12_undo n (sm_KI T F))
    (h : (8 ≤ a1 → vp_in (I 76 42) 60 ∧ (∀ I1 : sm_MI, I1 = (sm_uI I 76 34 ((I 76 34) - 1)) → F (I1 76 34) I1 (sm_uL L 76 36 (L 96 (Int32.toNatClampNeg ((I 76 42))))))) ∧ (¬ 8 ≤ a1 → vp_in ((8 * (I 76 42)) + a1) 480 ∧ (vp_in a1 8 ∧ (sm_V x 0 0 T (sm_uI I 92 (Int32.toNatClampNeg (a1)) (I 95 (Int32.toNatClampNeg (((8 * (I 76 42)) + a1))))) L 21 [some (.ref 76), some (.int (a1 + 1))] [])))) :
    sm_V x 0 0 T I L 21 [some (.ref 76), some (.int a1)] [] :=
  sm_iload_n (z := a1) hx dX12_undo_21 rfl (sm_bipush (v := 8) hx dX12_undo_22 sm_kb_8 (sm_icmpge (a := a1) (b := 8) hx dX12_undo_24 (tgt := 53) (by decide) (fun q1 => sm_aload_n (z := 76) hx dX12_undo_53 rfl (sm_aload_n (z := 76) hx dX12_undo_54 rfl (sm_getR hx dX12_undo_55 fl_X12_71_12 (t_76 hB) rfl (sm_aload_n (z := 76) hx dX12_undo_58 rfl (sm_getI hx dX12_undo_59 fl_X12_296_12 (t_76 hB) rfl (sm_lald (i := (I 76 42)) hx dX12_undo_62 (t_96 hB) (h.1 q1).1 (sm_putL hx dX12_undo_63 fl_X12_330_12 (t_76 hB) rfl (sm_aload_n (z := 76) hx dX12_undo_66 rfl (sm_dup hx dX12_undo_67 rfl (sm_getI hx dX12_undo_68 fl_X12_293_12 (t_76 hB) rfl (sm_iconst (v := 1) hx dX12_undo_71 sm_kc_1 (sm_isub (a := (I 76 34)) (b := 1) hx dX12_undo_72 (sm_putI hx dX12_undo_73 fl_X12_293_12 (t_76 hB) rfl (sm_aload_n (z := 76) hx dX12_undo_76 rfl (sm_getI hx dX12_undo_77 fl_X12_293_12 (t_76 hB) rfl (sm_iretI hx dX12_undo_80 rfl ((h.1 q1).2 _ rfl))))))))))))))))) (fun q1 => sm_aload_n (z := 76) hx dX12_undo_27 rfl (sm_getR hx dX12_undo_28 fl_X12_55_12 (t_76 hB) rfl (sm_iload_n (z := a1) hx dX12_undo_31 rfl (sm_aload_n (z := 76) hx dX12_undo_32 rfl (sm_getR hx dX12_undo_33 fl_X12_68_12 (t_76 hB) rfl (sm_bipush (v := 8) hx dX12_undo_36 sm_kb_8 (sm_aload_n (z := 76) hx dX12_undo_38 rfl (sm_getI hx dX12_undo_39 fl_X12_296_12 (t_76 hB) rfl (sm_imul (a := 8) (b := (I 76 42)) hx dX12_undo_42 (sm_iload_n (z := a1) hx dX12_undo_43 rfl (sm_iadd (a := (8 * (I 76 42))) (b := a1) hx dX12_undo_44 (sm_iald (i := ((8 * (I 76 42)) + a1)) hx dX12_undo_45 (t_95 hB) (h.2 q1).1 (sm_iast (i := a1) (v := (I 95 (Int32.toNatClampNeg (((8 * (I 76 42)) + a1))))) hx dX12_undo_46 (t_92 hB) (h.2 q1).2.1 (sm_iinc (ls' := [some (.ref 76), some (.int (a1 + 1))]) (z := a1) (v := (a1 + 1)) hx dX12_undo_47 rfl (sm_kii_1 _) (by decide) rfl (sm_goto hx dX12_undo_50 (tgt := 21) (by decide) ((h.2 q1).2.2))))))))))))))))))
set_option maxRecDepth 100000 in
theorem c_X12_undo {n : Nat} {F : Int32 → sm_MI → sm_ML → Prop} {T : List sm_Sh} {I : sm_MI} {L : sm_ML}  (hB : sm_Bs T)
    (h : ∀ x : sm_Cx, sm_Ok x mX12_undo n (sm_KI T F) → (¬ (I 76 42) = 0 → sm_V x 0 0 T (sm_uI I 76 42 ((I 76 42) - 1)) L 21 [some (.ref 76), some (.int 0)] []) ∧ ((I 76 42) = 0 → F (-1) I L)) :
    sm_CI n mX12_undo T I L [.ref 76] F :=
  sm_CI.of (by decide +kernel) rfl (fun x hx => show sm_V x 0 0 T I L 0 [some (.ref 76), none] [] from
  sm_aload_n (z := 76) hx dX12_undo_0 rfl (sm_getI hx dX12_undo_1 fl_X12_296_12 (t_76 hB) rfl (sm_ifne (a := (I 76 42)) hx dX12_undo_4 (tgt := 9) (by decide) (fun q2 => sm_aload_n (z := 76) hx dX12_undo_9 rfl (sm_dup hx dX12_undo_10 rfl (sm_getI hx dX12_undo_11 fl_X12_296_12 (t_76 hB) rfl (sm_iconst (v := 1) hx dX12_undo_14 sm_kc_1 (sm_isub (a := (I 76 42)) (b := 1) hx dX12_undo_15 (sm_putI hx dX12_undo_16 fl_X12_296_12 (t_76 hB) rfl (sm_iconst (v := 0) hx dX12_undo_19 sm_kc_0 (sm_istore_n (ls' := [some (.ref 76), some (.int 0)]) hx dX12_undo_20 (by decide) rfl (((h x hx).1 q2)))))))))) (fun q2 => sm_iconst (v := (-1)) hx dX12_undo_7 sm_kc_m1 (sm_iretI hx dX12_undo_8 rfl ((h x hx).2 q2))))))
theorem dX12_putAside_0 : decode cX12_putAside 0 = .ok (.iconst 0, 1) := by decide +kernel
theorem dX12_putAside_1 : decode cX12_putAside 1 = .ok (.istore_n 1, 1) := by decide +kernel
theorem dX12_putAside_2 : decode cX12_putAside 2 = .ok (.iload_n 1, 1) := by decide +kernel
theorem dX12_putAside_3 : decode cX12_putAside 3 = .ok (.bipush 8, 2) := by decide +kernel
theorem dX12_putAside_5 : decode cX12_putAside 5 = .ok (.if_icmp .ge 21, 3) := by decide +kernel
theorem dX12_putAside_8 : decode cX12_putAside 8 = .ok (.aload_n 0, 1) := by decide +kernel
theorem dX12_putAside_9 : decode cX12_putAside 9 = .ok (.getfield 75, 3) := by decide +kernel
theorem dX12_putAside_12 : decode cX12_putAside 12 = .ok (.iload_n 1, 1) := by decide +kernel
theorem dX12_putAside_13 : decode cX12_putAside 13 = .ok (.aload_n 0, 1) := by decide +kernel
theorem dX12_putAside_14 : decode cX12_putAside 14 = .ok (.getfield 55, 3) := by decide +kernel
theorem dX12_putAside_17 : decode cX12_putAside 17 = .ok (.iload_n 1, 1) := by decide +kernel
theorem dX12_putAside_18 : decode cX12_putAside 18 = .ok (.iaload, 1) := by decide +kernel
theorem dX12_putAside_19 : decode cX12_putAside 19 = .ok (.iastore, 1) := by decide +kernel
theorem dX12_putAside_20 : decode cX12_putAside 20 = .ok (.iinc 1 1, 3) := by decide +kernel
theorem dX12_putAside_23 : decode cX12_putAside 23 = .ok (.goto (-21), 3) := by decide +kernel
theorem dX12_putAside_26 : decode cX12_putAside 26 = .ok (.aload_n 0, 1) := by decide +kernel
theorem dX12_putAside_27 : decode cX12_putAside 27 = .ok (.aload_n 0, 1) := by decide +kernel
theorem dX12_putAside_28 : decode cX12_putAside 28 = .ok (.getfield 293, 3) := by decide +kernel
theorem dX12_putAside_31 : decode cX12_putAside 31 = .ok (.putfield 379, 3) := by decide +kernel
theorem dX12_putAside_34 : decode cX12_putAside 34 = .ok (.return_, 1) := by decide +kernel
set_option maxRecDepth 100000 in
theorem u_X12_putAside_2 {x : sm_Cx} {n : Nat} {F : sm_MI → sm_ML → Prop} {T : List sm_Sh} {I : sm_MI} {L : sm_ML} {a1 : Int32} (hB : sm_Bs T) (hx : sm_Ok x mX12_putAside n (sm_KV T F))
    (h : (8 ≤ a1 → F (sm_uI I 76 44 (I 76 34)) L) ∧ (¬ 8 ≤ a1 → vp_in a1 8 ∧ (vp_in a1 8 ∧ (sm_V x 0 0 T (sm_uI I 97 (Int32.toNatClampNeg (a1)) (I 92 (Int32.toNatClampNeg (a1)))) L 2 [some (.ref 76), some (.int (a1 + 1))] [])))) :
    sm_V x 0 0 T I L 2 [some (.ref 76), some (.int a1)] [] :=
  sm_iload_n (z := a1) hx dX12_putAside_2 rfl (sm_bipush (v := 8) hx dX12_putAside_3 sm_kb_8 (sm_icmpge (a := a1) (b := 8) hx dX12_putAside_5 (tgt := 26) (by decide) (fun q1 => sm_aload_n (z := 76) hx dX12_putAside_26 rfl (sm_aload_n (z := 76) hx dX12_putAside_27 rfl (sm_getI hx dX12_putAside_28 fl_X12_293_12 (t_76 hB) rfl (sm_putI hx dX12_putAside_31 fl_X12_379_12 (t_76 hB) rfl (sm_vretV hx dX12_putAside_34 rfl (h.1 q1)))))) (fun q1 => sm_aload_n (z := 76) hx dX12_putAside_8 rfl (sm_getR hx dX12_putAside_9 fl_X12_75_12 (t_76 hB) rfl (sm_iload_n (z := a1) hx dX12_putAside_12 rfl (sm_aload_n (z := 76) hx dX12_putAside_13 rfl (sm_getR hx dX12_putAside_14 fl_X12_55_12 (t_76 hB) rfl (sm_iload_n (z := a1) hx dX12_putAside_17 rfl (sm_iald (i := a1) hx dX12_putAside_18 (t_92 hB) (h.2 q1).1 (sm_iast (i := a1) (v := (I 92 (Int32.toNatClampNeg (a1)))) hx dX12_putAside_19 (t_97 hB) (h.2 q1).2.1 (sm_iinc (ls' := [some (.ref 76), some (.int (a1 + 1))]) (z := a1) (v := (a1 + 1)) hx dX12_putAside_20 rfl (sm_kii_1 _) (by decide) rfl (sm_goto hx dX12_putAside_23 (tgt := 2) (by decide) ((h.2 q1).2.2)))))))))))))
set_option maxRecDepth 100000 in
theorem c_X12_putAside {n : Nat} {F : sm_MI → sm_ML → Prop} {T : List sm_Sh} {I : sm_MI} {L : sm_ML}  (hB : sm_Bs T)
    (h : ∀ x : sm_Cx, sm_Ok x mX12_putAside n (sm_KV T F) → sm_V x 0 0 T I L 2 [some (.ref 76), some (.int 0)] []) :
    sm_CV n mX12_putAside T I L [.ref 76] F :=
  sm_CV.of (by decide +kernel) rfl (fun x hx => show sm_V x 0 0 T I L 0 [some (.ref 76), none] [] from
  sm_iconst (v := 0) hx dX12_putAside_0 sm_kc_0 (sm_istore_n (ls' := [some (.ref 76), some (.int 0)]) hx dX12_putAside_1 (by decide) rfl ((h x hx))))
theorem dX12_takeBack_0 : decode cX12_takeBack 0 = .ok (.iconst 0, 1) := by decide +kernel
theorem dX12_takeBack_1 : decode cX12_takeBack 1 = .ok (.istore_n 1, 1) := by decide +kernel
theorem dX12_takeBack_2 : decode cX12_takeBack 2 = .ok (.iload_n 1, 1) := by decide +kernel
theorem dX12_takeBack_3 : decode cX12_takeBack 3 = .ok (.bipush 8, 2) := by decide +kernel
theorem dX12_takeBack_5 : decode cX12_takeBack 5 = .ok (.if_icmp .ge 21, 3) := by decide +kernel
theorem dX12_takeBack_8 : decode cX12_takeBack 8 = .ok (.aload_n 0, 1) := by decide +kernel
theorem dX12_takeBack_9 : decode cX12_takeBack 9 = .ok (.getfield 55, 3) := by decide +kernel
theorem dX12_takeBack_12 : decode cX12_takeBack 12 = .ok (.iload_n 1, 1) := by decide +kernel
theorem dX12_takeBack_13 : decode cX12_takeBack 13 = .ok (.aload_n 0, 1) := by decide +kernel
theorem dX12_takeBack_14 : decode cX12_takeBack 14 = .ok (.getfield 75, 3) := by decide +kernel
theorem dX12_takeBack_17 : decode cX12_takeBack 17 = .ok (.iload_n 1, 1) := by decide +kernel
theorem dX12_takeBack_18 : decode cX12_takeBack 18 = .ok (.iaload, 1) := by decide +kernel
theorem dX12_takeBack_19 : decode cX12_takeBack 19 = .ok (.iastore, 1) := by decide +kernel
theorem dX12_takeBack_20 : decode cX12_takeBack 20 = .ok (.iinc 1 1, 3) := by decide +kernel
theorem dX12_takeBack_23 : decode cX12_takeBack 23 = .ok (.goto (-21), 3) := by decide +kernel
theorem dX12_takeBack_26 : decode cX12_takeBack 26 = .ok (.aload_n 0, 1) := by decide +kernel
theorem dX12_takeBack_27 : decode cX12_takeBack 27 = .ok (.aload_n 0, 1) := by decide +kernel
theorem dX12_takeBack_28 : decode cX12_takeBack 28 = .ok (.getfield 379, 3) := by decide +kernel
theorem dX12_takeBack_31 : decode cX12_takeBack 31 = .ok (.putfield 293, 3) := by decide +kernel
theorem dX12_takeBack_34 : decode cX12_takeBack 34 = .ok (.return_, 1) := by decide +kernel
set_option maxRecDepth 100000 in
theorem u_X12_takeBack_2 {x : sm_Cx} {n : Nat} {F : sm_MI → sm_ML → Prop} {T : List sm_Sh} {I : sm_MI} {L : sm_ML} {a1 : Int32} (hB : sm_Bs T) (hx : sm_Ok x mX12_takeBack n (sm_KV T F))
    (h : (8 ≤ a1 → F (sm_uI I 76 34 (I 76 44)) L) ∧ (¬ 8 ≤ a1 → vp_in a1 8 ∧ (vp_in a1 8 ∧ (sm_V x 0 0 T (sm_uI I 92 (Int32.toNatClampNeg (a1)) (I 97 (Int32.toNatClampNeg (a1)))) L 2 [some (.ref 76), some (.int (a1 + 1))] [])))) :
    sm_V x 0 0 T I L 2 [some (.ref 76), some (.int a1)] [] :=
  sm_iload_n (z := a1) hx dX12_takeBack_2 rfl (sm_bipush (v := 8) hx dX12_takeBack_3 sm_kb_8 (sm_icmpge (a := a1) (b := 8) hx dX12_takeBack_5 (tgt := 26) (by decide) (fun q1 => sm_aload_n (z := 76) hx dX12_takeBack_26 rfl (sm_aload_n (z := 76) hx dX12_takeBack_27 rfl (sm_getI hx dX12_takeBack_28 fl_X12_379_12 (t_76 hB) rfl (sm_putI hx dX12_takeBack_31 fl_X12_293_12 (t_76 hB) rfl (sm_vretV hx dX12_takeBack_34 rfl (h.1 q1)))))) (fun q1 => sm_aload_n (z := 76) hx dX12_takeBack_8 rfl (sm_getR hx dX12_takeBack_9 fl_X12_55_12 (t_76 hB) rfl (sm_iload_n (z := a1) hx dX12_takeBack_12 rfl (sm_aload_n (z := 76) hx dX12_takeBack_13 rfl (sm_getR hx dX12_takeBack_14 fl_X12_75_12 (t_76 hB) rfl (sm_iload_n (z := a1) hx dX12_takeBack_17 rfl (sm_iald (i := a1) hx dX12_takeBack_18 (t_97 hB) (h.2 q1).1 (sm_iast (i := a1) (v := (I 97 (Int32.toNatClampNeg (a1)))) hx dX12_takeBack_19 (t_92 hB) (h.2 q1).2.1 (sm_iinc (ls' := [some (.ref 76), some (.int (a1 + 1))]) (z := a1) (v := (a1 + 1)) hx dX12_takeBack_20 rfl (sm_kii_1 _) (by decide) rfl (sm_goto hx dX12_takeBack_23 (tgt := 2) (by decide) ((h.2 q1).2.2)))))))))))))
set_option maxRecDepth 100000 in
theorem c_X12_takeBack {n : Nat} {F : sm_MI → sm_ML → Prop} {T : List sm_Sh} {I : sm_MI} {L : sm_ML}  (hB : sm_Bs T)
    (h : ∀ x : sm_Cx, sm_Ok x mX12_takeBack n (sm_KV T F) → sm_V x 0 0 T I L 2 [some (.ref 76), some (.int 0)] []) :
    sm_CV n mX12_takeBack T I L [.ref 76] F :=
  sm_CV.of (by decide +kernel) rfl (fun x hx => show sm_V x 0 0 T I L 0 [some (.ref 76), none] [] from
  sm_iconst (v := 0) hx dX12_takeBack_0 sm_kc_0 (sm_istore_n (ls' := [some (.ref 76), some (.int 0)]) hx dX12_takeBack_1 (by decide) rfl ((h x hx))))
theorem dX12_calmNight_0 : decode cX12_calmNight 0 = .ok (.iconst 0, 1) := by decide +kernel
theorem dX12_calmNight_1 : decode cX12_calmNight 1 = .ok (.istore_n 1, 1) := by decide +kernel
theorem dX12_calmNight_2 : decode cX12_calmNight 2 = .ok (.iload_n 1, 1) := by decide +kernel
theorem dX12_calmNight_3 : decode cX12_calmNight 3 = .ok (.aload_n 0, 1) := by decide +kernel
theorem dX12_calmNight_4 : decode cX12_calmNight 4 = .ok (.getfield 278, 3) := by decide +kernel
theorem dX12_calmNight_7 : decode cX12_calmNight 7 = .ok (.if_icmp .ge 25, 3) := by decide +kernel
theorem dX12_calmNight_10 : decode cX12_calmNight 10 = .ok (.aload_n 0, 1) := by decide +kernel
theorem dX12_calmNight_11 : decode cX12_calmNight 11 = .ok (.getfield 78, 3) := by decide +kernel
theorem dX12_calmNight_14 : decode cX12_calmNight 14 = .ok (.iload_n 1, 1) := by decide +kernel
theorem dX12_calmNight_15 : decode cX12_calmNight 15 = .ok (.aload_n 0, 1) := by decide +kernel
theorem dX12_calmNight_16 : decode cX12_calmNight 16 = .ok (.iload_n 1, 1) := by decide +kernel
theorem dX12_calmNight_17 : decode cX12_calmNight 17 = .ok (.aload_n 0, 1) := by decide +kernel
theorem dX12_calmNight_18 : decode cX12_calmNight 18 = .ok (.getfield 293, 3) := by decide +kernel
theorem dX12_calmNight_21 : decode cX12_calmNight 21 = .ok (.iconst 0, 1) := by decide +kernel
theorem dX12_calmNight_22 : decode cX12_calmNight 22 = .ok (.invokevirtual 375, 3) := by decide +kernel
theorem dX12_calmNight_25 : decode cX12_calmNight 25 = .ok (.iastore, 1) := by decide +kernel
theorem dX12_calmNight_26 : decode cX12_calmNight 26 = .ok (.iinc 1 1, 3) := by decide +kernel
theorem dX12_calmNight_29 : decode cX12_calmNight 29 = .ok (.goto (-27), 3) := by decide +kernel
theorem dX12_calmNight_32 : decode cX12_calmNight 32 = .ok (.aload_n 0, 1) := by decide +kernel
theorem dX12_calmNight_33 : decode cX12_calmNight 33 = .ok (.dup, 1) := by decide +kernel
theorem dX12_calmNight_34 : decode cX12_calmNight 34 = .ok (.getfield 293, 3) := by decide +kernel
theorem dX12_calmNight_37 : decode cX12_calmNight 37 = .ok (.iconst 1, 1) := by decide +kernel
theorem dX12_calmNight_38 : decode cX12_calmNight 38 = .ok (.iadd, 1) := by decide +kernel
theorem dX12_calmNight_39 : decode cX12_calmNight 39 = .ok (.putfield 293, 3) := by decide +kernel
theorem dX12_calmNight_42 : decode cX12_calmNight 42 = .ok (.return_, 1) := by decide +kernel
set_option maxRecDepth 100000 in
theorem u_X12_calmNight_2 {x : sm_Cx} {n : Nat} {F : sm_MI → sm_ML → Prop} {T : List sm_Sh} {I : sm_MI} {L : sm_ML} {a1 : Int32} (hB : sm_Bs T) (hx : sm_Ok x mX12_calmNight (n + 1) (sm_KV T F))
    (h : ((I 76 27) ≤ a1 → F (sm_uI I 76 34 ((I 76 34) + 1)) L) ∧ (¬ (I 76 27) ≤ a1 → sm_CI n mX12_walk T I L [.ref 76, .int a1, .int (I 76 34), .int (sm_z false)] (fun r2 I1 L1 => vp_in a1 5 ∧ (sm_V x 0 0 T (sm_uI I1 98 (Int32.toNatClampNeg (a1)) r2) L1 2 [some (.ref 76), some (.int (a1 + 1))] [])))) :
    sm_V x 0 0 T I L 2 [some (.ref 76), some (.int a1)] [] :=
  sm_iload_n (z := a1) hx dX12_calmNight_2 rfl (sm_aload_n (z := 76) hx dX12_calmNight_3 rfl (sm_getI hx dX12_calmNight_4 fl_X12_278_12 (t_76 hB) rfl (sm_icmpge (a := a1) (b := (I 76 27)) hx dX12_calmNight_7 (tgt := 32) (by decide) (fun q1 => sm_aload_n (z := 76) hx dX12_calmNight_32 rfl (sm_dup hx dX12_calmNight_33 rfl (sm_getI hx dX12_calmNight_34 fl_X12_293_12 (t_76 hB) rfl (sm_iconst (v := 1) hx dX12_calmNight_37 sm_kc_1 (sm_iadd (a := (I 76 34)) (b := 1) hx dX12_calmNight_38 (sm_putI hx dX12_calmNight_39 fl_X12_293_12 (t_76 hB) rfl (sm_vretV hx dX12_calmNight_42 rfl (h.1 q1)))))))) (fun q1 => sm_aload_n (z := 76) hx dX12_calmNight_10 rfl (sm_getR hx dX12_calmNight_11 fl_X12_78_12 (t_76 hB) rfl (sm_iload_n (z := a1) hx dX12_calmNight_14 rfl (sm_aload_n (z := 76) hx dX12_calmNight_15 rfl (sm_iload_n (z := a1) hx dX12_calmNight_16 rfl (sm_aload_n (z := 76) hx dX12_calmNight_17 rfl (sm_getI hx dX12_calmNight_18 fl_X12_293_12 (t_76 hB) rfl (sm_iconst (v := 0) hx dX12_calmNight_21 sm_kc_0 (sm_callVI (args := [.int a1, .int (I 76 34), .int (sm_z false)]) (st := [.int a1, .ref 98]) hx dX12_calmNight_22 lv_X12_375_12 rfl rfl (t_76 hB) rfl rfl (h.2 q1) (fun r2 I1 L1 hI1 => sm_iast (i := a1) (v := r2) hx dX12_calmNight_25 (t_98 hB) hI1.1 (sm_iinc (ls' := [some (.ref 76), some (.int (a1 + 1))]) (z := a1) (v := (a1 + 1)) hx dX12_calmNight_26 rfl (sm_kii_1 _) (by decide) rfl (sm_goto hx dX12_calmNight_29 (tgt := 2) (by decide) (hI1.2))))))))))))))))
set_option maxRecDepth 100000 in
theorem c_X12_calmNight {n : Nat} {F : sm_MI → sm_ML → Prop} {T : List sm_Sh} {I : sm_MI} {L : sm_ML}  (hB : sm_Bs T)
    (h : ∀ x : sm_Cx, sm_Ok x mX12_calmNight (n + 1) (sm_KV T F) → sm_V x 0 0 T I L 2 [some (.ref 76), some (.int 0)] []) :
    sm_CV (n + 1) mX12_calmNight T I L [.ref 76] F :=
  sm_CV.of (by decide +kernel) rfl (fun x hx => show sm_V x 0 0 T I L 0 [some (.ref 76), none] [] from
  sm_iconst (v := 0) hx dX12_calmNight_0 sm_kc_0 (sm_istore_n (ls' := [some (.ref 76), some (.int 0)]) hx dX12_calmNight_1 (by decide) rfl ((h x hx))))
theorem dX12_calmNights_0 : decode cX12_calmNights 0 = .ok (.iconst 0, 1) := by decide +kernel
theorem dX12_calmNights_1 : decode cX12_calmNights 1 = .ok (.istore_n 2, 1) := by decide +kernel
theorem dX12_calmNights_2 : decode cX12_calmNights 2 = .ok (.iload_n 2, 1) := by decide +kernel
theorem dX12_calmNights_3 : decode cX12_calmNights 3 = .ok (.iload_n 1, 1) := by decide +kernel
theorem dX12_calmNights_4 : decode cX12_calmNights 4 = .ok (.if_icmp .ge 13, 3) := by decide +kernel
theorem dX12_calmNights_7 : decode cX12_calmNights 7 = .ok (.aload_n 0, 1) := by decide +kernel
theorem dX12_calmNights_8 : decode cX12_calmNights 8 = .ok (.invokevirtual 382, 3) := by decide +kernel
theorem dX12_calmNights_11 : decode cX12_calmNights 11 = .ok (.iinc 2 1, 3) := by decide +kernel
theorem dX12_calmNights_14 : decode cX12_calmNights 14 = .ok (.goto (-12), 3) := by decide +kernel
theorem dX12_calmNights_17 : decode cX12_calmNights 17 = .ok (.return_, 1) := by decide +kernel
set_option maxRecDepth 100000 in
theorem u_X12_calmNights_2 {x : sm_Cx} {n : Nat} {F : sm_MI → sm_ML → Prop} {T : List sm_Sh} {I : sm_MI} {L : sm_ML} {a1 : Int32} {a2 : Int32} (hB : sm_Bs T) (hx : sm_Ok x mX12_calmNights (n + 1) (sm_KV T F))
    (h : (a1 ≤ a2 → F I L) ∧ (¬ a1 ≤ a2 → sm_CV n mX12_calmNight T I L [.ref 76] (fun I1 L1 => sm_V x 0 0 T I1 L1 2 [some (.ref 76), some (.int a1), some (.int (a2 + 1))] []))) :
    sm_V x 0 0 T I L 2 [some (.ref 76), some (.int a1), some (.int a2)] [] :=
  sm_iload_n (z := a2) hx dX12_calmNights_2 rfl (sm_iload_n (z := a1) hx dX12_calmNights_3 rfl (sm_icmpge (a := a2) (b := a1) hx dX12_calmNights_4 (tgt := 17) (by decide) (fun q1 => sm_vretV hx dX12_calmNights_17 rfl (h.1 q1)) (fun q1 => sm_aload_n (z := 76) hx dX12_calmNights_7 rfl (sm_callVV (args := []) (st := []) hx dX12_calmNights_8 lv_X12_382_12 rfl rfl (t_76 hB) rfl rfl (h.2 q1) (fun I1 L1 hI1 => sm_iinc (ls' := [some (.ref 76), some (.int a1), some (.int (a2 + 1))]) (z := a2) (v := (a2 + 1)) hx dX12_calmNights_11 rfl (sm_kii_1 _) (by decide) rfl (sm_goto hx dX12_calmNights_14 (tgt := 2) (by decide) (hI1)))))))
set_option maxRecDepth 100000 in
theorem c_X12_calmNights {n : Nat} {F : sm_MI → sm_ML → Prop} {T : List sm_Sh} {I : sm_MI} {L : sm_ML} {a1 : Int32} (hB : sm_Bs T)
    (h : ∀ x : sm_Cx, sm_Ok x mX12_calmNights (n + 1) (sm_KV T F) → sm_V x 0 0 T I L 2 [some (.ref 76), some (.int a1), some (.int 0)] []) :
    sm_CV (n + 1) mX12_calmNights T I L [.ref 76, .int a1] F :=
  sm_CV.of (by decide +kernel) rfl (fun x hx => show sm_V x 0 0 T I L 0 [some (.ref 76), some (.int a1), none] [] from
  sm_iconst (v := 0) hx dX12_calmNights_0 sm_kc_0 (sm_istore_n (ls' := [some (.ref 76), some (.int a1), some (.int 0)]) hx dX12_calmNights_1 (by decide) rfl ((h x hx))))
theorem dX12_where_0 : decode cX12_where 0 = .ok (.aload_n 0, 1) := by decide +kernel
theorem dX12_where_1 : decode cX12_where 1 = .ok (.iload_n 1, 1) := by decide +kernel
theorem dX12_where_2 : decode cX12_where 2 = .ok (.invokevirtual 318, 3) := by decide +kernel
theorem dX12_where_5 : decode cX12_where 5 = .ok (.ifCond .eq 11, 3) := by decide +kernel
theorem dX12_where_8 : decode cX12_where 8 = .ok (.aload_n 0, 1) := by decide +kernel
theorem dX12_where_9 : decode cX12_where 9 = .ok (.iload_n 2, 1) := by decide +kernel
theorem dX12_where_10 : decode cX12_where 10 = .ok (.invokevirtual 366, 3) := by decide +kernel
theorem dX12_where_13 : decode cX12_where 13 = .ok (.ifCond .ne 5, 3) := by decide +kernel
theorem dX12_where_16 : decode cX12_where 16 = .ok (.iconst (-1), 1) := by decide +kernel
theorem dX12_where_17 : decode cX12_where 17 = .ok (.ireturn, 1) := by decide +kernel
theorem dX12_where_18 : decode cX12_where 18 = .ok (.aload_n 0, 1) := by decide +kernel
theorem dX12_where_19 : decode cX12_where 19 = .ok (.invokevirtual 385, 3) := by decide +kernel
theorem dX12_where_22 : decode cX12_where 22 = .ok (.aload_n 0, 1) := by decide +kernel
theorem dX12_where_23 : decode cX12_where 23 = .ok (.iload_n 2, 1) := by decide +kernel
theorem dX12_where_24 : decode cX12_where 24 = .ok (.invokevirtual 388, 3) := by decide +kernel
theorem dX12_where_27 : decode cX12_where 27 = .ok (.aload_n 0, 1) := by decide +kernel
theorem dX12_where_28 : decode cX12_where 28 = .ok (.getfield 55, 3) := by decide +kernel
theorem dX12_where_31 : decode cX12_where 31 = .ok (.iload_n 1, 1) := by decide +kernel
theorem dX12_where_32 : decode cX12_where 32 = .ok (.iaload, 1) := by decide +kernel
theorem dX12_where_33 : decode cX12_where 33 = .ok (.istore_n 3, 1) := by decide +kernel
theorem dX12_where_34 : decode cX12_where 34 = .ok (.aload_n 0, 1) := by decide +kernel
theorem dX12_where_35 : decode cX12_where 35 = .ok (.invokevirtual 391, 3) := by decide +kernel
theorem dX12_where_38 : decode cX12_where 38 = .ok (.iload_n 3, 1) := by decide +kernel
theorem dX12_where_39 : decode cX12_where 39 = .ok (.ireturn, 1) := by decide +kernel
set_option maxRecDepth 100000 in
theorem c_X12_where {n : Nat} {F : Int32 → sm_MI → sm_ML → Prop} {T : List sm_Sh} {I : sm_MI} {L : sm_ML} {a1 : Int32} {a2 : Int32} (hB : sm_Bs T)
    (h : sm_CZ n mX12_isThing T I L [.ref 76, .int a1] (fun r2 I1 L1 => (r2 = false → F (-1) I1 L1) ∧ (r2 = true → sm_CZ n mX12_areNights T I1 L1 [.ref 76, .int a2] (fun r4 I3 L3 => (r4 = true → sm_CV n mX12_putAside T I3 L3 [.ref 76] (fun I5 L5 => sm_CV n mX12_calmNights T I5 L5 [.ref 76, .int a2] (fun I6 L6 => vp_in a1 8 ∧ (sm_CV n mX12_takeBack T I6 L6 [.ref 76] (fun I7 L7 => F (I6 92 (Int32.toNatClampNeg (a1))) I7 L7))))) ∧ (r4 = false → F (-1) I3 L3))))) :
    sm_CI (n + 1) mX12_where T I L [.ref 76, .int a1, .int a2] F :=
  sm_CI.of (by decide +kernel) rfl (fun x hx => show sm_V x 0 0 T I L 0 [some (.ref 76), some (.int a1), some (.int a2), none] [] from
  sm_aload_n (z := 76) hx dX12_where_0 rfl (sm_iload_n (z := a1) hx dX12_where_1 rfl (sm_callVZ (args := [.int a1]) (st := []) hx dX12_where_2 lv_X12_318_12 rfl rfl (t_76 hB) rfl rfl h (fun r2 I1 L1 hI1 => sm_ifeqZ (b := r2) hx dX12_where_5 (tgt := 16) (by decide) (fun q2 => sm_iconst (v := (-1)) hx dX12_where_16 sm_kc_m1 (sm_iretI hx dX12_where_17 rfl (hI1.1 q2))) (fun q2 => sm_aload_n (z := 76) hx dX12_where_8 rfl (sm_iload_n (z := a2) hx dX12_where_9 rfl (sm_callVZ (args := [.int a2]) (st := []) hx dX12_where_10 lv_X12_366_12 rfl rfl (t_76 hB) rfl rfl (hI1.2 q2) (fun r4 I3 L3 hI3 => sm_ifneZ (b := r4) hx dX12_where_13 (tgt := 18) (by decide) (fun q1 => sm_aload_n (z := 76) hx dX12_where_18 rfl (sm_callVV (args := []) (st := []) hx dX12_where_19 lv_X12_385_12 rfl rfl (t_76 hB) rfl rfl (hI3.1 q1) (fun I5 L5 hI5 => sm_aload_n (z := 76) hx dX12_where_22 rfl (sm_iload_n (z := a2) hx dX12_where_23 rfl (sm_callVV (args := [.int a2]) (st := []) hx dX12_where_24 lv_X12_388_12 rfl rfl (t_76 hB) rfl rfl hI5 (fun I6 L6 hI6 => sm_aload_n (z := 76) hx dX12_where_27 rfl (sm_getR hx dX12_where_28 fl_X12_55_12 (t_76 hB) rfl (sm_iload_n (z := a1) hx dX12_where_31 rfl (sm_iald (i := a1) hx dX12_where_32 (t_92 hB) hI6.1 (sm_istore_n (ls' := [some (.ref 76), some (.int a1), some (.int a2), some (.int (I6 92 (Int32.toNatClampNeg (a1))))]) hx dX12_where_33 (by decide) rfl (sm_aload_n (z := 76) hx dX12_where_34 rfl (sm_callVV (args := []) (st := []) hx dX12_where_35 lv_X12_391_12 rfl rfl (t_76 hB) rfl rfl hI6.2 (fun I7 L7 hI7 => sm_iload_n (z := (I6 92 (Int32.toNatClampNeg (a1)))) hx dX12_where_38 rfl (sm_iretI hx dX12_where_39 rfl hI7)))))))))))))) (fun q1 => sm_iconst (v := (-1)) hx dX12_where_16 sm_kc_m1 (sm_iretI hx dX12_where_17 rfl (hI3.2 q1)))))))))))
theorem dX12_carries_0 : decode cX12_carries 0 = .ok (.aload_n 0, 1) := by decide +kernel
theorem dX12_carries_1 : decode cX12_carries 1 = .ok (.iload_n 1, 1) := by decide +kernel
theorem dX12_carries_2 : decode cX12_carries 2 = .ok (.invokevirtual 312, 3) := by decide +kernel
theorem dX12_carries_5 : decode cX12_carries 5 = .ok (.ifCond .eq 11, 3) := by decide +kernel
theorem dX12_carries_8 : decode cX12_carries 8 = .ok (.aload_n 0, 1) := by decide +kernel
theorem dX12_carries_9 : decode cX12_carries 9 = .ok (.iload_n 2, 1) := by decide +kernel
theorem dX12_carries_10 : decode cX12_carries 10 = .ok (.invokevirtual 366, 3) := by decide +kernel
theorem dX12_carries_13 : decode cX12_carries 13 = .ok (.ifCond .ne 5, 3) := by decide +kernel
theorem dX12_carries_16 : decode cX12_carries 16 = .ok (.iconst (-1), 1) := by decide +kernel
theorem dX12_carries_17 : decode cX12_carries 17 = .ok (.ireturn, 1) := by decide +kernel
theorem dX12_carries_18 : decode cX12_carries 18 = .ok (.aload_n 0, 1) := by decide +kernel
theorem dX12_carries_19 : decode cX12_carries 19 = .ok (.invokevirtual 385, 3) := by decide +kernel
theorem dX12_carries_22 : decode cX12_carries 22 = .ok (.iconst 0, 1) := by decide +kernel
theorem dX12_carries_23 : decode cX12_carries 23 = .ok (.istore_n 3, 1) := by decide +kernel
theorem dX12_carries_24 : decode cX12_carries 24 = .ok (.iconst 0, 1) := by decide +kernel
theorem dX12_carries_25 : decode cX12_carries 25 = .ok (.istore 4, 2) := by decide +kernel
theorem dX12_carries_27 : decode cX12_carries 27 = .ok (.iload 4, 2) := by decide +kernel
theorem dX12_carries_29 : decode cX12_carries 29 = .ok (.iload_n 2, 1) := by decide +kernel
theorem dX12_carries_30 : decode cX12_carries 30 = .ok (.if_icmp .ge 31, 3) := by decide +kernel
theorem dX12_carries_33 : decode cX12_carries 33 = .ok (.aload_n 0, 1) := by decide +kernel
theorem dX12_carries_34 : decode cX12_carries 34 = .ok (.invokevirtual 382, 3) := by decide +kernel
theorem dX12_carries_37 : decode cX12_carries 37 = .ok (.iload_n 3, 1) := by decide +kernel
theorem dX12_carries_38 : decode cX12_carries 38 = .ok (.aload_n 0, 1) := by decide +kernel
theorem dX12_carries_39 : decode cX12_carries 39 = .ok (.getfield 78, 3) := by decide +kernel
theorem dX12_carries_42 : decode cX12_carries 42 = .ok (.iload_n 1, 1) := by decide +kernel
theorem dX12_carries_43 : decode cX12_carries 43 = .ok (.iaload, 1) := by decide +kernel
theorem dX12_carries_44 : decode cX12_carries 44 = .ok (.iconst (-1), 1) := by decide +kernel
theorem dX12_carries_45 : decode cX12_carries 45 = .ok (.if_icmp .eq 7, 3) := by decide +kernel
theorem dX12_carries_48 : decode cX12_carries 48 = .ok (.iconst 1, 1) := by decide +kernel
theorem dX12_carries_49 : decode cX12_carries 49 = .ok (.goto 4, 3) := by decide +kernel
theorem dX12_carries_52 : decode cX12_carries 52 = .ok (.iconst 0, 1) := by decide +kernel
theorem dX12_carries_53 : decode cX12_carries 53 = .ok (.iadd, 1) := by decide +kernel
theorem dX12_carries_54 : decode cX12_carries 54 = .ok (.istore_n 3, 1) := by decide +kernel
theorem dX12_carries_55 : decode cX12_carries 55 = .ok (.iinc 4 1, 3) := by decide +kernel
theorem dX12_carries_58 : decode cX12_carries 58 = .ok (.goto (-31), 3) := by decide +kernel
theorem dX12_carries_61 : decode cX12_carries 61 = .ok (.aload_n 0, 1) := by decide +kernel
theorem dX12_carries_62 : decode cX12_carries 62 = .ok (.invokevirtual 391, 3) := by decide +kernel
theorem dX12_carries_65 : decode cX12_carries 65 = .ok (.iload_n 3, 1) := by decide +kernel
theorem dX12_carries_66 : decode cX12_carries 66 = .ok (.ireturn, 1) := by decide +kernel
set_option maxRecDepth 100000 in
theorem u_X12_carries_27 {x : sm_Cx} {n : Nat} {F : Int32 → sm_MI → sm_ML → Prop} {T : List sm_Sh} {I : sm_MI} {L : sm_ML} {a1 : Int32} {a2 : Int32} {a3 : Int32} {a4 : Int32} (hB : sm_Bs T) (hx : sm_Ok x mX12_carries (n + 1) (sm_KI T F))
    (h : (a2 ≤ a4 → sm_CV n mX12_takeBack T I L [.ref 76] (fun I1 L1 => F a3 I1 L1)) ∧ (¬ a2 ≤ a4 → sm_CV n mX12_calmNight T I L [.ref 76] (fun I2 L2 => vp_in a1 5 ∧ (((I2 98 (Int32.toNatClampNeg (a1))) = (-1) → sm_V x 0 0 T I2 L2 27 [some (.ref 76), some (.int a1), some (.int a2), some (.int (a3 + 0)), some (.int (a4 + 1))] []) ∧ (¬ (I2 98 (Int32.toNatClampNeg (a1))) = (-1) → sm_V x 0 0 T I2 L2 27 [some (.ref 76), some (.int a1), some (.int a2), some (.int (a3 + 1)), some (.int (a4 + 1))] []))))) :
    sm_V x 0 0 T I L 27 [some (.ref 76), some (.int a1), some (.int a2), some (.int a3), some (.int a4)] [] :=
  sm_iload (z := a4) hx dX12_carries_27 rfl (sm_iload_n (z := a2) hx dX12_carries_29 rfl (sm_icmpge (a := a4) (b := a2) hx dX12_carries_30 (tgt := 61) (by decide) (fun q2 => sm_aload_n (z := 76) hx dX12_carries_61 rfl (sm_callVV (args := []) (st := []) hx dX12_carries_62 lv_X12_391_12 rfl rfl (t_76 hB) rfl rfl (h.1 q2) (fun I1 L1 hI1 => sm_iload_n (z := a3) hx dX12_carries_65 rfl (sm_iretI hx dX12_carries_66 rfl hI1)))) (fun q2 => sm_aload_n (z := 76) hx dX12_carries_33 rfl (sm_callVV (args := []) (st := []) hx dX12_carries_34 lv_X12_382_12 rfl rfl (t_76 hB) rfl rfl (h.2 q2) (fun I2 L2 hI2 => sm_iload_n (z := a3) hx dX12_carries_37 rfl (sm_aload_n (z := 76) hx dX12_carries_38 rfl (sm_getR hx dX12_carries_39 fl_X12_78_12 (t_76 hB) rfl (sm_iload_n (z := a1) hx dX12_carries_42 rfl (sm_iald (i := a1) hx dX12_carries_43 (t_98 hB) hI2.1 (sm_iconst (v := (-1)) hx dX12_carries_44 sm_kc_m1 (sm_icmpeq (a := (I2 98 (Int32.toNatClampNeg (a1)))) (b := (-1)) hx dX12_carries_45 (tgt := 52) (by decide) (fun q1 => sm_iconst (v := 0) hx dX12_carries_52 sm_kc_0 (sm_iadd (a := a3) (b := 0) hx dX12_carries_53 (sm_istore_n (ls' := [some (.ref 76), some (.int a1), some (.int a2), some (.int (a3 + 0)), some (.int a4)]) hx dX12_carries_54 (by decide) rfl (sm_iinc (ls' := [some (.ref 76), some (.int a1), some (.int a2), some (.int (a3 + 0)), some (.int (a4 + 1))]) (z := a4) (v := (a4 + 1)) hx dX12_carries_55 rfl (sm_kii_1 _) (by decide) rfl (sm_goto hx dX12_carries_58 (tgt := 27) (by decide) ((hI2.2.1 q1))))))) (fun q1 => sm_iconst (v := 1) hx dX12_carries_48 sm_kc_1 (sm_goto hx dX12_carries_49 (tgt := 53) (by decide) (sm_iadd (a := a3) (b := 1) hx dX12_carries_53 (sm_istore_n (ls' := [some (.ref 76), some (.int a1), some (.int a2), some (.int (a3 + 1)), some (.int a4)]) hx dX12_carries_54 (by decide) rfl (sm_iinc (ls' := [some (.ref 76), some (.int a1), some (.int a2), some (.int (a3 + 1)), some (.int (a4 + 1))]) (z := a4) (v := (a4 + 1)) hx dX12_carries_55 rfl (sm_kii_1 _) (by decide) rfl (sm_goto hx dX12_carries_58 (tgt := 27) (by decide) ((hI2.2.2 q1)))))))))))))))))))
set_option maxRecDepth 100000 in
theorem c_X12_carries {n : Nat} {F : Int32 → sm_MI → sm_ML → Prop} {T : List sm_Sh} {I : sm_MI} {L : sm_ML} {a1 : Int32} {a2 : Int32} (hB : sm_Bs T)
    (h : ∀ x : sm_Cx, sm_Ok x mX12_carries (n + 1) (sm_KI T F) → sm_CZ n mX12_isSleeper T I L [.ref 76, .int a1] (fun r2 I1 L1 => (r2 = false → F (-1) I1 L1) ∧ (r2 = true → sm_CZ n mX12_areNights T I1 L1 [.ref 76, .int a2] (fun r4 I3 L3 => (r4 = true → sm_CV n mX12_putAside T I3 L3 [.ref 76] (fun I5 L5 => sm_V x 0 0 T I5 L5 27 [some (.ref 76), some (.int a1), some (.int a2), some (.int 0), some (.int 0)] [])) ∧ (r4 = false → F (-1) I3 L3))))) :
    sm_CI (n + 1) mX12_carries T I L [.ref 76, .int a1, .int a2] F :=
  sm_CI.of (by decide +kernel) rfl (fun x hx => show sm_V x 0 0 T I L 0 [some (.ref 76), some (.int a1), some (.int a2), none, none] [] from
  sm_aload_n (z := 76) hx dX12_carries_0 rfl (sm_iload_n (z := a1) hx dX12_carries_1 rfl (sm_callVZ (args := [.int a1]) (st := []) hx dX12_carries_2 lv_X12_312_12 rfl rfl (t_76 hB) rfl rfl (h x hx) (fun r2 I1 L1 hI1 => sm_ifeqZ (b := r2) hx dX12_carries_5 (tgt := 16) (by decide) (fun q4 => sm_iconst (v := (-1)) hx dX12_carries_16 sm_kc_m1 (sm_iretI hx dX12_carries_17 rfl (hI1.1 q4))) (fun q4 => sm_aload_n (z := 76) hx dX12_carries_8 rfl (sm_iload_n (z := a2) hx dX12_carries_9 rfl (sm_callVZ (args := [.int a2]) (st := []) hx dX12_carries_10 lv_X12_366_12 rfl rfl (t_76 hB) rfl rfl (hI1.2 q4) (fun r4 I3 L3 hI3 => sm_ifneZ (b := r4) hx dX12_carries_13 (tgt := 18) (by decide) (fun q3 => sm_aload_n (z := 76) hx dX12_carries_18 rfl (sm_callVV (args := []) (st := []) hx dX12_carries_19 lv_X12_385_12 rfl rfl (t_76 hB) rfl rfl (hI3.1 q3) (fun I5 L5 hI5 => sm_iconst (v := 0) hx dX12_carries_22 sm_kc_0 (sm_istore_n (ls' := [some (.ref 76), some (.int a1), some (.int a2), some (.int 0), none]) hx dX12_carries_23 (by decide) rfl (sm_iconst (v := 0) hx dX12_carries_24 sm_kc_0 (sm_istore (ls' := [some (.ref 76), some (.int a1), some (.int a2), some (.int 0), some (.int 0)]) hx dX12_carries_25 (by decide) rfl (hI5))))))) (fun q3 => sm_iconst (v := (-1)) hx dX12_carries_16 sm_kc_m1 (sm_iretI hx dX12_carries_17 rfl (hI3.2 q3)))))))))))
theorem dX12_touched_0 : decode cX12_touched 0 = .ok (.aload_n 0, 1) := by decide +kernel
theorem dX12_touched_1 : decode cX12_touched 1 = .ok (.iload_n 1, 1) := by decide +kernel
theorem dX12_touched_2 : decode cX12_touched 2 = .ok (.invokevirtual 318, 3) := by decide +kernel
theorem dX12_touched_5 : decode cX12_touched 5 = .ok (.ifCond .eq 11, 3) := by decide +kernel
theorem dX12_touched_8 : decode cX12_touched 8 = .ok (.aload_n 0, 1) := by decide +kernel
theorem dX12_touched_9 : decode cX12_touched 9 = .ok (.iload_n 2, 1) := by decide +kernel
theorem dX12_touched_10 : decode cX12_touched 10 = .ok (.invokevirtual 366, 3) := by decide +kernel
theorem dX12_touched_13 : decode cX12_touched 13 = .ok (.ifCond .ne 5, 3) := by decide +kernel
theorem dX12_touched_16 : decode cX12_touched 16 = .ok (.iconst (-1), 1) := by decide +kernel
theorem dX12_touched_17 : decode cX12_touched 17 = .ok (.ireturn, 1) := by decide +kernel
theorem dX12_touched_18 : decode cX12_touched 18 = .ok (.aload_n 0, 1) := by decide +kernel
theorem dX12_touched_19 : decode cX12_touched 19 = .ok (.invokevirtual 385, 3) := by decide +kernel
theorem dX12_touched_22 : decode cX12_touched 22 = .ok (.iconst 0, 1) := by decide +kernel
theorem dX12_touched_23 : decode cX12_touched 23 = .ok (.istore_n 3, 1) := by decide +kernel
theorem dX12_touched_24 : decode cX12_touched 24 = .ok (.iconst 0, 1) := by decide +kernel
theorem dX12_touched_25 : decode cX12_touched 25 = .ok (.istore 4, 2) := by decide +kernel
theorem dX12_touched_27 : decode cX12_touched 27 = .ok (.iload 4, 2) := by decide +kernel
theorem dX12_touched_29 : decode cX12_touched 29 = .ok (.iload_n 2, 1) := by decide +kernel
theorem dX12_touched_30 : decode cX12_touched 30 = .ok (.if_icmp .ge 53, 3) := by decide +kernel
theorem dX12_touched_33 : decode cX12_touched 33 = .ok (.aload_n 0, 1) := by decide +kernel
theorem dX12_touched_34 : decode cX12_touched 34 = .ok (.invokevirtual 382, 3) := by decide +kernel
theorem dX12_touched_37 : decode cX12_touched 37 = .ok (.iconst 0, 1) := by decide +kernel
theorem dX12_touched_38 : decode cX12_touched 38 = .ok (.istore 5, 2) := by decide +kernel
theorem dX12_touched_40 : decode cX12_touched 40 = .ok (.iload 5, 2) := by decide +kernel
theorem dX12_touched_42 : decode cX12_touched 42 = .ok (.aload_n 0, 1) := by decide +kernel
theorem dX12_touched_43 : decode cX12_touched 43 = .ok (.getfield 278, 3) := by decide +kernel
theorem dX12_touched_46 : decode cX12_touched 46 = .ok (.if_icmp .ge 31, 3) := by decide +kernel
theorem dX12_touched_49 : decode cX12_touched 49 = .ok (.iload_n 3, 1) := by decide +kernel
theorem dX12_touched_50 : decode cX12_touched 50 = .ok (.aload_n 0, 1) := by decide +kernel
theorem dX12_touched_51 : decode cX12_touched 51 = .ok (.getfield 78, 3) := by decide +kernel
theorem dX12_touched_54 : decode cX12_touched 54 = .ok (.iload 5, 2) := by decide +kernel
theorem dX12_touched_56 : decode cX12_touched 56 = .ok (.iaload, 1) := by decide +kernel
theorem dX12_touched_57 : decode cX12_touched 57 = .ok (.iload_n 1, 1) := by decide +kernel
theorem dX12_touched_58 : decode cX12_touched 58 = .ok (.if_icmp .ne 10, 3) := by decide +kernel
theorem dX12_touched_61 : decode cX12_touched 61 = .ok (.iconst 1, 1) := by decide +kernel
theorem dX12_touched_62 : decode cX12_touched 62 = .ok (.iload 5, 2) := by decide +kernel
theorem dX12_touched_64 : decode cX12_touched 64 = .ok (.ishl, 1) := by decide +kernel
theorem dX12_touched_65 : decode cX12_touched 65 = .ok (.goto 4, 3) := by decide +kernel
theorem dX12_touched_68 : decode cX12_touched 68 = .ok (.iconst 0, 1) := by decide +kernel
theorem dX12_touched_69 : decode cX12_touched 69 = .ok (.ior, 1) := by decide +kernel
theorem dX12_touched_70 : decode cX12_touched 70 = .ok (.istore_n 3, 1) := by decide +kernel
theorem dX12_touched_71 : decode cX12_touched 71 = .ok (.iinc 5 1, 3) := by decide +kernel
theorem dX12_touched_74 : decode cX12_touched 74 = .ok (.goto (-34), 3) := by decide +kernel
theorem dX12_touched_77 : decode cX12_touched 77 = .ok (.iinc 4 1, 3) := by decide +kernel
theorem dX12_touched_80 : decode cX12_touched 80 = .ok (.goto (-53), 3) := by decide +kernel
theorem dX12_touched_83 : decode cX12_touched 83 = .ok (.aload_n 0, 1) := by decide +kernel
theorem dX12_touched_84 : decode cX12_touched 84 = .ok (.invokevirtual 391, 3) := by decide +kernel
theorem dX12_touched_87 : decode cX12_touched 87 = .ok (.iload_n 3, 1) := by decide +kernel
theorem dX12_touched_88 : decode cX12_touched 88 = .ok (.ireturn, 1) := by decide +kernel
set_option maxRecDepth 100000 in
theorem u_X12_touched_27 {x : sm_Cx} {n : Nat} {F : Int32 → sm_MI → sm_ML → Prop} {T : List sm_Sh} {I : sm_MI} {L : sm_ML} {a1 : Int32} {a2 : Int32} {a3 : Int32} {a4 : Int32} {u5 : Option Value} (hB : sm_Bs T) (hx : sm_Ok x mX12_touched (n + 1) (sm_KI T F))
    (h : (a2 ≤ a4 → sm_CV n mX12_takeBack T I L [.ref 76] (fun I1 L1 => F a3 I1 L1)) ∧ (¬ a2 ≤ a4 → sm_CV n mX12_calmNight T I L [.ref 76] (fun I2 L2 => sm_V x 0 0 T I2 L2 40 [some (.ref 76), some (.int a1), some (.int a2), some (.int a3), some (.int a4), some (.int 0)] []))) :
    sm_V x 0 0 T I L 27 [some (.ref 76), some (.int a1), some (.int a2), some (.int a3), some (.int a4), u5] [] :=
  sm_iload (z := a4) hx dX12_touched_27 rfl (sm_iload_n (z := a2) hx dX12_touched_29 rfl (sm_icmpge (a := a4) (b := a2) hx dX12_touched_30 (tgt := 83) (by decide) (fun q1 => sm_aload_n (z := 76) hx dX12_touched_83 rfl (sm_callVV (args := []) (st := []) hx dX12_touched_84 lv_X12_391_12 rfl rfl (t_76 hB) rfl rfl (h.1 q1) (fun I1 L1 hI1 => sm_iload_n (z := a3) hx dX12_touched_87 rfl (sm_iretI hx dX12_touched_88 rfl hI1)))) (fun q1 => sm_aload_n (z := 76) hx dX12_touched_33 rfl (sm_callVV (args := []) (st := []) hx dX12_touched_34 lv_X12_382_12 rfl rfl (t_76 hB) rfl rfl (h.2 q1) (fun I2 L2 hI2 => sm_iconst (v := 0) hx dX12_touched_37 sm_kc_0 (sm_istore (ls' := [some (.ref 76), some (.int a1), some (.int a2), some (.int a3), some (.int a4), some (.int 0)]) hx dX12_touched_38 (by decide) rfl (hI2)))))))
set_option maxRecDepth 100000 in
theorem u_X12_touched_40 {x : sm_Cx} {n : Nat} {F : Int32 → sm_MI → sm_ML → Prop} {T : List sm_Sh} {I : sm_MI} {L : sm_ML} {a1 : Int32} {a2 : Int32} {a3 : Int32} {a4 : Int32} {a5 : Int32} (hB : sm_Bs T) (hx : sm_Ok x mX12_touched (n + 1) (sm_KI T F))
    (h : ((I 76 27) ≤ a5 → sm_V x 0 0 T I L 27 [some (.ref 76), some (.int a1), some (.int a2), some (.int a3), some (.int (a4 + 1)), some (.int a5)] []) ∧ (¬ (I 76 27) ≤ a5 → vp_in a5 5 ∧ ((¬ (I 98 (Int32.toNatClampNeg (a5))) = a1 → sm_V x 0 0 T I L 40 [some (.ref 76), some (.int a1), some (.int a2), some (.int (a3 ||| 0)), some (.int a4), some (.int (a5 + 1))] []) ∧ ((I 98 (Int32.toNatClampNeg (a5))) = a1 → sm_V x 0 0 T I L 40 [some (.ref 76), some (.int a1), some (.int a2), some (.int (a3 ||| (1 <<< (a5 &&& 31)))), some (.int a4), some (.int (a5 + 1))] [])))) :
    sm_V x 0 0 T I L 40 [some (.ref 76), some (.int a1), some (.int a2), some (.int a3), some (.int a4), some (.int a5)] [] :=
  sm_iload (z := a5) hx dX12_touched_40 rfl (sm_aload_n (z := 76) hx dX12_touched_42 rfl (sm_getI hx dX12_touched_43 fl_X12_278_12 (t_76 hB) rfl (sm_icmpge (a := a5) (b := (I 76 27)) hx dX12_touched_46 (tgt := 77) (by decide) (fun q3 => sm_iinc (ls' := [some (.ref 76), some (.int a1), some (.int a2), some (.int a3), some (.int (a4 + 1)), some (.int a5)]) (z := a4) (v := (a4 + 1)) hx dX12_touched_77 rfl (sm_kii_1 _) (by decide) rfl (sm_goto hx dX12_touched_80 (tgt := 27) (by decide) ((h.1 q3)))) (fun q3 => sm_iload_n (z := a3) hx dX12_touched_49 rfl (sm_aload_n (z := 76) hx dX12_touched_50 rfl (sm_getR hx dX12_touched_51 fl_X12_78_12 (t_76 hB) rfl (sm_iload (z := a5) hx dX12_touched_54 rfl (sm_iald (i := a5) hx dX12_touched_56 (t_98 hB) (h.2 q3).1 (sm_iload_n (z := a1) hx dX12_touched_57 rfl (sm_icmpne (a := (I 98 (Int32.toNatClampNeg (a5)))) (b := a1) hx dX12_touched_58 (tgt := 68) (by decide) (fun q2 => sm_iconst (v := 0) hx dX12_touched_68 sm_kc_0 (sm_ior (a := a3) (b := 0) hx dX12_touched_69 (sm_istore_n (ls' := [some (.ref 76), some (.int a1), some (.int a2), some (.int (a3 ||| 0)), some (.int a4), some (.int a5)]) hx dX12_touched_70 (by decide) rfl (sm_iinc (ls' := [some (.ref 76), some (.int a1), some (.int a2), some (.int (a3 ||| 0)), some (.int a4), some (.int (a5 + 1))]) (z := a5) (v := (a5 + 1)) hx dX12_touched_71 rfl (sm_kii_1 _) (by decide) rfl (sm_goto hx dX12_touched_74 (tgt := 40) (by decide) (((h.2 q3).2.1 q2))))))) (fun q2 => sm_iconst (v := 1) hx dX12_touched_61 sm_kc_1 (sm_iload (z := a5) hx dX12_touched_62 rfl (sm_ishl (a := 1) (b := a5) hx dX12_touched_64 (sm_goto hx dX12_touched_65 (tgt := 69) (by decide) (sm_ior (a := a3) (b := (1 <<< (a5 &&& 31))) hx dX12_touched_69 (sm_istore_n (ls' := [some (.ref 76), some (.int a1), some (.int a2), some (.int (a3 ||| (1 <<< (a5 &&& 31)))), some (.int a4), some (.int a5)]) hx dX12_touched_70 (by decide) rfl (sm_iinc (ls' := [some (.ref 76), some (.int a1), some (.int a2), some (.int (a3 ||| (1 <<< (a5 &&& 31)))), some (.int a4), some (.int (a5 + 1))]) (z := a5) (v := (a5 + 1)) hx dX12_touched_71 rfl (sm_kii_1 _) (by decide) rfl (sm_goto hx dX12_touched_74 (tgt := 40) (by decide) (((h.2 q3).2.2 q2))))))))))))))))))))
set_option maxRecDepth 100000 in
theorem c_X12_touched {n : Nat} {F : Int32 → sm_MI → sm_ML → Prop} {T : List sm_Sh} {I : sm_MI} {L : sm_ML} {a1 : Int32} {a2 : Int32} (hB : sm_Bs T)
    (h : ∀ x : sm_Cx, sm_Ok x mX12_touched (n + 1) (sm_KI T F) → sm_CZ n mX12_isThing T I L [.ref 76, .int a1] (fun r2 I1 L1 => (r2 = false → F (-1) I1 L1) ∧ (r2 = true → sm_CZ n mX12_areNights T I1 L1 [.ref 76, .int a2] (fun r4 I3 L3 => (r4 = true → sm_CV n mX12_putAside T I3 L3 [.ref 76] (fun I5 L5 => sm_V x 0 0 T I5 L5 27 [some (.ref 76), some (.int a1), some (.int a2), some (.int 0), some (.int 0), none] [])) ∧ (r4 = false → F (-1) I3 L3))))) :
    sm_CI (n + 1) mX12_touched T I L [.ref 76, .int a1, .int a2] F :=
  sm_CI.of (by decide +kernel) rfl (fun x hx => show sm_V x 0 0 T I L 0 [some (.ref 76), some (.int a1), some (.int a2), none, none, none] [] from
  sm_aload_n (z := 76) hx dX12_touched_0 rfl (sm_iload_n (z := a1) hx dX12_touched_1 rfl (sm_callVZ (args := [.int a1]) (st := []) hx dX12_touched_2 lv_X12_318_12 rfl rfl (t_76 hB) rfl rfl (h x hx) (fun r2 I1 L1 hI1 => sm_ifeqZ (b := r2) hx dX12_touched_5 (tgt := 16) (by decide) (fun q5 => sm_iconst (v := (-1)) hx dX12_touched_16 sm_kc_m1 (sm_iretI hx dX12_touched_17 rfl (hI1.1 q5))) (fun q5 => sm_aload_n (z := 76) hx dX12_touched_8 rfl (sm_iload_n (z := a2) hx dX12_touched_9 rfl (sm_callVZ (args := [.int a2]) (st := []) hx dX12_touched_10 lv_X12_366_12 rfl rfl (t_76 hB) rfl rfl (hI1.2 q5) (fun r4 I3 L3 hI3 => sm_ifneZ (b := r4) hx dX12_touched_13 (tgt := 18) (by decide) (fun q4 => sm_aload_n (z := 76) hx dX12_touched_18 rfl (sm_callVV (args := []) (st := []) hx dX12_touched_19 lv_X12_385_12 rfl rfl (t_76 hB) rfl rfl (hI3.1 q4) (fun I5 L5 hI5 => sm_iconst (v := 0) hx dX12_touched_22 sm_kc_0 (sm_istore_n (ls' := [some (.ref 76), some (.int a1), some (.int a2), some (.int 0), none, none]) hx dX12_touched_23 (by decide) rfl (sm_iconst (v := 0) hx dX12_touched_24 sm_kc_0 (sm_istore (ls' := [some (.ref 76), some (.int a1), some (.int a2), some (.int 0), some (.int 0), none]) hx dX12_touched_25 (by decide) rfl (hI5))))))) (fun q4 => sm_iconst (v := (-1)) hx dX12_touched_16 sm_kc_m1 (sm_iretI hx dX12_touched_17 rfl (hI3.2 q4)))))))))))
