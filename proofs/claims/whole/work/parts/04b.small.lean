/-! METHODS (small), laid by program (wip/gen): what each instruction is, and between cut points what the walk asks. -/
theorem dX1_forget_0 : decode cX1_forget 0 = .ok (.aload_n 0, 1) := by decide +kernel
theorem dX1_forget_1 : decode cX1_forget 1 = .ok (.iconst 0, 1) := by decide +kernel
theorem dX1_forget_2 : decode cX1_forget 2 = .ok (.putfield 30, 3) := by decide +kernel
theorem dX1_forget_5 : decode cX1_forget 5 = .ok (.return_, 1) := by decide +kernel
set_option maxRecDepth 100000 in
theorem c_X1_forget {n : Nat} {F : sm_MI → sm_ML → Prop} {T : List sm_Sh} {I : sm_MI} {L : sm_ML}  (hB : sm_Bs T)
    (h : F (sm_uI I 37 4 0) L) :
    sm_CV n mX1_forget T I L [.ref 37] F :=
  sm_CV.of (by decide +kernel) rfl (fun x hx => show sm_V x 0 0 T I L 0 [some (.ref 37)] [] from
  sm_aload_n (z := 37) hx dX1_forget_0 rfl (sm_iconst (v := 0) hx dX1_forget_1 sm_kc_0 (sm_putI hx dX1_forget_2 fl_X1_30_2 (t_37 hB) rfl (sm_vretV hx dX1_forget_5 rfl h))))
theorem dX1_keep_0 : decode cX1_keep 0 = .ok (.aload_n 0, 1) := by decide +kernel
theorem dX1_keep_1 : decode cX1_keep 1 = .ok (.getfield 14, 3) := by decide +kernel
theorem dX1_keep_4 : decode cX1_keep 4 = .ok (.aload_n 0, 1) := by decide +kernel
theorem dX1_keep_5 : decode cX1_keep 5 = .ok (.getfield 26, 3) := by decide +kernel
theorem dX1_keep_8 : decode cX1_keep 8 = .ok (.aload_n 1, 1) := by decide +kernel
theorem dX1_keep_9 : decode cX1_keep 9 = .ok (.getfield 33, 3) := by decide +kernel
theorem dX1_keep_12 : decode cX1_keep 12 = .ok (.invokevirtual 37, 3) := by decide +kernel
theorem dX1_keep_15 : decode cX1_keep 15 = .ok (.aload_n 0, 1) := by decide +kernel
theorem dX1_keep_16 : decode cX1_keep 16 = .ok (.getfield 20, 3) := by decide +kernel
theorem dX1_keep_19 : decode cX1_keep 19 = .ok (.aload_n 0, 1) := by decide +kernel
theorem dX1_keep_20 : decode cX1_keep 20 = .ok (.getfield 26, 3) := by decide +kernel
theorem dX1_keep_23 : decode cX1_keep 23 = .ok (.aload_n 1, 1) := by decide +kernel
theorem dX1_keep_24 : decode cX1_keep 24 = .ok (.getfield 41, 3) := by decide +kernel
theorem dX1_keep_27 : decode cX1_keep 27 = .ok (.bipush 32, 2) := by decide +kernel
theorem dX1_keep_29 : decode cX1_keep 29 = .ok (.lushr, 1) := by decide +kernel
theorem dX1_keep_30 : decode cX1_keep 30 = .ok (.l2i, 1) := by decide +kernel
theorem dX1_keep_31 : decode cX1_keep 31 = .ok (.invokevirtual 37, 3) := by decide +kernel
theorem dX1_keep_34 : decode cX1_keep 34 = .ok (.aload_n 0, 1) := by decide +kernel
theorem dX1_keep_35 : decode cX1_keep 35 = .ok (.getfield 23, 3) := by decide +kernel
theorem dX1_keep_38 : decode cX1_keep 38 = .ok (.aload_n 0, 1) := by decide +kernel
theorem dX1_keep_39 : decode cX1_keep 39 = .ok (.getfield 26, 3) := by decide +kernel
theorem dX1_keep_42 : decode cX1_keep 42 = .ok (.aload_n 1, 1) := by decide +kernel
theorem dX1_keep_43 : decode cX1_keep 43 = .ok (.getfield 41, 3) := by decide +kernel
theorem dX1_keep_46 : decode cX1_keep 46 = .ok (.l2i, 1) := by decide +kernel
theorem dX1_keep_47 : decode cX1_keep 47 = .ok (.invokevirtual 37, 3) := by decide +kernel
theorem dX1_keep_50 : decode cX1_keep 50 = .ok (.aload_n 0, 1) := by decide +kernel
theorem dX1_keep_51 : decode cX1_keep 51 = .ok (.aload_n 0, 1) := by decide +kernel
theorem dX1_keep_52 : decode cX1_keep 52 = .ok (.getfield 26, 3) := by decide +kernel
theorem dX1_keep_55 : decode cX1_keep 55 = .ok (.iconst 1, 1) := by decide +kernel
theorem dX1_keep_56 : decode cX1_keep 56 = .ok (.iadd, 1) := by decide +kernel
theorem dX1_keep_57 : decode cX1_keep 57 = .ok (.bipush 60, 2) := by decide +kernel
theorem dX1_keep_59 : decode cX1_keep 59 = .ok (.irem, 1) := by decide +kernel
theorem dX1_keep_60 : decode cX1_keep 60 = .ok (.putfield 26, 3) := by decide +kernel
theorem dX1_keep_63 : decode cX1_keep 63 = .ok (.aload_n 0, 1) := by decide +kernel
theorem dX1_keep_64 : decode cX1_keep 64 = .ok (.aload_n 0, 1) := by decide +kernel
theorem dX1_keep_65 : decode cX1_keep 65 = .ok (.getfield 30, 3) := by decide +kernel
theorem dX1_keep_68 : decode cX1_keep 68 = .ok (.iconst 1, 1) := by decide +kernel
theorem dX1_keep_69 : decode cX1_keep 69 = .ok (.iadd, 1) := by decide +kernel
theorem dX1_keep_70 : decode cX1_keep 70 = .ok (.bipush 60, 2) := by decide +kernel
theorem dX1_keep_72 : decode cX1_keep 72 = .ok (.invokestatic 45, 3) := by decide +kernel
theorem dX1_keep_75 : decode cX1_keep 75 = .ok (.putfield 30, 3) := by decide +kernel
theorem dX1_keep_78 : decode cX1_keep 78 = .ok (.return_, 1) := by decide +kernel
set_option maxRecDepth 100000 in
theorem c_X1_keep {n : Nat} {F : sm_MI → sm_ML → Prop} {T : List sm_Sh} {I : sm_MI} {L : sm_ML}  (hB : sm_Bs T)
    (h : sm_CV n mX3_set T I L [.ref 38, .int (I 37 3), .int (I 35 0)] (fun I1 L1 => sm_CV n mX3_set T I1 L1 [.ref 40, .int (I1 37 3), .int (Int64.toInt32 ((Int64.toUInt64 (L1 35 3) >>> ((Int32.toInt64 32).toUInt64 &&& Int64.toUInt64 63)).toInt64))] (fun I2 L2 => sm_CV n mX3_set T I2 L2 [.ref 42, .int (I2 37 3), .int (Int64.toInt32 (L2 35 3))] (fun I3 L3 => ∀ I4 : sm_MI, I4 = (sm_uI I3 37 3 (((I3 37 3) + 1) - ((I3 37 3) + 1) / 60 * 60)) → F (sm_uI I4 37 4 (if 60 < ((I4 37 4) + 1) then 60 else ((I4 37 4) + 1))) L3)))) :
    sm_CV (n + 1) mX1_keep T I L [.ref 37, .ref 35] F :=
  sm_CV.of (by decide +kernel) rfl (fun x hx => show sm_V x 0 0 T I L 0 [some (.ref 37), some (.ref 35)] [] from
  sm_aload_n (z := 37) hx dX1_keep_0 rfl (sm_getR hx dX1_keep_1 fl_X1_14_2 (t_37 hB) rfl (sm_aload_n (z := 37) hx dX1_keep_4 rfl (sm_getI hx dX1_keep_5 fl_X1_26_2 (t_37 hB) rfl (sm_aload_n (z := 35) hx dX1_keep_8 rfl (sm_getI hx dX1_keep_9 fl_X1_33_7 (t_35 hB) rfl (sm_callVV (args := [.int (I 37 3), .int (I 35 0)]) (st := []) hx dX1_keep_12 lv_X1_37_3 rfl rfl (t_38 hB) rfl rfl h (fun I1 L1 hI1 => sm_aload_n (z := 37) hx dX1_keep_15 rfl (sm_getR hx dX1_keep_16 fl_X1_20_2 (t_37 hB) rfl (sm_aload_n (z := 37) hx dX1_keep_19 rfl (sm_getI hx dX1_keep_20 fl_X1_26_2 (t_37 hB) rfl (sm_aload_n (z := 35) hx dX1_keep_23 rfl (sm_getL hx dX1_keep_24 fl_X1_41_7 (t_35 hB) rfl (sm_bipush (v := 32) hx dX1_keep_27 sm_kb_32 (sm_lushr (a := (L1 35 3)) (b := 32) hx dX1_keep_29 (sm_l2i (a := (Int64.toUInt64 (L1 35 3) >>> ((Int32.toInt64 32).toUInt64 &&& Int64.toUInt64 63)).toInt64) hx dX1_keep_30 (sm_callVV (args := [.int (I1 37 3), .int (Int64.toInt32 ((Int64.toUInt64 (L1 35 3) >>> ((Int32.toInt64 32).toUInt64 &&& Int64.toUInt64 63)).toInt64))]) (st := []) hx dX1_keep_31 lv_X1_37_3 rfl rfl (t_40 hB) rfl rfl hI1 (fun I2 L2 hI2 => sm_aload_n (z := 37) hx dX1_keep_34 rfl (sm_getR hx dX1_keep_35 fl_X1_23_2 (t_37 hB) rfl (sm_aload_n (z := 37) hx dX1_keep_38 rfl (sm_getI hx dX1_keep_39 fl_X1_26_2 (t_37 hB) rfl (sm_aload_n (z := 35) hx dX1_keep_42 rfl (sm_getL hx dX1_keep_43 fl_X1_41_7 (t_35 hB) rfl (sm_l2i (a := (L2 35 3)) hx dX1_keep_46 (sm_callVV (args := [.int (I2 37 3), .int (Int64.toInt32 (L2 35 3))]) (st := []) hx dX1_keep_47 lv_X1_37_3 rfl rfl (t_42 hB) rfl rfl hI2 (fun I3 L3 hI3 => sm_aload_n (z := 37) hx dX1_keep_50 rfl (sm_aload_n (z := 37) hx dX1_keep_51 rfl (sm_getI hx dX1_keep_52 fl_X1_26_2 (t_37 hB) rfl (sm_iconst (v := 1) hx dX1_keep_55 sm_kc_1 (sm_iadd (a := (I3 37 3)) (b := 1) hx dX1_keep_56 (sm_bipush (v := 60) hx dX1_keep_57 sm_kb_60 (sm_irem (a := ((I3 37 3) + 1)) (b := 60) hx dX1_keep_59 (by decide) (sm_putI hx dX1_keep_60 fl_X1_26_2 (t_37 hB) rfl (sm_aload_n (z := 37) hx dX1_keep_63 rfl (sm_aload_n (z := 37) hx dX1_keep_64 rfl (sm_getI hx dX1_keep_65 fl_X1_30_2 (t_37 hB) rfl (sm_iconst (v := 1) hx dX1_keep_68 sm_kc_1 (sm_iadd (a := ((sm_uI I3 37 3 (((I3 37 3) + 1) - ((I3 37 3) + 1) / 60 * 60)) 37 4)) (b := 1) hx dX1_keep_69 (sm_bipush (v := 60) hx dX1_keep_70 sm_kb_60 (sm_mmin (a := (((sm_uI I3 37 3 (((I3 37 3) + 1) - ((I3 37 3) + 1) / 60 * 60)) 37 4) + 1)) (b := 60) hx dX1_keep_72 ml_X1_45 mm_min1 mm_2 mm_min3 rfl (sm_putI hx dX1_keep_75 fl_X1_30_2 (t_37 hB) rfl (sm_vretV hx dX1_keep_78 rfl (hI3 _ rfl)))))))))))))))))))))))))))))))))))))))))))
theorem dX1_takeBack_0 : decode cX1_takeBack 0 = .ok (.aload_n 0, 1) := by decide +kernel
theorem dX1_takeBack_1 : decode cX1_takeBack 1 = .ok (.getfield 30, 3) := by decide +kernel
theorem dX1_takeBack_4 : decode cX1_takeBack 4 = .ok (.ifCond .ne 5, 3) := by decide +kernel
theorem dX1_takeBack_7 : decode cX1_takeBack 7 = .ok (.iconst 0, 1) := by decide +kernel
theorem dX1_takeBack_8 : decode cX1_takeBack 8 = .ok (.ireturn, 1) := by decide +kernel
theorem dX1_takeBack_9 : decode cX1_takeBack 9 = .ok (.aload_n 0, 1) := by decide +kernel
theorem dX1_takeBack_10 : decode cX1_takeBack 10 = .ok (.dup, 1) := by decide +kernel
theorem dX1_takeBack_11 : decode cX1_takeBack 11 = .ok (.getfield 30, 3) := by decide +kernel
theorem dX1_takeBack_14 : decode cX1_takeBack 14 = .ok (.iconst 1, 1) := by decide +kernel
theorem dX1_takeBack_15 : decode cX1_takeBack 15 = .ok (.isub, 1) := by decide +kernel
theorem dX1_takeBack_16 : decode cX1_takeBack 16 = .ok (.putfield 30, 3) := by decide +kernel
theorem dX1_takeBack_19 : decode cX1_takeBack 19 = .ok (.aload_n 0, 1) := by decide +kernel
theorem dX1_takeBack_20 : decode cX1_takeBack 20 = .ok (.aload_n 0, 1) := by decide +kernel
theorem dX1_takeBack_21 : decode cX1_takeBack 21 = .ok (.getfield 26, 3) := by decide +kernel
theorem dX1_takeBack_24 : decode cX1_takeBack 24 = .ok (.bipush 60, 2) := by decide +kernel
theorem dX1_takeBack_26 : decode cX1_takeBack 26 = .ok (.iadd, 1) := by decide +kernel
theorem dX1_takeBack_27 : decode cX1_takeBack 27 = .ok (.iconst 1, 1) := by decide +kernel
theorem dX1_takeBack_28 : decode cX1_takeBack 28 = .ok (.isub, 1) := by decide +kernel
theorem dX1_takeBack_29 : decode cX1_takeBack 29 = .ok (.bipush 60, 2) := by decide +kernel
theorem dX1_takeBack_31 : decode cX1_takeBack 31 = .ok (.irem, 1) := by decide +kernel
theorem dX1_takeBack_32 : decode cX1_takeBack 32 = .ok (.putfield 26, 3) := by decide +kernel
theorem dX1_takeBack_35 : decode cX1_takeBack 35 = .ok (.aload_n 1, 1) := by decide +kernel
theorem dX1_takeBack_36 : decode cX1_takeBack 36 = .ok (.aload_n 0, 1) := by decide +kernel
theorem dX1_takeBack_37 : decode cX1_takeBack 37 = .ok (.getfield 14, 3) := by decide +kernel
theorem dX1_takeBack_40 : decode cX1_takeBack 40 = .ok (.aload_n 0, 1) := by decide +kernel
theorem dX1_takeBack_41 : decode cX1_takeBack 41 = .ok (.getfield 26, 3) := by decide +kernel
theorem dX1_takeBack_44 : decode cX1_takeBack 44 = .ok (.invokevirtual 51, 3) := by decide +kernel
theorem dX1_takeBack_47 : decode cX1_takeBack 47 = .ok (.putfield 33, 3) := by decide +kernel
theorem dX1_takeBack_50 : decode cX1_takeBack 50 = .ok (.aload_n 1, 1) := by decide +kernel
theorem dX1_takeBack_51 : decode cX1_takeBack 51 = .ok (.aload_n 0, 1) := by decide +kernel
theorem dX1_takeBack_52 : decode cX1_takeBack 52 = .ok (.getfield 20, 3) := by decide +kernel
theorem dX1_takeBack_55 : decode cX1_takeBack 55 = .ok (.aload_n 0, 1) := by decide +kernel
theorem dX1_takeBack_56 : decode cX1_takeBack 56 = .ok (.getfield 26, 3) := by decide +kernel
theorem dX1_takeBack_59 : decode cX1_takeBack 59 = .ok (.invokevirtual 51, 3) := by decide +kernel
theorem dX1_takeBack_62 : decode cX1_takeBack 62 = .ok (.i2l, 1) := by decide +kernel
theorem dX1_takeBack_63 : decode cX1_takeBack 63 = .ok (.bipush 32, 2) := by decide +kernel
theorem dX1_takeBack_65 : decode cX1_takeBack 65 = .ok (.lshl, 1) := by decide +kernel
theorem dX1_takeBack_66 : decode cX1_takeBack 66 = .ok (.aload_n 0, 1) := by decide +kernel
theorem dX1_takeBack_67 : decode cX1_takeBack 67 = .ok (.getfield 23, 3) := by decide +kernel
theorem dX1_takeBack_70 : decode cX1_takeBack 70 = .ok (.aload_n 0, 1) := by decide +kernel
theorem dX1_takeBack_71 : decode cX1_takeBack 71 = .ok (.getfield 26, 3) := by decide +kernel
theorem dX1_takeBack_74 : decode cX1_takeBack 74 = .ok (.invokevirtual 51, 3) := by decide +kernel
theorem dX1_takeBack_77 : decode cX1_takeBack 77 = .ok (.i2l, 1) := by decide +kernel
theorem dX1_takeBack_78 : decode cX1_takeBack 78 = .ok (.ldc2_w 55, 3) := by decide +kernel
theorem dX1_takeBack_81 : decode cX1_takeBack 81 = .ok (.land, 1) := by decide +kernel
theorem dX1_takeBack_82 : decode cX1_takeBack 82 = .ok (.lor, 1) := by decide +kernel
theorem dX1_takeBack_83 : decode cX1_takeBack 83 = .ok (.putfield 41, 3) := by decide +kernel
theorem dX1_takeBack_86 : decode cX1_takeBack 86 = .ok (.aload_n 1, 1) := by decide +kernel
theorem dX1_takeBack_87 : decode cX1_takeBack 87 = .ok (.dup, 1) := by decide +kernel
theorem dX1_takeBack_88 : decode cX1_takeBack 88 = .ok (.getfield 57, 3) := by decide +kernel
theorem dX1_takeBack_91 : decode cX1_takeBack 91 = .ok (.iconst 1, 1) := by decide +kernel
theorem dX1_takeBack_92 : decode cX1_takeBack 92 = .ok (.isub, 1) := by decide +kernel
theorem dX1_takeBack_93 : decode cX1_takeBack 93 = .ok (.putfield 57, 3) := by decide +kernel
theorem dX1_takeBack_96 : decode cX1_takeBack 96 = .ok (.iconst 1, 1) := by decide +kernel
theorem dX1_takeBack_97 : decode cX1_takeBack 97 = .ok (.ireturn, 1) := by decide +kernel
set_option maxRecDepth 100000 in
theorem c_X1_takeBack {n : Nat} {F : Bool → sm_MI → sm_ML → Prop} {T : List sm_Sh} {I : sm_MI} {L : sm_ML}  (hB : sm_Bs T)
    (h : (¬ (I 37 4) = 0 → ∀ I1 : sm_MI, I1 = (sm_uI I 37 4 ((I 37 4) - 1)) → ∀ I2 : sm_MI, I2 = (sm_uI I1 37 3 ((((I1 37 3) + 60) - 1) - (((I1 37 3) + 60) - 1) / 60 * 60)) → sm_CI n mX3_at T I2 L [.ref 38, .int (I2 37 3)] (fun r4 I3 L3 => ∀ I5 : sm_MI, I5 = (sm_uI I3 35 0 r4) → sm_CI n mX3_at T I5 L3 [.ref 40, .int (I5 37 3)] (fun r7 I6 L6 => sm_CI n mX3_at T I6 L6 [.ref 42, .int (I6 37 3)] (fun r9 I8 L8 => F true (sm_uI I8 35 1 ((I8 35 1) - 1)) (sm_uL L8 35 3 (((Int32.toInt64 r7) <<< (Int32.toInt64 32 &&& 63)) ||| ((Int32.toInt64 r9) &&& 4294967295))))))) ∧ ((I 37 4) = 0 → F false I L)) :
    sm_CZ (n + 1) mX1_takeBack T I L [.ref 37, .ref 35] F :=
  sm_CZ.of (by decide +kernel) rfl (fun x hx => show sm_V x 0 0 T I L 0 [some (.ref 37), some (.ref 35)] [] from
  sm_aload_n (z := 37) hx dX1_takeBack_0 rfl (sm_getI hx dX1_takeBack_1 fl_X1_30_2 (t_37 hB) rfl (sm_ifne (a := (I 37 4)) hx dX1_takeBack_4 (tgt := 9) (by decide) (fun q1 => sm_aload_n (z := 37) hx dX1_takeBack_9 rfl (sm_dup hx dX1_takeBack_10 rfl (sm_getI hx dX1_takeBack_11 fl_X1_30_2 (t_37 hB) rfl (sm_iconst (v := 1) hx dX1_takeBack_14 sm_kc_1 (sm_isub (a := (I 37 4)) (b := 1) hx dX1_takeBack_15 (sm_putI hx dX1_takeBack_16 fl_X1_30_2 (t_37 hB) rfl (sm_aload_n (z := 37) hx dX1_takeBack_19 rfl (sm_aload_n (z := 37) hx dX1_takeBack_20 rfl (sm_getI hx dX1_takeBack_21 fl_X1_26_2 (t_37 hB) rfl (sm_bipush (v := 60) hx dX1_takeBack_24 sm_kb_60 (sm_iadd (a := ((sm_uI I 37 4 ((I 37 4) - 1)) 37 3)) (b := 60) hx dX1_takeBack_26 (sm_iconst (v := 1) hx dX1_takeBack_27 sm_kc_1 (sm_isub (a := (((sm_uI I 37 4 ((I 37 4) - 1)) 37 3) + 60)) (b := 1) hx dX1_takeBack_28 (sm_bipush (v := 60) hx dX1_takeBack_29 sm_kb_60 (sm_irem (a := ((((sm_uI I 37 4 ((I 37 4) - 1)) 37 3) + 60) - 1)) (b := 60) hx dX1_takeBack_31 (by decide) (sm_putI hx dX1_takeBack_32 fl_X1_26_2 (t_37 hB) rfl (sm_aload_n (z := 35) hx dX1_takeBack_35 rfl (sm_aload_n (z := 37) hx dX1_takeBack_36 rfl (sm_getR hx dX1_takeBack_37 fl_X1_14_2 (t_37 hB) rfl (sm_aload_n (z := 37) hx dX1_takeBack_40 rfl (sm_getI hx dX1_takeBack_41 fl_X1_26_2 (t_37 hB) rfl (sm_callVI (args := [.int ((sm_uI (sm_uI I 37 4 ((I 37 4) - 1)) 37 3 (((((sm_uI I 37 4 ((I 37 4) - 1)) 37 3) + 60) - 1) - ((((sm_uI I 37 4 ((I 37 4) - 1)) 37 3) + 60) - 1) / 60 * 60)) 37 3)]) (st := [.ref 35]) hx dX1_takeBack_44 lv_X1_51_3 rfl rfl (t_38 hB) rfl rfl (((h.1 q1) _ rfl) _ rfl) (fun r4 I3 L3 hI3 => sm_putI hx dX1_takeBack_47 fl_X1_33_7 (t_35 hB) rfl (sm_aload_n (z := 35) hx dX1_takeBack_50 rfl (sm_aload_n (z := 37) hx dX1_takeBack_51 rfl (sm_getR hx dX1_takeBack_52 fl_X1_20_2 (t_37 hB) rfl (sm_aload_n (z := 37) hx dX1_takeBack_55 rfl (sm_getI hx dX1_takeBack_56 fl_X1_26_2 (t_37 hB) rfl (sm_callVI (args := [.int ((sm_uI I3 35 0 r4) 37 3)]) (st := [.ref 35]) hx dX1_takeBack_59 lv_X1_51_3 rfl rfl (t_40 hB) rfl rfl (hI3 _ rfl) (fun r7 I6 L6 hI6 => sm_i2l (a := r7) hx dX1_takeBack_62 (sm_bipush (v := 32) hx dX1_takeBack_63 sm_kb_32 (sm_lshl (a := (Int32.toInt64 r7)) (b := 32) hx dX1_takeBack_65 (sm_aload_n (z := 37) hx dX1_takeBack_66 rfl (sm_getR hx dX1_takeBack_67 fl_X1_23_2 (t_37 hB) rfl (sm_aload_n (z := 37) hx dX1_takeBack_70 rfl (sm_getI hx dX1_takeBack_71 fl_X1_26_2 (t_37 hB) rfl (sm_callVI (args := [.int (I6 37 3)]) (st := [.long ((Int32.toInt64 r7) <<< (Int32.toInt64 32 &&& 63)), .ref 35]) hx dX1_takeBack_74 lv_X1_51_3 rfl rfl (t_42 hB) rfl rfl hI6 (fun r9 I8 L8 hI8 => sm_i2l (a := r9) hx dX1_takeBack_77 (sm_ldc2 (v := 4294967295) hx dX1_takeBack_78 k_X1_55 (sm_land (a := (Int32.toInt64 r9)) (b := 4294967295) hx dX1_takeBack_81 (sm_lor (a := ((Int32.toInt64 r7) <<< (Int32.toInt64 32 &&& 63))) (b := ((Int32.toInt64 r9) &&& 4294967295)) hx dX1_takeBack_82 (sm_putL hx dX1_takeBack_83 fl_X1_41_7 (t_35 hB) rfl (sm_aload_n (z := 35) hx dX1_takeBack_86 rfl (sm_dup hx dX1_takeBack_87 rfl (sm_getI hx dX1_takeBack_88 fl_X1_57_7 (t_35 hB) rfl (sm_iconst (v := 1) hx dX1_takeBack_91 sm_kc_1 (sm_isub (a := (I8 35 1)) (b := 1) hx dX1_takeBack_92 (sm_putI hx dX1_takeBack_93 fl_X1_57_7 (t_35 hB) rfl (sm_iconst (v := 1) hx dX1_takeBack_96 sm_kc_1 (sm_iretZ (z := true) hx dX1_takeBack_97 rfl hI8)))))))))))))))))))))))))))))))))))))))))))))))))) (fun q1 => sm_iconst (v := 0) hx dX1_takeBack_7 sm_kc_0 (sm_iretZ (z := false) hx dX1_takeBack_8 rfl (h.2 q1))))))
theorem dX2_begin_0 : decode cX2_begin 0 = .ok (.aload_n 0, 1) := by decide +kernel
theorem dX2_begin_1 : decode cX2_begin 1 = .ok (.iconst 0, 1) := by decide +kernel
theorem dX2_begin_2 : decode cX2_begin 2 = .ok (.putfield 9, 3) := by decide +kernel
theorem dX2_begin_5 : decode cX2_begin 5 = .ok (.return_, 1) := by decide +kernel
set_option maxRecDepth 100000 in
theorem c_X2_begin_s {n : Nat} {F : sm_MI → sm_ML → Prop} {T : List sm_Sh} {I : sm_MI} {L : sm_ML}  (hB : sm_Bs T)
    (h : F (sm_uI I 4 1 0) L) :
    sm_CV n mX2_begin T I L [.ref 4] F :=
  sm_CV.of (by decide +kernel) rfl (fun x hx => show sm_V x 0 0 T I L 0 [some (.ref 4)] [] from
  sm_aload_n (z := 4) hx dX2_begin_0 rfl (sm_iconst (v := 0) hx dX2_begin_1 sm_kc_0 (sm_putI hx dX2_begin_2 fl_X2_9_9 (t_4 hB) rfl (sm_vretV hx dX2_begin_5 rfl h))))
set_option maxRecDepth 100000 in
theorem c_X2_begin_r {n : Nat} {F : sm_MI → sm_ML → Prop} {T : List sm_Sh} {I : sm_MI} {L : sm_ML}  (hB : sm_Bs T)
    (h : F (sm_uI I 18 1 0) L) :
    sm_CV n mX2_begin T I L [.ref 18] F :=
  sm_CV.of (by decide +kernel) rfl (fun x hx => show sm_V x 0 0 T I L 0 [some (.ref 18)] [] from
  sm_aload_n (z := 18) hx dX2_begin_0 rfl (sm_iconst (v := 0) hx dX2_begin_1 sm_kc_0 (sm_putI hx dX2_begin_2 fl_X2_9_5 (t_18 hB) rfl (sm_vretV hx dX2_begin_5 rfl h))))
theorem dX2_faultHere_0 : decode cX2_faultHere 0 = .ok (.aload_n 0, 1) := by decide +kernel
theorem dX2_faultHere_1 : decode cX2_faultHere 1 = .ok (.getfield 9, 3) := by decide +kernel
theorem dX2_faultHere_4 : decode cX2_faultHere 4 = .ok (.ireturn, 1) := by decide +kernel
set_option maxRecDepth 100000 in
theorem c_X2_faultHere_s {n : Nat} {F : Int32 → sm_MI → sm_ML → Prop} {T : List sm_Sh} {I : sm_MI} {L : sm_ML}  (hB : sm_Bs T)
    (h : F (I 4 1) I L) :
    sm_CI n mX2_faultHere T I L [.ref 4] F :=
  sm_CI.of (by decide +kernel) rfl (fun x hx => show sm_V x 0 0 T I L 0 [some (.ref 4)] [] from
  sm_aload_n (z := 4) hx dX2_faultHere_0 rfl (sm_getI hx dX2_faultHere_1 fl_X2_9_9 (t_4 hB) rfl (sm_iretI hx dX2_faultHere_4 rfl h)))
set_option maxRecDepth 100000 in
theorem c_X2_faultHere_r {n : Nat} {F : Int32 → sm_MI → sm_ML → Prop} {T : List sm_Sh} {I : sm_MI} {L : sm_ML}  (hB : sm_Bs T)
    (h : F (I 18 1) I L) :
    sm_CI n mX2_faultHere T I L [.ref 18] F :=
  sm_CI.of (by decide +kernel) rfl (fun x hx => show sm_V x 0 0 T I L 0 [some (.ref 18)] [] from
  sm_aload_n (z := 18) hx dX2_faultHere_0 rfl (sm_getI hx dX2_faultHere_1 fl_X2_9_5 (t_18 hB) rfl (sm_iretI hx dX2_faultHere_4 rfl h)))
theorem dX2_signHere_0 : decode cX2_signHere 0 = .ok (.aload_n 0, 1) := by decide +kernel
theorem dX2_signHere_1 : decode cX2_signHere 1 = .ok (.getfield 9, 3) := by decide +kernel
theorem dX2_signHere_4 : decode cX2_signHere 4 = .ok (.aload_n 0, 1) := by decide +kernel
theorem dX2_signHere_5 : decode cX2_signHere 5 = .ok (.getfield 15, 3) := by decide +kernel
theorem dX2_signHere_8 : decode cX2_signHere 8 = .ok (.getfield 19, 3) := by decide +kernel
theorem dX2_signHere_11 : decode cX2_signHere 11 = .ok (.if_icmp .ge 20, 3) := by decide +kernel
theorem dX2_signHere_14 : decode cX2_signHere 14 = .ok (.aload_n 0, 1) := by decide +kernel
theorem dX2_signHere_15 : decode cX2_signHere 15 = .ok (.getfield 15, 3) := by decide +kernel
theorem dX2_signHere_18 : decode cX2_signHere 18 = .ok (.getfield 24, 3) := by decide +kernel
theorem dX2_signHere_21 : decode cX2_signHere 21 = .ok (.aload_n 0, 1) := by decide +kernel
theorem dX2_signHere_22 : decode cX2_signHere 22 = .ok (.getfield 9, 3) := by decide +kernel
theorem dX2_signHere_25 : decode cX2_signHere 25 = .ok (.invokevirtual 28, 3) := by decide +kernel
theorem dX2_signHere_28 : decode cX2_signHere 28 = .ok (.goto 4, 3) := by decide +kernel
theorem dX2_signHere_31 : decode cX2_signHere 31 = .ok (.iconst (-1), 1) := by decide +kernel
theorem dX2_signHere_32 : decode cX2_signHere 32 = .ok (.ireturn, 1) := by decide +kernel
set_option maxRecDepth 100000 in
theorem c_X2_signHere_s {n : Nat} {F : Int32 → sm_MI → sm_ML → Prop} {T : List sm_Sh} {I : sm_MI} {L : sm_ML}  (hB : sm_Bs T)
    (h : ((I 1 1) ≤ (I 4 1) → F (-1) I L) ∧ (¬ (I 1 1) ≤ (I 4 1) → sm_CI n mX3_at T I L [.ref 2, .int (I 4 1)] (fun r2 I1 L1 => F r2 I1 L1))) :
    sm_CI (n + 1) mX2_signHere T I L [.ref 4] F :=
  sm_CI.of (by decide +kernel) rfl (fun x hx => show sm_V x 0 0 T I L 0 [some (.ref 4)] [] from
  sm_aload_n (z := 4) hx dX2_signHere_0 rfl (sm_getI hx dX2_signHere_1 fl_X2_9_9 (t_4 hB) rfl (sm_aload_n (z := 4) hx dX2_signHere_4 rfl (sm_getR hx dX2_signHere_5 fl_X2_15_9 (t_4 hB) rfl (sm_getI hx dX2_signHere_8 fl_X2_19_10 (t_1 hB) rfl (sm_icmpge (a := (I 4 1)) (b := (I 1 1)) hx dX2_signHere_11 (tgt := 31) (by decide) (fun q1 => sm_iconst (v := (-1)) hx dX2_signHere_31 sm_kc_m1 (sm_iretI hx dX2_signHere_32 rfl (h.1 q1))) (fun q1 => sm_aload_n (z := 4) hx dX2_signHere_14 rfl (sm_getR hx dX2_signHere_15 fl_X2_15_9 (t_4 hB) rfl (sm_getR hx dX2_signHere_18 fl_X2_24_10 (t_1 hB) rfl (sm_aload_n (z := 4) hx dX2_signHere_21 rfl (sm_getI hx dX2_signHere_22 fl_X2_9_9 (t_4 hB) rfl (sm_callVI (args := [.int (I 4 1)]) (st := []) hx dX2_signHere_25 lv_X2_28_3 rfl rfl (t_2 hB) rfl rfl (h.2 q1) (fun r2 I1 L1 hI1 => sm_goto hx dX2_signHere_28 (tgt := 32) (by decide) (sm_iretI hx dX2_signHere_32 rfl hI1))))))))))))))
set_option maxRecDepth 100000 in
theorem c_X2_signHere_r {n : Nat} {F : Int32 → sm_MI → sm_ML → Prop} {T : List sm_Sh} {I : sm_MI} {L : sm_ML}  (hB : sm_Bs T)
    (h : ((I 1 1) ≤ (I 18 1) → F (-1) I L) ∧ (¬ (I 1 1) ≤ (I 18 1) → sm_CI n mX3_at T I L [.ref 2, .int (I 18 1)] (fun r2 I1 L1 => F r2 I1 L1))) :
    sm_CI (n + 1) mX2_signHere T I L [.ref 18] F :=
  sm_CI.of (by decide +kernel) rfl (fun x hx => show sm_V x 0 0 T I L 0 [some (.ref 18)] [] from
  sm_aload_n (z := 18) hx dX2_signHere_0 rfl (sm_getI hx dX2_signHere_1 fl_X2_9_5 (t_18 hB) rfl (sm_aload_n (z := 18) hx dX2_signHere_4 rfl (sm_getR hx dX2_signHere_5 fl_X2_15_5 (t_18 hB) rfl (sm_getI hx dX2_signHere_8 fl_X2_19_10 (t_1 hB) rfl (sm_icmpge (a := (I 18 1)) (b := (I 1 1)) hx dX2_signHere_11 (tgt := 31) (by decide) (fun q1 => sm_iconst (v := (-1)) hx dX2_signHere_31 sm_kc_m1 (sm_iretI hx dX2_signHere_32 rfl (h.1 q1))) (fun q1 => sm_aload_n (z := 18) hx dX2_signHere_14 rfl (sm_getR hx dX2_signHere_15 fl_X2_15_5 (t_18 hB) rfl (sm_getR hx dX2_signHere_18 fl_X2_24_10 (t_1 hB) rfl (sm_aload_n (z := 18) hx dX2_signHere_21 rfl (sm_getI hx dX2_signHere_22 fl_X2_9_5 (t_18 hB) rfl (sm_callVI (args := [.int (I 18 1)]) (st := []) hx dX2_signHere_25 lv_X2_28_3 rfl rfl (t_2 hB) rfl rfl (h.2 q1) (fun r2 I1 L1 hI1 => sm_goto hx dX2_signHere_28 (tgt := 32) (by decide) (sm_iretI hx dX2_signHere_32 rfl hI1))))))))))))))
theorem dX2_nextSign_0 : decode cX2_nextSign 0 = .ok (.aload_n 0, 1) := by decide +kernel
theorem dX2_nextSign_1 : decode cX2_nextSign 1 = .ok (.getfield 9, 3) := by decide +kernel
theorem dX2_nextSign_4 : decode cX2_nextSign 4 = .ok (.aload_n 0, 1) := by decide +kernel
theorem dX2_nextSign_5 : decode cX2_nextSign 5 = .ok (.getfield 15, 3) := by decide +kernel
theorem dX2_nextSign_8 : decode cX2_nextSign 8 = .ok (.getfield 19, 3) := by decide +kernel
theorem dX2_nextSign_11 : decode cX2_nextSign 11 = .ok (.if_icmp .ge 35, 3) := by decide +kernel
theorem dX2_nextSign_14 : decode cX2_nextSign 14 = .ok (.aload_n 0, 1) := by decide +kernel
theorem dX2_nextSign_15 : decode cX2_nextSign 15 = .ok (.getfield 15, 3) := by decide +kernel
theorem dX2_nextSign_18 : decode cX2_nextSign 18 = .ok (.getfield 24, 3) := by decide +kernel
theorem dX2_nextSign_21 : decode cX2_nextSign 21 = .ok (.aload_n 0, 1) := by decide +kernel
theorem dX2_nextSign_22 : decode cX2_nextSign 22 = .ok (.getfield 9, 3) := by decide +kernel
theorem dX2_nextSign_25 : decode cX2_nextSign 25 = .ok (.invokevirtual 28, 3) := by decide +kernel
theorem dX2_nextSign_28 : decode cX2_nextSign 28 = .ok (.bipush 32, 2) := by decide +kernel
theorem dX2_nextSign_30 : decode cX2_nextSign 30 = .ok (.if_icmp .ne 16, 3) := by decide +kernel
theorem dX2_nextSign_33 : decode cX2_nextSign 33 = .ok (.aload_n 0, 1) := by decide +kernel
theorem dX2_nextSign_34 : decode cX2_nextSign 34 = .ok (.dup, 1) := by decide +kernel
theorem dX2_nextSign_35 : decode cX2_nextSign 35 = .ok (.getfield 9, 3) := by decide +kernel
theorem dX2_nextSign_38 : decode cX2_nextSign 38 = .ok (.iconst 1, 1) := by decide +kernel
theorem dX2_nextSign_39 : decode cX2_nextSign 39 = .ok (.iadd, 1) := by decide +kernel
theorem dX2_nextSign_40 : decode cX2_nextSign 40 = .ok (.putfield 9, 3) := by decide +kernel
theorem dX2_nextSign_43 : decode cX2_nextSign 43 = .ok (.goto (-43), 3) := by decide +kernel
theorem dX2_nextSign_46 : decode cX2_nextSign 46 = .ok (.aload_n 0, 1) := by decide +kernel
theorem dX2_nextSign_47 : decode cX2_nextSign 47 = .ok (.getfield 9, 3) := by decide +kernel
theorem dX2_nextSign_50 : decode cX2_nextSign 50 = .ok (.aload_n 0, 1) := by decide +kernel
theorem dX2_nextSign_51 : decode cX2_nextSign 51 = .ok (.getfield 15, 3) := by decide +kernel
theorem dX2_nextSign_54 : decode cX2_nextSign 54 = .ok (.getfield 19, 3) := by decide +kernel
theorem dX2_nextSign_57 : decode cX2_nextSign 57 = .ok (.if_icmp .ge 20, 3) := by decide +kernel
theorem dX2_nextSign_60 : decode cX2_nextSign 60 = .ok (.aload_n 0, 1) := by decide +kernel
theorem dX2_nextSign_61 : decode cX2_nextSign 61 = .ok (.getfield 15, 3) := by decide +kernel
theorem dX2_nextSign_64 : decode cX2_nextSign 64 = .ok (.getfield 24, 3) := by decide +kernel
theorem dX2_nextSign_67 : decode cX2_nextSign 67 = .ok (.aload_n 0, 1) := by decide +kernel
theorem dX2_nextSign_68 : decode cX2_nextSign 68 = .ok (.getfield 9, 3) := by decide +kernel
theorem dX2_nextSign_71 : decode cX2_nextSign 71 = .ok (.invokevirtual 28, 3) := by decide +kernel
theorem dX2_nextSign_74 : decode cX2_nextSign 74 = .ok (.goto 4, 3) := by decide +kernel
theorem dX2_nextSign_77 : decode cX2_nextSign 77 = .ok (.iconst (-1), 1) := by decide +kernel
theorem dX2_nextSign_78 : decode cX2_nextSign 78 = .ok (.ireturn, 1) := by decide +kernel
set_option maxRecDepth 100000 in
theorem u_X2_nextSign_s_0 {x : sm_Cx} {n : Nat} {F : Int32 → sm_MI → sm_ML → Prop} {T : List sm_Sh} {I : sm_MI} {L : sm_ML}  (hB : sm_Bs T) (hx : sm_Ok x mX2_nextSign (n + 1) (sm_KI T F))
    (h : ((I 1 1) ≤ (I 4 1) → ((I 1 1) ≤ (I 4 1) → F (-1) I L) ∧ (¬ (I 1 1) ≤ (I 4 1) → sm_CI n mX3_at T I L [.ref 2, .int (I 4 1)] (fun r2 I1 L1 => F r2 I1 L1))) ∧ (¬ (I 1 1) ≤ (I 4 1) → sm_CI n mX3_at T I L [.ref 2, .int (I 4 1)] (fun r4 I3 L3 => (¬ r4 = 32 → ((I3 1 1) ≤ (I3 4 1) → F (-1) I3 L3) ∧ (¬ (I3 1 1) ≤ (I3 4 1) → sm_CI n mX3_at T I3 L3 [.ref 2, .int (I3 4 1)] (fun r6 I5 L5 => F r6 I5 L5))) ∧ (r4 = 32 → sm_V x 0 0 T (sm_uI I3 4 1 ((I3 4 1) + 1)) L3 0 [some (.ref 4)] [])))) :
    sm_V x 0 0 T I L 0 [some (.ref 4)] [] :=
  sm_aload_n (z := 4) hx dX2_nextSign_0 rfl (sm_getI hx dX2_nextSign_1 fl_X2_9_9 (t_4 hB) rfl (sm_aload_n (z := 4) hx dX2_nextSign_4 rfl (sm_getR hx dX2_nextSign_5 fl_X2_15_9 (t_4 hB) rfl (sm_getI hx dX2_nextSign_8 fl_X2_19_10 (t_1 hB) rfl (sm_icmpge (a := (I 4 1)) (b := (I 1 1)) hx dX2_nextSign_11 (tgt := 46) (by decide) (fun q4 => sm_aload_n (z := 4) hx dX2_nextSign_46 rfl (sm_getI hx dX2_nextSign_47 fl_X2_9_9 (t_4 hB) rfl (sm_aload_n (z := 4) hx dX2_nextSign_50 rfl (sm_getR hx dX2_nextSign_51 fl_X2_15_9 (t_4 hB) rfl (sm_getI hx dX2_nextSign_54 fl_X2_19_10 (t_1 hB) rfl (sm_icmpge (a := (I 4 1)) (b := (I 1 1)) hx dX2_nextSign_57 (tgt := 77) (by decide) (fun q1 => sm_iconst (v := (-1)) hx dX2_nextSign_77 sm_kc_m1 (sm_iretI hx dX2_nextSign_78 rfl ((h.1 q4).1 q1))) (fun q1 => sm_aload_n (z := 4) hx dX2_nextSign_60 rfl (sm_getR hx dX2_nextSign_61 fl_X2_15_9 (t_4 hB) rfl (sm_getR hx dX2_nextSign_64 fl_X2_24_10 (t_1 hB) rfl (sm_aload_n (z := 4) hx dX2_nextSign_67 rfl (sm_getI hx dX2_nextSign_68 fl_X2_9_9 (t_4 hB) rfl (sm_callVI (args := [.int (I 4 1)]) (st := []) hx dX2_nextSign_71 lv_X2_28_3 rfl rfl (t_2 hB) rfl rfl ((h.1 q4).2 q1) (fun r2 I1 L1 hI1 => sm_goto hx dX2_nextSign_74 (tgt := 78) (by decide) (sm_iretI hx dX2_nextSign_78 rfl hI1)))))))))))))) (fun q4 => sm_aload_n (z := 4) hx dX2_nextSign_14 rfl (sm_getR hx dX2_nextSign_15 fl_X2_15_9 (t_4 hB) rfl (sm_getR hx dX2_nextSign_18 fl_X2_24_10 (t_1 hB) rfl (sm_aload_n (z := 4) hx dX2_nextSign_21 rfl (sm_getI hx dX2_nextSign_22 fl_X2_9_9 (t_4 hB) rfl (sm_callVI (args := [.int (I 4 1)]) (st := []) hx dX2_nextSign_25 lv_X2_28_3 rfl rfl (t_2 hB) rfl rfl (h.2 q4) (fun r4 I3 L3 hI3 => sm_bipush (v := 32) hx dX2_nextSign_28 sm_kb_32 (sm_icmpne (a := r4) (b := 32) hx dX2_nextSign_30 (tgt := 46) (by decide) (fun q3 => sm_aload_n (z := 4) hx dX2_nextSign_46 rfl (sm_getI hx dX2_nextSign_47 fl_X2_9_9 (t_4 hB) rfl (sm_aload_n (z := 4) hx dX2_nextSign_50 rfl (sm_getR hx dX2_nextSign_51 fl_X2_15_9 (t_4 hB) rfl (sm_getI hx dX2_nextSign_54 fl_X2_19_10 (t_1 hB) rfl (sm_icmpge (a := (I3 4 1)) (b := (I3 1 1)) hx dX2_nextSign_57 (tgt := 77) (by decide) (fun q2 => sm_iconst (v := (-1)) hx dX2_nextSign_77 sm_kc_m1 (sm_iretI hx dX2_nextSign_78 rfl ((hI3.1 q3).1 q2))) (fun q2 => sm_aload_n (z := 4) hx dX2_nextSign_60 rfl (sm_getR hx dX2_nextSign_61 fl_X2_15_9 (t_4 hB) rfl (sm_getR hx dX2_nextSign_64 fl_X2_24_10 (t_1 hB) rfl (sm_aload_n (z := 4) hx dX2_nextSign_67 rfl (sm_getI hx dX2_nextSign_68 fl_X2_9_9 (t_4 hB) rfl (sm_callVI (args := [.int (I3 4 1)]) (st := []) hx dX2_nextSign_71 lv_X2_28_3 rfl rfl (t_2 hB) rfl rfl ((hI3.1 q3).2 q2) (fun r6 I5 L5 hI5 => sm_goto hx dX2_nextSign_74 (tgt := 78) (by decide) (sm_iretI hx dX2_nextSign_78 rfl hI5)))))))))))))) (fun q3 => sm_aload_n (z := 4) hx dX2_nextSign_33 rfl (sm_dup hx dX2_nextSign_34 rfl (sm_getI hx dX2_nextSign_35 fl_X2_9_9 (t_4 hB) rfl (sm_iconst (v := 1) hx dX2_nextSign_38 sm_kc_1 (sm_iadd (a := (I3 4 1)) (b := 1) hx dX2_nextSign_39 (sm_putI hx dX2_nextSign_40 fl_X2_9_9 (t_4 hB) rfl (sm_goto hx dX2_nextSign_43 (tgt := 0) (by decide) ((hI3.2 q3))))))))))))))))))))))
set_option maxRecDepth 100000 in
theorem c_X2_nextSign_s {n : Nat} {F : Int32 → sm_MI → sm_ML → Prop} {T : List sm_Sh} {I : sm_MI} {L : sm_ML}  (hB : sm_Bs T)
    (h : ∀ x : sm_Cx, sm_Ok x mX2_nextSign (n + 1) (sm_KI T F) → sm_V x 0 0 T I L 0 [some (.ref 4)] []) :
    sm_CI (n + 1) mX2_nextSign T I L [.ref 4] F :=
  sm_CI.of (by decide +kernel) rfl (fun x hx => show sm_V x 0 0 T I L 0 [some (.ref 4)] [] from h x hx)
set_option maxRecDepth 100000 in
theorem u_X2_nextSign_r_0 {x : sm_Cx} {n : Nat} {F : Int32 → sm_MI → sm_ML → Prop} {T : List sm_Sh} {I : sm_MI} {L : sm_ML}  (hB : sm_Bs T) (hx : sm_Ok x mX2_nextSign (n + 1) (sm_KI T F))
    (h : ((I 1 1) ≤ (I 18 1) → ((I 1 1) ≤ (I 18 1) → F (-1) I L) ∧ (¬ (I 1 1) ≤ (I 18 1) → sm_CI n mX3_at T I L [.ref 2, .int (I 18 1)] (fun r2 I1 L1 => F r2 I1 L1))) ∧ (¬ (I 1 1) ≤ (I 18 1) → sm_CI n mX3_at T I L [.ref 2, .int (I 18 1)] (fun r4 I3 L3 => (¬ r4 = 32 → ((I3 1 1) ≤ (I3 18 1) → F (-1) I3 L3) ∧ (¬ (I3 1 1) ≤ (I3 18 1) → sm_CI n mX3_at T I3 L3 [.ref 2, .int (I3 18 1)] (fun r6 I5 L5 => F r6 I5 L5))) ∧ (r4 = 32 → sm_V x 0 0 T (sm_uI I3 18 1 ((I3 18 1) + 1)) L3 0 [some (.ref 18)] [])))) :
    sm_V x 0 0 T I L 0 [some (.ref 18)] [] :=
  sm_aload_n (z := 18) hx dX2_nextSign_0 rfl (sm_getI hx dX2_nextSign_1 fl_X2_9_5 (t_18 hB) rfl (sm_aload_n (z := 18) hx dX2_nextSign_4 rfl (sm_getR hx dX2_nextSign_5 fl_X2_15_5 (t_18 hB) rfl (sm_getI hx dX2_nextSign_8 fl_X2_19_10 (t_1 hB) rfl (sm_icmpge (a := (I 18 1)) (b := (I 1 1)) hx dX2_nextSign_11 (tgt := 46) (by decide) (fun q4 => sm_aload_n (z := 18) hx dX2_nextSign_46 rfl (sm_getI hx dX2_nextSign_47 fl_X2_9_5 (t_18 hB) rfl (sm_aload_n (z := 18) hx dX2_nextSign_50 rfl (sm_getR hx dX2_nextSign_51 fl_X2_15_5 (t_18 hB) rfl (sm_getI hx dX2_nextSign_54 fl_X2_19_10 (t_1 hB) rfl (sm_icmpge (a := (I 18 1)) (b := (I 1 1)) hx dX2_nextSign_57 (tgt := 77) (by decide) (fun q1 => sm_iconst (v := (-1)) hx dX2_nextSign_77 sm_kc_m1 (sm_iretI hx dX2_nextSign_78 rfl ((h.1 q4).1 q1))) (fun q1 => sm_aload_n (z := 18) hx dX2_nextSign_60 rfl (sm_getR hx dX2_nextSign_61 fl_X2_15_5 (t_18 hB) rfl (sm_getR hx dX2_nextSign_64 fl_X2_24_10 (t_1 hB) rfl (sm_aload_n (z := 18) hx dX2_nextSign_67 rfl (sm_getI hx dX2_nextSign_68 fl_X2_9_5 (t_18 hB) rfl (sm_callVI (args := [.int (I 18 1)]) (st := []) hx dX2_nextSign_71 lv_X2_28_3 rfl rfl (t_2 hB) rfl rfl ((h.1 q4).2 q1) (fun r2 I1 L1 hI1 => sm_goto hx dX2_nextSign_74 (tgt := 78) (by decide) (sm_iretI hx dX2_nextSign_78 rfl hI1)))))))))))))) (fun q4 => sm_aload_n (z := 18) hx dX2_nextSign_14 rfl (sm_getR hx dX2_nextSign_15 fl_X2_15_5 (t_18 hB) rfl (sm_getR hx dX2_nextSign_18 fl_X2_24_10 (t_1 hB) rfl (sm_aload_n (z := 18) hx dX2_nextSign_21 rfl (sm_getI hx dX2_nextSign_22 fl_X2_9_5 (t_18 hB) rfl (sm_callVI (args := [.int (I 18 1)]) (st := []) hx dX2_nextSign_25 lv_X2_28_3 rfl rfl (t_2 hB) rfl rfl (h.2 q4) (fun r4 I3 L3 hI3 => sm_bipush (v := 32) hx dX2_nextSign_28 sm_kb_32 (sm_icmpne (a := r4) (b := 32) hx dX2_nextSign_30 (tgt := 46) (by decide) (fun q3 => sm_aload_n (z := 18) hx dX2_nextSign_46 rfl (sm_getI hx dX2_nextSign_47 fl_X2_9_5 (t_18 hB) rfl (sm_aload_n (z := 18) hx dX2_nextSign_50 rfl (sm_getR hx dX2_nextSign_51 fl_X2_15_5 (t_18 hB) rfl (sm_getI hx dX2_nextSign_54 fl_X2_19_10 (t_1 hB) rfl (sm_icmpge (a := (I3 18 1)) (b := (I3 1 1)) hx dX2_nextSign_57 (tgt := 77) (by decide) (fun q2 => sm_iconst (v := (-1)) hx dX2_nextSign_77 sm_kc_m1 (sm_iretI hx dX2_nextSign_78 rfl ((hI3.1 q3).1 q2))) (fun q2 => sm_aload_n (z := 18) hx dX2_nextSign_60 rfl (sm_getR hx dX2_nextSign_61 fl_X2_15_5 (t_18 hB) rfl (sm_getR hx dX2_nextSign_64 fl_X2_24_10 (t_1 hB) rfl (sm_aload_n (z := 18) hx dX2_nextSign_67 rfl (sm_getI hx dX2_nextSign_68 fl_X2_9_5 (t_18 hB) rfl (sm_callVI (args := [.int (I3 18 1)]) (st := []) hx dX2_nextSign_71 lv_X2_28_3 rfl rfl (t_2 hB) rfl rfl ((hI3.1 q3).2 q2) (fun r6 I5 L5 hI5 => sm_goto hx dX2_nextSign_74 (tgt := 78) (by decide) (sm_iretI hx dX2_nextSign_78 rfl hI5)))))))))))))) (fun q3 => sm_aload_n (z := 18) hx dX2_nextSign_33 rfl (sm_dup hx dX2_nextSign_34 rfl (sm_getI hx dX2_nextSign_35 fl_X2_9_5 (t_18 hB) rfl (sm_iconst (v := 1) hx dX2_nextSign_38 sm_kc_1 (sm_iadd (a := (I3 18 1)) (b := 1) hx dX2_nextSign_39 (sm_putI hx dX2_nextSign_40 fl_X2_9_5 (t_18 hB) rfl (sm_goto hx dX2_nextSign_43 (tgt := 0) (by decide) ((hI3.2 q3))))))))))))))))))))))
set_option maxRecDepth 100000 in
theorem c_X2_nextSign_r {n : Nat} {F : Int32 → sm_MI → sm_ML → Prop} {T : List sm_Sh} {I : sm_MI} {L : sm_ML}  (hB : sm_Bs T)
    (h : ∀ x : sm_Cx, sm_Ok x mX2_nextSign (n + 1) (sm_KI T F) → sm_V x 0 0 T I L 0 [some (.ref 18)] []) :
    sm_CI (n + 1) mX2_nextSign T I L [.ref 18] F :=
  sm_CI.of (by decide +kernel) rfl (fun x hx => show sm_V x 0 0 T I L 0 [some (.ref 18)] [] from h x hx)
theorem dX2_goOn_0 : decode cX2_goOn 0 = .ok (.aload_n 0, 1) := by decide +kernel
theorem dX2_goOn_1 : decode cX2_goOn 1 = .ok (.dup, 1) := by decide +kernel
theorem dX2_goOn_2 : decode cX2_goOn 2 = .ok (.getfield 9, 3) := by decide +kernel
theorem dX2_goOn_5 : decode cX2_goOn 5 = .ok (.iconst 1, 1) := by decide +kernel
theorem dX2_goOn_6 : decode cX2_goOn 6 = .ok (.iadd, 1) := by decide +kernel
theorem dX2_goOn_7 : decode cX2_goOn 7 = .ok (.putfield 9, 3) := by decide +kernel
theorem dX2_goOn_10 : decode cX2_goOn 10 = .ok (.return_, 1) := by decide +kernel
set_option maxRecDepth 100000 in
theorem c_X2_goOn_s {n : Nat} {F : sm_MI → sm_ML → Prop} {T : List sm_Sh} {I : sm_MI} {L : sm_ML}  (hB : sm_Bs T)
    (h : F (sm_uI I 4 1 ((I 4 1) + 1)) L) :
    sm_CV n mX2_goOn T I L [.ref 4] F :=
  sm_CV.of (by decide +kernel) rfl (fun x hx => show sm_V x 0 0 T I L 0 [some (.ref 4)] [] from
  sm_aload_n (z := 4) hx dX2_goOn_0 rfl (sm_dup hx dX2_goOn_1 rfl (sm_getI hx dX2_goOn_2 fl_X2_9_9 (t_4 hB) rfl (sm_iconst (v := 1) hx dX2_goOn_5 sm_kc_1 (sm_iadd (a := (I 4 1)) (b := 1) hx dX2_goOn_6 (sm_putI hx dX2_goOn_7 fl_X2_9_9 (t_4 hB) rfl (sm_vretV hx dX2_goOn_10 rfl h)))))))
set_option maxRecDepth 100000 in
theorem c_X2_goOn_r {n : Nat} {F : sm_MI → sm_ML → Prop} {T : List sm_Sh} {I : sm_MI} {L : sm_ML}  (hB : sm_Bs T)
    (h : F (sm_uI I 18 1 ((I 18 1) + 1)) L) :
    sm_CV n mX2_goOn T I L [.ref 18] F :=
  sm_CV.of (by decide +kernel) rfl (fun x hx => show sm_V x 0 0 T I L 0 [some (.ref 18)] [] from
  sm_aload_n (z := 18) hx dX2_goOn_0 rfl (sm_dup hx dX2_goOn_1 rfl (sm_getI hx dX2_goOn_2 fl_X2_9_5 (t_18 hB) rfl (sm_iconst (v := 1) hx dX2_goOn_5 sm_kc_1 (sm_iadd (a := (I 18 1)) (b := 1) hx dX2_goOn_6 (sm_putI hx dX2_goOn_7 fl_X2_9_5 (t_18 hB) rfl (sm_vretV hx dX2_goOn_10 rfl h)))))))
theorem dX2_take_0 : decode cX2_take 0 = .ok (.aload_n 0, 1) := by decide +kernel
theorem dX2_take_1 : decode cX2_take 1 = .ok (.invokevirtual 33, 3) := by decide +kernel
theorem dX2_take_4 : decode cX2_take 4 = .ok (.iload_n 1, 1) := by decide +kernel
theorem dX2_take_5 : decode cX2_take 5 = .ok (.if_icmp .eq 5, 3) := by decide +kernel
theorem dX2_take_8 : decode cX2_take 8 = .ok (.iconst 0, 1) := by decide +kernel
theorem dX2_take_9 : decode cX2_take 9 = .ok (.ireturn, 1) := by decide +kernel
theorem dX2_take_10 : decode cX2_take 10 = .ok (.aload_n 0, 1) := by decide +kernel
theorem dX2_take_11 : decode cX2_take 11 = .ok (.dup, 1) := by decide +kernel
theorem dX2_take_12 : decode cX2_take 12 = .ok (.getfield 9, 3) := by decide +kernel
theorem dX2_take_15 : decode cX2_take 15 = .ok (.iconst 1, 1) := by decide +kernel
theorem dX2_take_16 : decode cX2_take 16 = .ok (.iadd, 1) := by decide +kernel
theorem dX2_take_17 : decode cX2_take 17 = .ok (.putfield 9, 3) := by decide +kernel
theorem dX2_take_20 : decode cX2_take 20 = .ok (.iconst 1, 1) := by decide +kernel
theorem dX2_take_21 : decode cX2_take 21 = .ok (.ireturn, 1) := by decide +kernel
set_option maxRecDepth 100000 in
theorem c_X2_take_s {n : Nat} {F : Bool → sm_MI → sm_ML → Prop} {T : List sm_Sh} {I : sm_MI} {L : sm_ML} {a1 : Int32} (hB : sm_Bs T)
    (h : sm_CI n mX2_nextSign T I L [.ref 4] (fun r2 I1 L1 => (r2 = a1 → F true (sm_uI I1 4 1 ((I1 4 1) + 1)) L1) ∧ (¬ r2 = a1 → F false I1 L1))) :
    sm_CZ (n + 1) mX2_take T I L [.ref 4, .int a1] F :=
  sm_CZ.of (by decide +kernel) rfl (fun x hx => show sm_V x 0 0 T I L 0 [some (.ref 4), some (.int a1)] [] from
  sm_aload_n (z := 4) hx dX2_take_0 rfl (sm_callVI (args := []) (st := []) hx dX2_take_1 lv_X2_33_9 rfl rfl (t_4 hB) rfl rfl h (fun r2 I1 L1 hI1 => sm_iload_n (z := a1) hx dX2_take_4 rfl (sm_icmpeq (a := r2) (b := a1) hx dX2_take_5 (tgt := 10) (by decide) (fun q1 => sm_aload_n (z := 4) hx dX2_take_10 rfl (sm_dup hx dX2_take_11 rfl (sm_getI hx dX2_take_12 fl_X2_9_9 (t_4 hB) rfl (sm_iconst (v := 1) hx dX2_take_15 sm_kc_1 (sm_iadd (a := (I1 4 1)) (b := 1) hx dX2_take_16 (sm_putI hx dX2_take_17 fl_X2_9_9 (t_4 hB) rfl (sm_iconst (v := 1) hx dX2_take_20 sm_kc_1 (sm_iretZ (z := true) hx dX2_take_21 rfl (hI1.1 q1))))))))) (fun q1 => sm_iconst (v := 0) hx dX2_take_8 sm_kc_0 (sm_iretZ (z := false) hx dX2_take_9 rfl (hI1.2 q1)))))))
set_option maxRecDepth 100000 in
theorem c_X2_take_r {n : Nat} {F : Bool → sm_MI → sm_ML → Prop} {T : List sm_Sh} {I : sm_MI} {L : sm_ML} {a1 : Int32} (hB : sm_Bs T)
    (h : sm_CI n mX2_nextSign T I L [.ref 18] (fun r2 I1 L1 => (r2 = a1 → F true (sm_uI I1 18 1 ((I1 18 1) + 1)) L1) ∧ (¬ r2 = a1 → F false I1 L1))) :
    sm_CZ (n + 1) mX2_take T I L [.ref 18, .int a1] F :=
  sm_CZ.of (by decide +kernel) rfl (fun x hx => show sm_V x 0 0 T I L 0 [some (.ref 18), some (.int a1)] [] from
  sm_aload_n (z := 18) hx dX2_take_0 rfl (sm_callVI (args := []) (st := []) hx dX2_take_1 lv_X2_33_5 rfl rfl (t_18 hB) rfl rfl h (fun r2 I1 L1 hI1 => sm_iload_n (z := a1) hx dX2_take_4 rfl (sm_icmpeq (a := r2) (b := a1) hx dX2_take_5 (tgt := 10) (by decide) (fun q1 => sm_aload_n (z := 18) hx dX2_take_10 rfl (sm_dup hx dX2_take_11 rfl (sm_getI hx dX2_take_12 fl_X2_9_5 (t_18 hB) rfl (sm_iconst (v := 1) hx dX2_take_15 sm_kc_1 (sm_iadd (a := (I1 18 1)) (b := 1) hx dX2_take_16 (sm_putI hx dX2_take_17 fl_X2_9_5 (t_18 hB) rfl (sm_iconst (v := 1) hx dX2_take_20 sm_kc_1 (sm_iretZ (z := true) hx dX2_take_21 rfl (hI1.1 q1))))))))) (fun q1 => sm_iconst (v := 0) hx dX2_take_8 sm_kc_0 (sm_iretZ (z := false) hx dX2_take_9 rfl (hI1.2 q1)))))))
theorem dX3_length_0 : decode cX3_length 0 = .ok (.aload_n 0, 1) := by decide +kernel
theorem dX3_length_1 : decode cX3_length 1 = .ok (.getfield 13, 3) := by decide +kernel
theorem dX3_length_4 : decode cX3_length 4 = .ok (.arraylength, 1) := by decide +kernel
theorem dX3_length_5 : decode cX3_length 5 = .ok (.ireturn, 1) := by decide +kernel
set_option maxRecDepth 100000 in
theorem c_X3_length {n : Nat} {F : Int32 → sm_MI → sm_ML → Prop} {T : List sm_Sh} {I : sm_MI} {L : sm_ML}  {k0 p0 m0 : Nat} {r0 : List (Option Nat)} (hk0 : T[k0]? = some (.inr (3, [.ref p0]))) (hp0 : T[p0]? = some (.inl (.int, m0, r0)))
    (h : F (nI m0) I L) :
    sm_CI n mX3_length T I L [.ref k0] F :=
  sm_CI.of (by decide +kernel) rfl (fun x hx => show sm_V x 0 0 T I L 0 [some (.ref k0)] [] from
  sm_aload_n (z := k0) hx dX3_length_0 rfl (sm_getR hx dX3_length_1 fl_X3_13_3 hk0 rfl (sm_alen hx dX3_length_4 hp0 (Or.inl rfl) (sm_iretI hx dX3_length_5 rfl h))))
theorem dX3_at_0 : decode cX3_at 0 = .ok (.iload_n 1, 1) := by decide +kernel
theorem dX3_at_1 : decode cX3_at 1 = .ok (.ifCond .lt 21, 3) := by decide +kernel
theorem dX3_at_4 : decode cX3_at 4 = .ok (.iload_n 1, 1) := by decide +kernel
theorem dX3_at_5 : decode cX3_at 5 = .ok (.aload_n 0, 1) := by decide +kernel
theorem dX3_at_6 : decode cX3_at 6 = .ok (.getfield 13, 3) := by decide +kernel
theorem dX3_at_9 : decode cX3_at 9 = .ok (.arraylength, 1) := by decide +kernel
theorem dX3_at_10 : decode cX3_at 10 = .ok (.if_icmp .ge 12, 3) := by decide +kernel
theorem dX3_at_13 : decode cX3_at 13 = .ok (.aload_n 0, 1) := by decide +kernel
theorem dX3_at_14 : decode cX3_at 14 = .ok (.getfield 13, 3) := by decide +kernel
theorem dX3_at_17 : decode cX3_at 17 = .ok (.iload_n 1, 1) := by decide +kernel
theorem dX3_at_18 : decode cX3_at 18 = .ok (.iaload, 1) := by decide +kernel
theorem dX3_at_19 : decode cX3_at 19 = .ok (.goto 4, 3) := by decide +kernel
theorem dX3_at_22 : decode cX3_at 22 = .ok (.iconst 0, 1) := by decide +kernel
theorem dX3_at_23 : decode cX3_at 23 = .ok (.ireturn, 1) := by decide +kernel
set_option maxRecDepth 100000 in
theorem c_X3_at {n : Nat} {F : Int32 → sm_MI → sm_ML → Prop} {T : List sm_Sh} {I : sm_MI} {L : sm_ML} {a1 : Int32} {k0 p0 m0 : Nat} {r0 : List (Option Nat)} (hk0 : T[k0]? = some (.inr (3, [.ref p0]))) (hp0 : T[p0]? = some (.inl (.int, m0, r0)))
    (h : (a1 < 0 → F 0 I L) ∧ (¬ a1 < 0 → ((nI m0) ≤ a1 → F 0 I L) ∧ (¬ (nI m0) ≤ a1 → vp_in a1 m0 ∧ (F (I p0 (Int32.toNatClampNeg (a1))) I L)))) :
    sm_CI n mX3_at T I L [.ref k0, .int a1] F :=
  sm_CI.of (by decide +kernel) rfl (fun x hx => show sm_V x 0 0 T I L 0 [some (.ref k0), some (.int a1)] [] from
  sm_iload_n (z := a1) hx dX3_at_0 rfl (sm_iflt (a := a1) hx dX3_at_1 (tgt := 22) (by decide) (fun q2 => sm_iconst (v := 0) hx dX3_at_22 sm_kc_0 (sm_iretI hx dX3_at_23 rfl (h.1 q2))) (fun q2 => sm_iload_n (z := a1) hx dX3_at_4 rfl (sm_aload_n (z := k0) hx dX3_at_5 rfl (sm_getR hx dX3_at_6 fl_X3_13_3 hk0 rfl (sm_alen hx dX3_at_9 hp0 (Or.inl rfl) (sm_icmpge (a := a1) (b := (nI m0)) hx dX3_at_10 (tgt := 22) (by decide) (fun q1 => sm_iconst (v := 0) hx dX3_at_22 sm_kc_0 (sm_iretI hx dX3_at_23 rfl ((h.2 q2).1 q1))) (fun q1 => sm_aload_n (z := k0) hx dX3_at_13 rfl (sm_getR hx dX3_at_14 fl_X3_13_3 hk0 rfl (sm_iload_n (z := a1) hx dX3_at_17 rfl (sm_iald (i := a1) hx dX3_at_18 hp0 ((h.2 q2).2 q1).1 (sm_goto hx dX3_at_19 (tgt := 23) (by decide) (sm_iretI hx dX3_at_23 rfl ((h.2 q2).2 q1).2)))))))))))))
theorem dX3_set_0 : decode cX3_set 0 = .ok (.iload_n 1, 1) := by decide +kernel
theorem dX3_set_1 : decode cX3_set 1 = .ok (.ifCond .lt 19, 3) := by decide +kernel
theorem dX3_set_4 : decode cX3_set 4 = .ok (.iload_n 1, 1) := by decide +kernel
theorem dX3_set_5 : decode cX3_set 5 = .ok (.aload_n 0, 1) := by decide +kernel
theorem dX3_set_6 : decode cX3_set 6 = .ok (.getfield 13, 3) := by decide +kernel
theorem dX3_set_9 : decode cX3_set 9 = .ok (.arraylength, 1) := by decide +kernel
theorem dX3_set_10 : decode cX3_set 10 = .ok (.if_icmp .ge 10, 3) := by decide +kernel
theorem dX3_set_13 : decode cX3_set 13 = .ok (.aload_n 0, 1) := by decide +kernel
theorem dX3_set_14 : decode cX3_set 14 = .ok (.getfield 13, 3) := by decide +kernel
theorem dX3_set_17 : decode cX3_set 17 = .ok (.iload_n 1, 1) := by decide +kernel
theorem dX3_set_18 : decode cX3_set 18 = .ok (.iload_n 2, 1) := by decide +kernel
theorem dX3_set_19 : decode cX3_set 19 = .ok (.iastore, 1) := by decide +kernel
theorem dX3_set_20 : decode cX3_set 20 = .ok (.return_, 1) := by decide +kernel
set_option maxRecDepth 100000 in
theorem c_X3_set {n : Nat} {F : sm_MI → sm_ML → Prop} {T : List sm_Sh} {I : sm_MI} {L : sm_ML} {a1 : Int32} {a2 : Int32} {k0 p0 m0 : Nat} {r0 : List (Option Nat)} (hk0 : T[k0]? = some (.inr (3, [.ref p0]))) (hp0 : T[p0]? = some (.inl (.int, m0, r0)))
    (h : (a1 < 0 → F I L) ∧ (¬ a1 < 0 → ((nI m0) ≤ a1 → F I L) ∧ (¬ (nI m0) ≤ a1 → vp_in a1 m0 ∧ (F (sm_uI I p0 (Int32.toNatClampNeg (a1)) a2) L)))) :
    sm_CV n mX3_set T I L [.ref k0, .int a1, .int a2] F :=
  sm_CV.of (by decide +kernel) rfl (fun x hx => show sm_V x 0 0 T I L 0 [some (.ref k0), some (.int a1), some (.int a2)] [] from
  sm_iload_n (z := a1) hx dX3_set_0 rfl (sm_iflt (a := a1) hx dX3_set_1 (tgt := 20) (by decide) (fun q2 => sm_vretV hx dX3_set_20 rfl (h.1 q2)) (fun q2 => sm_iload_n (z := a1) hx dX3_set_4 rfl (sm_aload_n (z := k0) hx dX3_set_5 rfl (sm_getR hx dX3_set_6 fl_X3_13_3 hk0 rfl (sm_alen hx dX3_set_9 hp0 (Or.inl rfl) (sm_icmpge (a := a1) (b := (nI m0)) hx dX3_set_10 (tgt := 20) (by decide) (fun q1 => sm_vretV hx dX3_set_20 rfl ((h.2 q2).1 q1)) (fun q1 => sm_aload_n (z := k0) hx dX3_set_13 rfl (sm_getR hx dX3_set_14 fl_X3_13_3 hk0 rfl (sm_iload_n (z := a1) hx dX3_set_17 rfl (sm_iload_n (z := a2) hx dX3_set_18 rfl (sm_iast (i := a1) (v := a2) hx dX3_set_19 hp0 ((h.2 q2).2 q1).1 (sm_vretV hx dX3_set_20 rfl ((h.2 q2).2 q1).2)))))))))))))
theorem dX3_fill_0 : decode cX3_fill 0 = .ok (.iconst 0, 1) := by decide +kernel
theorem dX3_fill_1 : decode cX3_fill 1 = .ok (.istore_n 2, 1) := by decide +kernel
theorem dX3_fill_2 : decode cX3_fill 2 = .ok (.iload_n 2, 1) := by decide +kernel
theorem dX3_fill_3 : decode cX3_fill 3 = .ok (.aload_n 0, 1) := by decide +kernel
theorem dX3_fill_4 : decode cX3_fill 4 = .ok (.getfield 13, 3) := by decide +kernel
theorem dX3_fill_7 : decode cX3_fill 7 = .ok (.arraylength, 1) := by decide +kernel
theorem dX3_fill_8 : decode cX3_fill 8 = .ok (.if_icmp .ge 16, 3) := by decide +kernel
theorem dX3_fill_11 : decode cX3_fill 11 = .ok (.aload_n 0, 1) := by decide +kernel
theorem dX3_fill_12 : decode cX3_fill 12 = .ok (.getfield 13, 3) := by decide +kernel
theorem dX3_fill_15 : decode cX3_fill 15 = .ok (.iload_n 2, 1) := by decide +kernel
theorem dX3_fill_16 : decode cX3_fill 16 = .ok (.iload_n 1, 1) := by decide +kernel
theorem dX3_fill_17 : decode cX3_fill 17 = .ok (.iastore, 1) := by decide +kernel
theorem dX3_fill_18 : decode cX3_fill 18 = .ok (.iinc 2 1, 3) := by decide +kernel
theorem dX3_fill_21 : decode cX3_fill 21 = .ok (.goto (-19), 3) := by decide +kernel
theorem dX3_fill_24 : decode cX3_fill 24 = .ok (.return_, 1) := by decide +kernel
set_option maxRecDepth 100000 in
theorem u_X3_fill_2 {x : sm_Cx} {n : Nat} {F : sm_MI → sm_ML → Prop} {T : List sm_Sh} {I : sm_MI} {L : sm_ML} {a1 : Int32} {a2 : Int32} {k0 p0 m0 : Nat} {r0 : List (Option Nat)} (hk0 : T[k0]? = some (.inr (3, [.ref p0]))) (hp0 : T[p0]? = some (.inl (.int, m0, r0))) (hx : sm_Ok x mX3_fill n (sm_KV T F))
    (h : ((nI m0) ≤ a2 → F I L) ∧ (¬ (nI m0) ≤ a2 → vp_in a2 m0 ∧ (sm_V x 0 0 T (sm_uI I p0 (Int32.toNatClampNeg (a2)) a1) L 2 [some (.ref k0), some (.int a1), some (.int (a2 + 1))] []))) :
    sm_V x 0 0 T I L 2 [some (.ref k0), some (.int a1), some (.int a2)] [] :=
  sm_iload_n (z := a2) hx dX3_fill_2 rfl (sm_aload_n (z := k0) hx dX3_fill_3 rfl (sm_getR hx dX3_fill_4 fl_X3_13_3 hk0 rfl (sm_alen hx dX3_fill_7 hp0 (Or.inl rfl) (sm_icmpge (a := a2) (b := (nI m0)) hx dX3_fill_8 (tgt := 24) (by decide) (fun q1 => sm_vretV hx dX3_fill_24 rfl (h.1 q1)) (fun q1 => sm_aload_n (z := k0) hx dX3_fill_11 rfl (sm_getR hx dX3_fill_12 fl_X3_13_3 hk0 rfl (sm_iload_n (z := a2) hx dX3_fill_15 rfl (sm_iload_n (z := a1) hx dX3_fill_16 rfl (sm_iast (i := a2) (v := a1) hx dX3_fill_17 hp0 (h.2 q1).1 (sm_iinc (ls' := [some (.ref k0), some (.int a1), some (.int (a2 + 1))]) (z := a2) (v := (a2 + 1)) hx dX3_fill_18 rfl (sm_kii_1 _) (by decide) rfl (sm_goto hx dX3_fill_21 (tgt := 2) (by decide) ((h.2 q1).2))))))))))))
set_option maxRecDepth 100000 in
theorem c_X3_fill {n : Nat} {F : sm_MI → sm_ML → Prop} {T : List sm_Sh} {I : sm_MI} {L : sm_ML} {a1 : Int32} {k0 p0 m0 : Nat} {r0 : List (Option Nat)} (hk0 : T[k0]? = some (.inr (3, [.ref p0]))) (hp0 : T[p0]? = some (.inl (.int, m0, r0)))
    (h : ∀ x : sm_Cx, sm_Ok x mX3_fill n (sm_KV T F) → sm_V x 0 0 T I L 2 [some (.ref k0), some (.int a1), some (.int 0)] []) :
    sm_CV n mX3_fill T I L [.ref k0, .int a1] F :=
  sm_CV.of (by decide +kernel) rfl (fun x hx => show sm_V x 0 0 T I L 0 [some (.ref k0), some (.int a1), none] [] from
  sm_iconst (v := 0) hx dX3_fill_0 sm_kc_0 (sm_istore_n (ls' := [some (.ref k0), some (.int a1), some (.int 0)]) hx dX3_fill_1 (by decide) rfl ((h x hx))))
theorem dX3_copy_0 : decode cX3_copy 0 = .ok (.iconst 0, 1) := by decide +kernel
theorem dX3_copy_1 : decode cX3_copy 1 = .ok (.istore_n 2, 1) := by decide +kernel
theorem dX3_copy_2 : decode cX3_copy 2 = .ok (.iload_n 2, 1) := by decide +kernel
theorem dX3_copy_3 : decode cX3_copy 3 = .ok (.aload_n 0, 1) := by decide +kernel
theorem dX3_copy_4 : decode cX3_copy 4 = .ok (.getfield 13, 3) := by decide +kernel
theorem dX3_copy_7 : decode cX3_copy 7 = .ok (.arraylength, 1) := by decide +kernel
theorem dX3_copy_8 : decode cX3_copy 8 = .ok (.if_icmp .ge 20, 3) := by decide +kernel
theorem dX3_copy_11 : decode cX3_copy 11 = .ok (.aload_n 0, 1) := by decide +kernel
theorem dX3_copy_12 : decode cX3_copy 12 = .ok (.getfield 13, 3) := by decide +kernel
theorem dX3_copy_15 : decode cX3_copy 15 = .ok (.iload_n 2, 1) := by decide +kernel
theorem dX3_copy_16 : decode cX3_copy 16 = .ok (.aload_n 1, 1) := by decide +kernel
theorem dX3_copy_17 : decode cX3_copy 17 = .ok (.iload_n 2, 1) := by decide +kernel
theorem dX3_copy_18 : decode cX3_copy 18 = .ok (.invokevirtual 19, 3) := by decide +kernel
theorem dX3_copy_21 : decode cX3_copy 21 = .ok (.iastore, 1) := by decide +kernel
theorem dX3_copy_22 : decode cX3_copy 22 = .ok (.iinc 2 1, 3) := by decide +kernel
theorem dX3_copy_25 : decode cX3_copy 25 = .ok (.goto (-23), 3) := by decide +kernel
theorem dX3_copy_28 : decode cX3_copy 28 = .ok (.return_, 1) := by decide +kernel
set_option maxRecDepth 100000 in
theorem u_X3_copy_2 {x : sm_Cx} {n : Nat} {F : sm_MI → sm_ML → Prop} {T : List sm_Sh} {I : sm_MI} {L : sm_ML} {a2 : Int32} {k0 p0 m0 : Nat} {r0 : List (Option Nat)} (hk0 : T[k0]? = some (.inr (3, [.ref p0]))) (hp0 : T[p0]? = some (.inl (.int, m0, r0))) {k1 p1 m1 : Nat} {r1 : List (Option Nat)} (hk1 : T[k1]? = some (.inr (3, [.ref p1]))) (hp1 : T[p1]? = some (.inl (.int, m1, r1))) (hx : sm_Ok x mX3_copy (n + 1) (sm_KV T F))
    (h : ((nI m0) ≤ a2 → F I L) ∧ (¬ (nI m0) ≤ a2 → sm_CI n mX3_at T I L [.ref k1, .int a2] (fun r2 I1 L1 => vp_in a2 m0 ∧ (sm_V x 0 0 T (sm_uI I1 p0 (Int32.toNatClampNeg (a2)) r2) L1 2 [some (.ref k0), some (.ref k1), some (.int (a2 + 1))] [])))) :
    sm_V x 0 0 T I L 2 [some (.ref k0), some (.ref k1), some (.int a2)] [] :=
  sm_iload_n (z := a2) hx dX3_copy_2 rfl (sm_aload_n (z := k0) hx dX3_copy_3 rfl (sm_getR hx dX3_copy_4 fl_X3_13_3 hk0 rfl (sm_alen hx dX3_copy_7 hp0 (Or.inl rfl) (sm_icmpge (a := a2) (b := (nI m0)) hx dX3_copy_8 (tgt := 28) (by decide) (fun q1 => sm_vretV hx dX3_copy_28 rfl (h.1 q1)) (fun q1 => sm_aload_n (z := k0) hx dX3_copy_11 rfl (sm_getR hx dX3_copy_12 fl_X3_13_3 hk0 rfl (sm_iload_n (z := a2) hx dX3_copy_15 rfl (sm_aload_n (z := k1) hx dX3_copy_16 rfl (sm_iload_n (z := a2) hx dX3_copy_17 rfl (sm_callVI (args := [.int a2]) (st := [.int a2, .ref p0]) hx dX3_copy_18 lv_X3_19_3 rfl rfl hk1 rfl rfl (h.2 q1) (fun r2 I1 L1 hI1 => sm_iast (i := a2) (v := r2) hx dX3_copy_21 hp0 hI1.1 (sm_iinc (ls' := [some (.ref k0), some (.ref k1), some (.int (a2 + 1))]) (z := a2) (v := (a2 + 1)) hx dX3_copy_22 rfl (sm_kii_1 _) (by decide) rfl (sm_goto hx dX3_copy_25 (tgt := 2) (by decide) (hI1.2))))))))))))))
set_option maxRecDepth 100000 in
theorem c_X3_copy {n : Nat} {F : sm_MI → sm_ML → Prop} {T : List sm_Sh} {I : sm_MI} {L : sm_ML}  {k0 p0 m0 : Nat} {r0 : List (Option Nat)} (hk0 : T[k0]? = some (.inr (3, [.ref p0]))) (hp0 : T[p0]? = some (.inl (.int, m0, r0))) {k1 p1 m1 : Nat} {r1 : List (Option Nat)} (hk1 : T[k1]? = some (.inr (3, [.ref p1]))) (hp1 : T[p1]? = some (.inl (.int, m1, r1)))
    (h : ∀ x : sm_Cx, sm_Ok x mX3_copy (n + 1) (sm_KV T F) → sm_V x 0 0 T I L 2 [some (.ref k0), some (.ref k1), some (.int 0)] []) :
    sm_CV (n + 1) mX3_copy T I L [.ref k0, .ref k1] F :=
  sm_CV.of (by decide +kernel) rfl (fun x hx => show sm_V x 0 0 T I L 0 [some (.ref k0), some (.ref k1), none] [] from
  sm_iconst (v := 0) hx dX3_copy_0 sm_kc_0 (sm_istore_n (ls' := [some (.ref k0), some (.ref k1), some (.int 0)]) hx dX3_copy_1 (by decide) rfl ((h x hx))))
theorem dX4_worth_0 : decode cX4_worth 0 = .ok (.iconst 0, 1) := by decide +kernel
theorem dX4_worth_1 : decode cX4_worth 1 = .ok (.istore_n 3, 1) := by decide +kernel
theorem dX4_worth_2 : decode cX4_worth 2 = .ok (.iconst 0, 1) := by decide +kernel
theorem dX4_worth_3 : decode cX4_worth 3 = .ok (.istore 4, 2) := by decide +kernel
theorem dX4_worth_5 : decode cX4_worth 5 = .ok (.iload 4, 2) := by decide +kernel
theorem dX4_worth_7 : decode cX4_worth 7 = .ok (.aload_n 0, 1) := by decide +kernel
theorem dX4_worth_8 : decode cX4_worth 8 = .ok (.getfield 14, 3) := by decide +kernel
theorem dX4_worth_11 : decode cX4_worth 11 = .ok (.invokevirtual 27, 3) := by decide +kernel
theorem dX4_worth_14 : decode cX4_worth 14 = .ok (.if_icmp .ge 200, 3) := by decide +kernel
theorem dX4_worth_17 : decode cX4_worth 17 = .ok (.aload_n 0, 1) := by decide +kernel
theorem dX4_worth_18 : decode cX4_worth 18 = .ok (.getfield 14, 3) := by decide +kernel
theorem dX4_worth_21 : decode cX4_worth 21 = .ok (.iload 4, 2) := by decide +kernel
theorem dX4_worth_23 : decode cX4_worth 23 = .ok (.invokevirtual 31, 3) := by decide +kernel
theorem dX4_worth_26 : decode cX4_worth 26 = .ok (.istore 5, 2) := by decide +kernel
theorem dX4_worth_28 : decode cX4_worth 28 = .ok (.aload_n 0, 1) := by decide +kernel
theorem dX4_worth_29 : decode cX4_worth 29 = .ok (.getfield 20, 3) := by decide +kernel
theorem dX4_worth_32 : decode cX4_worth 32 = .ok (.iload 4, 2) := by decide +kernel
theorem dX4_worth_34 : decode cX4_worth 34 = .ok (.invokevirtual 31, 3) := by decide +kernel
theorem dX4_worth_37 : decode cX4_worth 37 = .ok (.istore 6, 2) := by decide +kernel
theorem dX4_worth_39 : decode cX4_worth 39 = .ok (.iload 5, 2) := by decide +kernel
theorem dX4_worth_41 : decode cX4_worth 41 = .ok (.lookupswitch 138 #[(33, 81), (48, 51), (59, 130), (63, 100), (97, 64)], 51) := by decide +kernel
theorem dX4_worth_92 : decode cX4_worth 92 = .ok (.aload_n 2, 1) := by decide +kernel
theorem dX4_worth_93 : decode cX4_worth 93 = .ok (.iload_n 3, 1) := by decide +kernel
theorem dX4_worth_94 : decode cX4_worth 94 = .ok (.iinc 3 1, 3) := by decide +kernel
theorem dX4_worth_97 : decode cX4_worth 97 = .ok (.iload 6, 2) := by decide +kernel
theorem dX4_worth_99 : decode cX4_worth 99 = .ok (.invokevirtual 35, 3) := by decide +kernel
theorem dX4_worth_102 : decode cX4_worth 102 = .ok (.goto 106, 3) := by decide +kernel
theorem dX4_worth_105 : decode cX4_worth 105 = .ok (.aload_n 2, 1) := by decide +kernel
theorem dX4_worth_106 : decode cX4_worth 106 = .ok (.iload_n 3, 1) := by decide +kernel
theorem dX4_worth_107 : decode cX4_worth 107 = .ok (.iinc 3 1, 3) := by decide +kernel
theorem dX4_worth_110 : decode cX4_worth 110 = .ok (.aload_n 1, 1) := by decide +kernel
theorem dX4_worth_111 : decode cX4_worth 111 = .ok (.iload 6, 2) := by decide +kernel
theorem dX4_worth_113 : decode cX4_worth 113 = .ok (.invokevirtual 31, 3) := by decide +kernel
theorem dX4_worth_116 : decode cX4_worth 116 = .ok (.invokevirtual 35, 3) := by decide +kernel
theorem dX4_worth_119 : decode cX4_worth 119 = .ok (.goto 89, 3) := by decide +kernel
theorem dX4_worth_122 : decode cX4_worth 122 = .ok (.aload_n 2, 1) := by decide +kernel
theorem dX4_worth_123 : decode cX4_worth 123 = .ok (.iload_n 3, 1) := by decide +kernel
theorem dX4_worth_124 : decode cX4_worth 124 = .ok (.iconst 1, 1) := by decide +kernel
theorem dX4_worth_125 : decode cX4_worth 125 = .ok (.isub, 1) := by decide +kernel
theorem dX4_worth_126 : decode cX4_worth 126 = .ok (.iconst 1, 1) := by decide +kernel
theorem dX4_worth_127 : decode cX4_worth 127 = .ok (.aload_n 2, 1) := by decide +kernel
theorem dX4_worth_128 : decode cX4_worth 128 = .ok (.iload_n 3, 1) := by decide +kernel
theorem dX4_worth_129 : decode cX4_worth 129 = .ok (.iconst 1, 1) := by decide +kernel
theorem dX4_worth_130 : decode cX4_worth 130 = .ok (.isub, 1) := by decide +kernel
theorem dX4_worth_131 : decode cX4_worth 131 = .ok (.invokevirtual 31, 3) := by decide +kernel
theorem dX4_worth_134 : decode cX4_worth 134 = .ok (.isub, 1) := by decide +kernel
theorem dX4_worth_135 : decode cX4_worth 135 = .ok (.invokevirtual 35, 3) := by decide +kernel
theorem dX4_worth_138 : decode cX4_worth 138 = .ok (.goto 70, 3) := by decide +kernel
theorem dX4_worth_141 : decode cX4_worth 141 = .ok (.iinc 3 (-1), 3) := by decide +kernel
theorem dX4_worth_144 : decode cX4_worth 144 = .ok (.aload_n 2, 1) := by decide +kernel
theorem dX4_worth_145 : decode cX4_worth 145 = .ok (.iload_n 3, 1) := by decide +kernel
theorem dX4_worth_146 : decode cX4_worth 146 = .ok (.invokevirtual 31, 3) := by decide +kernel
theorem dX4_worth_149 : decode cX4_worth 149 = .ok (.ifCond .ne 15, 3) := by decide +kernel
theorem dX4_worth_152 : decode cX4_worth 152 = .ok (.iload 4, 2) := by decide +kernel
theorem dX4_worth_154 : decode cX4_worth 154 = .ok (.iload 6, 2) := by decide +kernel
theorem dX4_worth_156 : decode cX4_worth 156 = .ok (.iconst 1, 1) := by decide +kernel
theorem dX4_worth_157 : decode cX4_worth 157 = .ok (.isub, 1) := by decide +kernel
theorem dX4_worth_158 : decode cX4_worth 158 = .ok (.invokestatic 39, 3) := by decide +kernel
theorem dX4_worth_161 : decode cX4_worth 161 = .ok (.goto 5, 3) := by decide +kernel
theorem dX4_worth_164 : decode cX4_worth 164 = .ok (.iload 4, 2) := by decide +kernel
theorem dX4_worth_166 : decode cX4_worth 166 = .ok (.istore 4, 2) := by decide +kernel
theorem dX4_worth_168 : decode cX4_worth 168 = .ok (.goto 40, 3) := by decide +kernel
theorem dX4_worth_171 : decode cX4_worth 171 = .ok (.aload_n 2, 1) := by decide +kernel
theorem dX4_worth_172 : decode cX4_worth 172 = .ok (.iload_n 3, 1) := by decide +kernel
theorem dX4_worth_173 : decode cX4_worth 173 = .ok (.iconst 1, 1) := by decide +kernel
theorem dX4_worth_174 : decode cX4_worth 174 = .ok (.isub, 1) := by decide +kernel
theorem dX4_worth_175 : decode cX4_worth 175 = .ok (.invokevirtual 31, 3) := by decide +kernel
theorem dX4_worth_178 : decode cX4_worth 178 = .ok (.ireturn, 1) := by decide +kernel
theorem dX4_worth_179 : decode cX4_worth 179 = .ok (.iinc 3 (-1), 3) := by decide +kernel
theorem dX4_worth_182 : decode cX4_worth 182 = .ok (.aload_n 2, 1) := by decide +kernel
theorem dX4_worth_183 : decode cX4_worth 183 = .ok (.iload_n 3, 1) := by decide +kernel
theorem dX4_worth_184 : decode cX4_worth 184 = .ok (.iconst 1, 1) := by decide +kernel
theorem dX4_worth_185 : decode cX4_worth 185 = .ok (.isub, 1) := by decide +kernel
theorem dX4_worth_186 : decode cX4_worth 186 = .ok (.iload 5, 2) := by decide +kernel
theorem dX4_worth_188 : decode cX4_worth 188 = .ok (.aload_n 2, 1) := by decide +kernel
theorem dX4_worth_189 : decode cX4_worth 189 = .ok (.iload_n 3, 1) := by decide +kernel
theorem dX4_worth_190 : decode cX4_worth 190 = .ok (.iconst 1, 1) := by decide +kernel
theorem dX4_worth_191 : decode cX4_worth 191 = .ok (.isub, 1) := by decide +kernel
theorem dX4_worth_192 : decode cX4_worth 192 = .ok (.invokevirtual 31, 3) := by decide +kernel
theorem dX4_worth_195 : decode cX4_worth 195 = .ok (.i2l, 1) := by decide +kernel
theorem dX4_worth_196 : decode cX4_worth 196 = .ok (.aload_n 2, 1) := by decide +kernel
theorem dX4_worth_197 : decode cX4_worth 197 = .ok (.iload_n 3, 1) := by decide +kernel
theorem dX4_worth_198 : decode cX4_worth 198 = .ok (.invokevirtual 31, 3) := by decide +kernel
theorem dX4_worth_201 : decode cX4_worth 201 = .ok (.i2l, 1) := by decide +kernel
theorem dX4_worth_202 : decode cX4_worth 202 = .ok (.invokestatic 45, 3) := by decide +kernel
theorem dX4_worth_205 : decode cX4_worth 205 = .ok (.invokevirtual 35, 3) := by decide +kernel
theorem dX4_worth_208 : decode cX4_worth 208 = .ok (.iinc 4 1, 3) := by decide +kernel
theorem dX4_worth_211 : decode cX4_worth 211 = .ok (.goto (-206), 3) := by decide +kernel
theorem dX4_worth_214 : decode cX4_worth 214 = .ok (.iconst 0, 1) := by decide +kernel
theorem dX4_worth_215 : decode cX4_worth 215 = .ok (.ireturn, 1) := by decide +kernel
set_option maxRecDepth 100000 in
theorem u_X4_worth_5 {x : sm_Cx} {n : Nat} {F : Int32 → sm_MI → sm_ML → Prop} {T : List sm_Sh} {I : sm_MI} {L : sm_ML} {a3 : Int32} {a4 : Int32} {u5 : Option Value} {u6 : Option Value} (hB : sm_Bs T) {k0 k1 p1 m1 k2 p2 m2 : Nat} {r1 r2 : List (Option Nat)} (hk0 : T[k0]? = some (.inr (4, [.ref k1, .ref k2]))) (hk1 : T[k1]? = some (.inr (3, [.ref p1]))) (hp1 : T[p1]? = some (.inl (.int, m1, r1))) (hk2 : T[k2]? = some (.inr (3, [.ref p2]))) (hp2 : T[p2]? = some (.inl (.int, m2, r2))) (hx : sm_Ok x mX4_worth (n + 1) (sm_KI T F))
    (h : sm_CI n mX3_length T I L [.ref k1] (fun r2 I1 L1 => (r2 ≤ a4 → F 0 I1 L1) ∧ (¬ r2 ≤ a4 → sm_CI n mX3_at T I1 L1 [.ref k1, .int a4] (fun r4 I3 L3 => sm_CI n mX3_at T I3 L3 [.ref k2, .int a4] (fun r6 I5 L5 => (r4 = 33 → sm_CI n mX3_at T I5 L5 [.ref 62, .int (a3 - 1)] (fun r8 I7 L7 => sm_CV n mX3_set T I7 L7 [.ref 62, .int (a3 - 1), .int (1 - r8)] (fun I9 L9 => sm_V x 0 0 T I9 L9 5 [some (.ref k0), some (.ref 60), some (.ref 62), some (.int a3), some (.int (a4 + 1)), some (.int r4), some (.int r6)] []))) ∧ (r4 = 48 → sm_CV n mX3_set T I5 L5 [.ref 62, .int a3, .int r6] (fun I10 L10 => sm_V x 0 0 T I10 L10 5 [some (.ref k0), some (.ref 60), some (.ref 62), some (.int (a3 + 1)), some (.int (a4 + 1)), some (.int r4), some (.int r6)] [])) ∧ (r4 = 59 → sm_CI n mX3_at T I5 L5 [.ref 62, .int (a3 - 1)] (fun r12 I11 L11 => F r12 I11 L11)) ∧ (r4 = 63 → sm_CI n mX3_at T I5 L5 [.ref 62, .int (a3 + (-1))] (fun r14 I13 L13 => (¬ r14 = 0 → sm_V x 0 0 T I13 L13 5 [some (.ref k0), some (.ref 60), some (.ref 62), some (.int (a3 + (-1))), some (.int (a4 + 1)), some (.int r4), some (.int r6)] []) ∧ (r14 = 0 → sm_V x 0 0 T I13 L13 5 [some (.ref k0), some (.ref 60), some (.ref 62), some (.int (a3 + (-1))), some (.int ((if a4 < (r6 - 1) then (r6 - 1) else a4) + 1)), some (.int r4), some (.int r6)] []))) ∧ (r4 = 97 → sm_CI n mX3_at T I5 L5 [.ref 60, .int r6] (fun r16 I15 L15 => sm_CV n mX3_set T I15 L15 [.ref 62, .int a3, .int r16] (fun I17 L17 => sm_V x 0 0 T I17 L17 5 [some (.ref k0), some (.ref 60), some (.ref 62), some (.int (a3 + 1)), some (.int (a4 + 1)), some (.int r4), some (.int r6)] []))) ∧ (¬ r4 = 33 ∧ ¬ r4 = 48 ∧ ¬ r4 = 59 ∧ ¬ r4 = 63 ∧ ¬ r4 = 97 → sm_CI n mX3_at T I5 L5 [.ref 62, .int ((a3 + (-1)) - 1)] (fun r19 I18 L18 => sm_CI n mX3_at T I18 L18 [.ref 62, .int (a3 + (-1))] (fun r21 I20 L20 => sm_CI n mX4_joined T I20 L20 [.int r4, .long (Int32.toInt64 r19), .long (Int32.toInt64 r21)] (fun r23 I22 L22 => sm_CV n mX3_set T I22 L22 [.ref 62, .int ((a3 + (-1)) - 1), .int r23] (fun I24 L24 => sm_V x 0 0 T I24 L24 5 [some (.ref k0), some (.ref 60), some (.ref 62), some (.int (a3 + (-1))), some (.int (a4 + 1)), some (.int r4), some (.int r6)] [])))))))))) :
    sm_V x 0 0 T I L 5 [some (.ref k0), some (.ref 60), some (.ref 62), some (.int a3), some (.int a4), u5, u6] [] :=
  sm_iload (z := a4) hx dX4_worth_5 rfl (sm_aload_n (z := k0) hx dX4_worth_7 rfl (sm_getR hx dX4_worth_8 fl_X4_14_4 hk0 rfl (sm_callVI (args := []) (st := [.int a4]) hx dX4_worth_11 lv_X4_27_3 rfl rfl hk1 rfl rfl h (fun r2 I1 L1 hI1 => sm_icmpge (a := a4) (b := r2) hx dX4_worth_14 (tgt := 214) (by decide) (fun q2 => sm_iconst (v := 0) hx dX4_worth_214 sm_kc_0 (sm_iretI hx dX4_worth_215 rfl (hI1.1 q2))) (fun q2 => sm_aload_n (z := k0) hx dX4_worth_17 rfl (sm_getR hx dX4_worth_18 fl_X4_14_4 hk0 rfl (sm_iload (z := a4) hx dX4_worth_21 rfl (sm_callVI (args := [.int a4]) (st := []) hx dX4_worth_23 lv_X4_31_3 rfl rfl hk1 rfl rfl (hI1.2 q2) (fun r4 I3 L3 hI3 => sm_istore (ls' := [some (.ref k0), some (.ref 60), some (.ref 62), some (.int a3), some (.int a4), some (.int r4), u6]) hx dX4_worth_26 (by decide) rfl (sm_aload_n (z := k0) hx dX4_worth_28 rfl (sm_getR hx dX4_worth_29 fl_X4_20_4 hk0 rfl (sm_iload (z := a4) hx dX4_worth_32 rfl (sm_callVI (args := [.int a4]) (st := []) hx dX4_worth_34 lv_X4_31_3 rfl rfl hk2 rfl rfl hI3 (fun r6 I5 L5 hI5 => sm_istore (ls' := [some (.ref k0), some (.ref 60), some (.ref 62), some (.int a3), some (.int a4), some (.int r4), some (.int r6)]) hx dX4_worth_37 (by decide) rfl (sm_iload (z := r4) hx dX4_worth_39 rfl (if q41_0 : r4 = 33 then sm_lookup (a := r4) (off := 81) hx dX4_worth_41 (by decide) (by rw [q41_0]; decide) (tgt := 122) (by decide) (sm_aload_n (z := 62) hx dX4_worth_122 rfl (sm_iload_n (z := a3) hx dX4_worth_123 rfl (sm_iconst (v := 1) hx dX4_worth_124 sm_kc_1 (sm_isub (a := a3) (b := 1) hx dX4_worth_125 (sm_iconst (v := 1) hx dX4_worth_126 sm_kc_1 (sm_aload_n (z := 62) hx dX4_worth_127 rfl (sm_iload_n (z := a3) hx dX4_worth_128 rfl (sm_iconst (v := 1) hx dX4_worth_129 sm_kc_1 (sm_isub (a := a3) (b := 1) hx dX4_worth_130 (sm_callVI (args := [.int (a3 - 1)]) (st := [.int 1, .int (a3 - 1), .ref 62]) hx dX4_worth_131 lv_X4_31_3 rfl rfl (t_62 hB) rfl rfl (hI5.1 q41_0) (fun r8 I7 L7 hI7 => sm_isub (a := 1) (b := r8) hx dX4_worth_134 (sm_callVV (args := [.int (a3 - 1), .int (1 - r8)]) (st := []) hx dX4_worth_135 lv_X4_35_3 rfl rfl (t_62 hB) rfl rfl hI7 (fun I9 L9 hI9 => sm_goto hx dX4_worth_138 (tgt := 208) (by decide) (sm_iinc (ls' := [some (.ref k0), some (.ref 60), some (.ref 62), some (.int a3), some (.int (a4 + 1)), some (.int r4), some (.int r6)]) (z := a4) (v := (a4 + 1)) hx dX4_worth_208 rfl (sm_kii_1 _) (by decide) rfl (sm_goto hx dX4_worth_211 (tgt := 5) (by decide) (hI9)))))))))))))))) else if q41_1 : r4 = 48 then sm_lookup (a := r4) (off := 51) hx dX4_worth_41 (by decide) (by rw [q41_1]; decide) (tgt := 92) (by decide) (sm_aload_n (z := 62) hx dX4_worth_92 rfl (sm_iload_n (z := a3) hx dX4_worth_93 rfl (sm_iinc (ls' := [some (.ref k0), some (.ref 60), some (.ref 62), some (.int (a3 + 1)), some (.int a4), some (.int r4), some (.int r6)]) (z := a3) (v := (a3 + 1)) hx dX4_worth_94 rfl (sm_kii_1 _) (by decide) rfl (sm_iload (z := r6) hx dX4_worth_97 rfl (sm_callVV (args := [.int a3, .int r6]) (st := []) hx dX4_worth_99 lv_X4_35_3 rfl rfl (t_62 hB) rfl rfl (hI5.2.1 q41_1) (fun I10 L10 hI10 => sm_goto hx dX4_worth_102 (tgt := 208) (by decide) (sm_iinc (ls' := [some (.ref k0), some (.ref 60), some (.ref 62), some (.int (a3 + 1)), some (.int (a4 + 1)), some (.int r4), some (.int r6)]) (z := a4) (v := (a4 + 1)) hx dX4_worth_208 rfl (sm_kii_1 _) (by decide) rfl (sm_goto hx dX4_worth_211 (tgt := 5) (by decide) (hI10))))))))) else if q41_2 : r4 = 59 then sm_lookup (a := r4) (off := 130) hx dX4_worth_41 (by decide) (by rw [q41_2]; decide) (tgt := 171) (by decide) (sm_aload_n (z := 62) hx dX4_worth_171 rfl (sm_iload_n (z := a3) hx dX4_worth_172 rfl (sm_iconst (v := 1) hx dX4_worth_173 sm_kc_1 (sm_isub (a := a3) (b := 1) hx dX4_worth_174 (sm_callVI (args := [.int (a3 - 1)]) (st := []) hx dX4_worth_175 lv_X4_31_3 rfl rfl (t_62 hB) rfl rfl (hI5.2.2.1 q41_2) (fun r12 I11 L11 hI11 => sm_iretI hx dX4_worth_178 rfl hI11)))))) else if q41_3 : r4 = 63 then sm_lookup (a := r4) (off := 100) hx dX4_worth_41 (by decide) (by rw [q41_3]; decide) (tgt := 141) (by decide) (sm_iinc (ls' := [some (.ref k0), some (.ref 60), some (.ref 62), some (.int (a3 + (-1))), some (.int a4), some (.int r4), some (.int r6)]) (z := a3) (v := (a3 + (-1))) hx dX4_worth_141 rfl (sm_kii_m1 _) (by decide) rfl (sm_aload_n (z := 62) hx dX4_worth_144 rfl (sm_iload_n (z := (a3 + (-1))) hx dX4_worth_145 rfl (sm_callVI (args := [.int (a3 + (-1))]) (st := []) hx dX4_worth_146 lv_X4_31_3 rfl rfl (t_62 hB) rfl rfl (hI5.2.2.2.1 q41_3) (fun r14 I13 L13 hI13 => sm_ifne (a := r14) hx dX4_worth_149 (tgt := 164) (by decide) (fun q1 => sm_iload (z := a4) hx dX4_worth_164 rfl (sm_istore (ls' := [some (.ref k0), some (.ref 60), some (.ref 62), some (.int (a3 + (-1))), some (.int a4), some (.int r4), some (.int r6)]) hx dX4_worth_166 (by decide) rfl (sm_goto hx dX4_worth_168 (tgt := 208) (by decide) (sm_iinc (ls' := [some (.ref k0), some (.ref 60), some (.ref 62), some (.int (a3 + (-1))), some (.int (a4 + 1)), some (.int r4), some (.int r6)]) (z := a4) (v := (a4 + 1)) hx dX4_worth_208 rfl (sm_kii_1 _) (by decide) rfl (sm_goto hx dX4_worth_211 (tgt := 5) (by decide) ((hI13.1 q1))))))) (fun q1 => sm_iload (z := a4) hx dX4_worth_152 rfl (sm_iload (z := r6) hx dX4_worth_154 rfl (sm_iconst (v := 1) hx dX4_worth_156 sm_kc_1 (sm_isub (a := r6) (b := 1) hx dX4_worth_157 (sm_mmax (a := a4) (b := (r6 - 1)) hx dX4_worth_158 ml_X4_39 mm_max1 mm_2 mm_max3 rfl (sm_goto hx dX4_worth_161 (tgt := 166) (by decide) (sm_istore (ls' := [some (.ref k0), some (.ref 60), some (.ref 62), some (.int (a3 + (-1))), some (.int (if a4 < (r6 - 1) then (r6 - 1) else a4)), some (.int r4), some (.int r6)]) hx dX4_worth_166 (by decide) rfl (sm_goto hx dX4_worth_168 (tgt := 208) (by decide) (sm_iinc (ls' := [some (.ref k0), some (.ref 60), some (.ref 62), some (.int (a3 + (-1))), some (.int ((if a4 < (r6 - 1) then (r6 - 1) else a4) + 1)), some (.int r4), some (.int r6)]) (z := (if a4 < (r6 - 1) then (r6 - 1) else a4)) (v := ((if a4 < (r6 - 1) then (r6 - 1) else a4) + 1)) hx dX4_worth_208 rfl (sm_kii_1 _) (by decide) rfl (sm_goto hx dX4_worth_211 (tgt := 5) (by decide) ((hI13.2 q1))))))))))))))))) else if q41_4 : r4 = 97 then sm_lookup (a := r4) (off := 64) hx dX4_worth_41 (by decide) (by rw [q41_4]; decide) (tgt := 105) (by decide) (sm_aload_n (z := 62) hx dX4_worth_105 rfl (sm_iload_n (z := a3) hx dX4_worth_106 rfl (sm_iinc (ls' := [some (.ref k0), some (.ref 60), some (.ref 62), some (.int (a3 + 1)), some (.int a4), some (.int r4), some (.int r6)]) (z := a3) (v := (a3 + 1)) hx dX4_worth_107 rfl (sm_kii_1 _) (by decide) rfl (sm_aload_n (z := 60) hx dX4_worth_110 rfl (sm_iload (z := r6) hx dX4_worth_111 rfl (sm_callVI (args := [.int r6]) (st := [.int a3, .ref 62]) hx dX4_worth_113 lv_X4_31_3 rfl rfl (t_60 hB) rfl rfl (hI5.2.2.2.2.1 q41_4) (fun r16 I15 L15 hI15 => sm_callVV (args := [.int a3, .int r16]) (st := []) hx dX4_worth_116 lv_X4_35_3 rfl rfl (t_62 hB) rfl rfl hI15 (fun I17 L17 hI17 => sm_goto hx dX4_worth_119 (tgt := 208) (by decide) (sm_iinc (ls' := [some (.ref k0), some (.ref 60), some (.ref 62), some (.int (a3 + 1)), some (.int (a4 + 1)), some (.int r4), some (.int r6)]) (z := a4) (v := (a4 + 1)) hx dX4_worth_208 rfl (sm_kii_1 _) (by decide) rfl (sm_goto hx dX4_worth_211 (tgt := 5) (by decide) (hI17))))))))))) else sm_lookup (a := r4) (off := 138) hx dX4_worth_41 (by decide) ((lv_osw q41_0 (by decide)).trans ((lv_osw q41_1 (by decide)).trans ((lv_osw q41_2 (by decide)).trans ((lv_osw q41_3 (by decide)).trans ((lv_osw q41_4 (by decide)).trans rfl))))) (tgt := 179) (by decide) (sm_iinc (ls' := [some (.ref k0), some (.ref 60), some (.ref 62), some (.int (a3 + (-1))), some (.int a4), some (.int r4), some (.int r6)]) (z := a3) (v := (a3 + (-1))) hx dX4_worth_179 rfl (sm_kii_m1 _) (by decide) rfl (sm_aload_n (z := 62) hx dX4_worth_182 rfl (sm_iload_n (z := (a3 + (-1))) hx dX4_worth_183 rfl (sm_iconst (v := 1) hx dX4_worth_184 sm_kc_1 (sm_isub (a := (a3 + (-1))) (b := 1) hx dX4_worth_185 (sm_iload (z := r4) hx dX4_worth_186 rfl (sm_aload_n (z := 62) hx dX4_worth_188 rfl (sm_iload_n (z := (a3 + (-1))) hx dX4_worth_189 rfl (sm_iconst (v := 1) hx dX4_worth_190 sm_kc_1 (sm_isub (a := (a3 + (-1))) (b := 1) hx dX4_worth_191 (sm_callVI (args := [.int ((a3 + (-1)) - 1)]) (st := [.int r4, .int ((a3 + (-1)) - 1), .ref 62]) hx dX4_worth_192 lv_X4_31_3 rfl rfl (t_62 hB) rfl rfl (hI5.2.2.2.2.2 ⟨q41_0, q41_1, q41_2, q41_3, q41_4⟩) (fun r19 I18 L18 hI18 => sm_i2l (a := r19) hx dX4_worth_195 (sm_aload_n (z := 62) hx dX4_worth_196 rfl (sm_iload_n (z := (a3 + (-1))) hx dX4_worth_197 rfl (sm_callVI (args := [.int (a3 + (-1))]) (st := [.long (Int32.toInt64 r19), .int r4, .int ((a3 + (-1)) - 1), .ref 62]) hx dX4_worth_198 lv_X4_31_3 rfl rfl (t_62 hB) rfl rfl hI18 (fun r21 I20 L20 hI20 => sm_i2l (a := r21) hx dX4_worth_201 (sm_callSI (args := [.int r4, .long (Int32.toInt64 r19), .long (Int32.toInt64 r21)]) (st := [.int ((a3 + (-1)) - 1), .ref 62]) hx dX4_worth_202 ls_X4_45 rfl rfl rfl hI20 (fun r23 I22 L22 hI22 => sm_callVV (args := [.int ((a3 + (-1)) - 1), .int r23]) (st := []) hx dX4_worth_205 lv_X4_35_3 rfl rfl (t_62 hB) rfl rfl hI22 (fun I24 L24 hI24 => sm_iinc (ls' := [some (.ref k0), some (.ref 60), some (.ref 62), some (.int (a3 + (-1))), some (.int (a4 + 1)), some (.int r4), some (.int r6)]) (z := a4) (v := (a4 + 1)) hx dX4_worth_208 rfl (sm_kii_1 _) (by decide) rfl (sm_goto hx dX4_worth_211 (tgt := 5) (by decide) (hI24)))))))))))))))))))))))))))))))))))))
set_option maxRecDepth 100000 in
theorem c_X4_worth {n : Nat} {F : Int32 → sm_MI → sm_ML → Prop} {T : List sm_Sh} {I : sm_MI} {L : sm_ML}  (hB : sm_Bs T) {k0 k1 p1 m1 k2 p2 m2 : Nat} {r1 r2 : List (Option Nat)} (hk0 : T[k0]? = some (.inr (4, [.ref k1, .ref k2]))) (hk1 : T[k1]? = some (.inr (3, [.ref p1]))) (hp1 : T[p1]? = some (.inl (.int, m1, r1))) (hk2 : T[k2]? = some (.inr (3, [.ref p2]))) (hp2 : T[p2]? = some (.inl (.int, m2, r2)))
    (h : ∀ x : sm_Cx, sm_Ok x mX4_worth (n + 1) (sm_KI T F) → sm_V x 0 0 T I L 5 [some (.ref k0), some (.ref 60), some (.ref 62), some (.int 0), some (.int 0), none, none] []) :
    sm_CI (n + 1) mX4_worth T I L [.ref k0, .ref 60, .ref 62] F :=
  sm_CI.of (by decide +kernel) rfl (fun x hx => show sm_V x 0 0 T I L 0 [some (.ref k0), some (.ref 60), some (.ref 62), none, none, none, none] [] from
  sm_iconst (v := 0) hx dX4_worth_0 sm_kc_0 (sm_istore_n (ls' := [some (.ref k0), some (.ref 60), some (.ref 62), some (.int 0), none, none, none]) hx dX4_worth_1 (by decide) rfl (sm_iconst (v := 0) hx dX4_worth_2 sm_kc_0 (sm_istore (ls' := [some (.ref k0), some (.ref 60), some (.ref 62), some (.int 0), some (.int 0), none, none]) hx dX4_worth_3 (by decide) rfl ((h x hx))))))
theorem dX4_joined_0 : decode cX4_joined 0 = .ok (.iload_n 0, 1) := by decide +kernel
theorem dX4_joined_1 : decode cX4_joined 1 = .ok (.tableswitch 213 38 62 #[205, 213, 213, 213, 131, 115, 213, 123, 213, 139, 213, 213, 213, 213, 213, 213, 213, 213, 213, 213, 213, 213, 173, 157, 189], 115) := by decide +kernel
theorem dX4_joined_116 : decode cX4_joined 116 = .ok (.lload_n 1, 1) := by decide +kernel
theorem dX4_joined_117 : decode cX4_joined 117 = .ok (.lload_n 3, 1) := by decide +kernel
theorem dX4_joined_118 : decode cX4_joined 118 = .ok (.ladd, 1) := by decide +kernel
theorem dX4_joined_119 : decode cX4_joined 119 = .ok (.lstore 5, 2) := by decide +kernel
theorem dX4_joined_121 : decode cX4_joined 121 = .ok (.goto 98, 3) := by decide +kernel
theorem dX4_joined_124 : decode cX4_joined 124 = .ok (.lload_n 1, 1) := by decide +kernel
theorem dX4_joined_125 : decode cX4_joined 125 = .ok (.lload_n 3, 1) := by decide +kernel
theorem dX4_joined_126 : decode cX4_joined 126 = .ok (.lsub, 1) := by decide +kernel
theorem dX4_joined_127 : decode cX4_joined 127 = .ok (.lstore 5, 2) := by decide +kernel
theorem dX4_joined_129 : decode cX4_joined 129 = .ok (.goto 90, 3) := by decide +kernel
theorem dX4_joined_132 : decode cX4_joined 132 = .ok (.lload_n 1, 1) := by decide +kernel
theorem dX4_joined_133 : decode cX4_joined 133 = .ok (.lload_n 3, 1) := by decide +kernel
theorem dX4_joined_134 : decode cX4_joined 134 = .ok (.lmul, 1) := by decide +kernel
theorem dX4_joined_135 : decode cX4_joined 135 = .ok (.lstore 5, 2) := by decide +kernel
theorem dX4_joined_137 : decode cX4_joined 137 = .ok (.goto 82, 3) := by decide +kernel
theorem dX4_joined_140 : decode cX4_joined 140 = .ok (.lload_n 3, 1) := by decide +kernel
theorem dX4_joined_141 : decode cX4_joined 141 = .ok (.lconst 0, 1) := by decide +kernel
theorem dX4_joined_142 : decode cX4_joined 142 = .ok (.lcmp, 1) := by decide +kernel
theorem dX4_joined_143 : decode cX4_joined 143 = .ok (.ifCond .ne 7, 3) := by decide +kernel
theorem dX4_joined_146 : decode cX4_joined 146 = .ok (.lconst 0, 1) := by decide +kernel
theorem dX4_joined_147 : decode cX4_joined 147 = .ok (.goto 6, 3) := by decide +kernel
theorem dX4_joined_150 : decode cX4_joined 150 = .ok (.lload_n 1, 1) := by decide +kernel
theorem dX4_joined_151 : decode cX4_joined 151 = .ok (.lload_n 3, 1) := by decide +kernel
theorem dX4_joined_152 : decode cX4_joined 152 = .ok (.ldiv, 1) := by decide +kernel
theorem dX4_joined_153 : decode cX4_joined 153 = .ok (.lstore 5, 2) := by decide +kernel
theorem dX4_joined_155 : decode cX4_joined 155 = .ok (.goto 64, 3) := by decide +kernel
theorem dX4_joined_158 : decode cX4_joined 158 = .ok (.lload_n 1, 1) := by decide +kernel
theorem dX4_joined_159 : decode cX4_joined 159 = .ok (.lload_n 3, 1) := by decide +kernel
theorem dX4_joined_160 : decode cX4_joined 160 = .ok (.lcmp, 1) := by decide +kernel
theorem dX4_joined_161 : decode cX4_joined 161 = .ok (.ifCond .ne 7, 3) := by decide +kernel
theorem dX4_joined_164 : decode cX4_joined 164 = .ok (.lconst 1, 1) := by decide +kernel
theorem dX4_joined_165 : decode cX4_joined 165 = .ok (.goto 4, 3) := by decide +kernel
theorem dX4_joined_168 : decode cX4_joined 168 = .ok (.lconst 0, 1) := by decide +kernel
theorem dX4_joined_169 : decode cX4_joined 169 = .ok (.lstore 5, 2) := by decide +kernel
theorem dX4_joined_171 : decode cX4_joined 171 = .ok (.goto 48, 3) := by decide +kernel
theorem dX4_joined_174 : decode cX4_joined 174 = .ok (.lload_n 1, 1) := by decide +kernel
theorem dX4_joined_175 : decode cX4_joined 175 = .ok (.lload_n 3, 1) := by decide +kernel
theorem dX4_joined_176 : decode cX4_joined 176 = .ok (.lcmp, 1) := by decide +kernel
theorem dX4_joined_177 : decode cX4_joined 177 = .ok (.ifCond .ge 7, 3) := by decide +kernel
theorem dX4_joined_180 : decode cX4_joined 180 = .ok (.lconst 1, 1) := by decide +kernel
theorem dX4_joined_181 : decode cX4_joined 181 = .ok (.goto 4, 3) := by decide +kernel
theorem dX4_joined_184 : decode cX4_joined 184 = .ok (.lconst 0, 1) := by decide +kernel
theorem dX4_joined_185 : decode cX4_joined 185 = .ok (.lstore 5, 2) := by decide +kernel
theorem dX4_joined_187 : decode cX4_joined 187 = .ok (.goto 32, 3) := by decide +kernel
theorem dX4_joined_190 : decode cX4_joined 190 = .ok (.lload_n 1, 1) := by decide +kernel
theorem dX4_joined_191 : decode cX4_joined 191 = .ok (.lload_n 3, 1) := by decide +kernel
theorem dX4_joined_192 : decode cX4_joined 192 = .ok (.lcmp, 1) := by decide +kernel
theorem dX4_joined_193 : decode cX4_joined 193 = .ok (.ifCond .le 7, 3) := by decide +kernel
theorem dX4_joined_196 : decode cX4_joined 196 = .ok (.lconst 1, 1) := by decide +kernel
theorem dX4_joined_197 : decode cX4_joined 197 = .ok (.goto 4, 3) := by decide +kernel
theorem dX4_joined_200 : decode cX4_joined 200 = .ok (.lconst 0, 1) := by decide +kernel
theorem dX4_joined_201 : decode cX4_joined 201 = .ok (.lstore 5, 2) := by decide +kernel
theorem dX4_joined_203 : decode cX4_joined 203 = .ok (.goto 16, 3) := by decide +kernel
theorem dX4_joined_206 : decode cX4_joined 206 = .ok (.lload_n 1, 1) := by decide +kernel
theorem dX4_joined_207 : decode cX4_joined 207 = .ok (.lload_n 3, 1) := by decide +kernel
theorem dX4_joined_208 : decode cX4_joined 208 = .ok (.land, 1) := by decide +kernel
theorem dX4_joined_209 : decode cX4_joined 209 = .ok (.lstore 5, 2) := by decide +kernel
theorem dX4_joined_211 : decode cX4_joined 211 = .ok (.goto 8, 3) := by decide +kernel
theorem dX4_joined_214 : decode cX4_joined 214 = .ok (.lload_n 1, 1) := by decide +kernel
theorem dX4_joined_215 : decode cX4_joined 215 = .ok (.lload_n 3, 1) := by decide +kernel
theorem dX4_joined_216 : decode cX4_joined 216 = .ok (.lor, 1) := by decide +kernel
theorem dX4_joined_217 : decode cX4_joined 217 = .ok (.lstore 5, 2) := by decide +kernel
theorem dX4_joined_219 : decode cX4_joined 219 = .ok (.lload 5, 2) := by decide +kernel
theorem dX4_joined_221 : decode cX4_joined 221 = .ok (.ldc2_w 49, 3) := by decide +kernel
theorem dX4_joined_224 : decode cX4_joined 224 = .ok (.lcmp, 1) := by decide +kernel
theorem dX4_joined_225 : decode cX4_joined 225 = .ok (.ifCond .le 6, 3) := by decide +kernel
theorem dX4_joined_228 : decode cX4_joined 228 = .ok (.ldc 51, 2) := by decide +kernel
theorem dX4_joined_230 : decode cX4_joined 230 = .ok (.ireturn, 1) := by decide +kernel
theorem dX4_joined_231 : decode cX4_joined 231 = .ok (.lload 5, 2) := by decide +kernel
theorem dX4_joined_233 : decode cX4_joined 233 = .ok (.ldc2_w 52, 3) := by decide +kernel
theorem dX4_joined_236 : decode cX4_joined 236 = .ok (.lcmp, 1) := by decide +kernel
theorem dX4_joined_237 : decode cX4_joined 237 = .ok (.ifCond .ge 8, 3) := by decide +kernel
theorem dX4_joined_240 : decode cX4_joined 240 = .ok (.ldc 54, 2) := by decide +kernel
theorem dX4_joined_242 : decode cX4_joined 242 = .ok (.goto 6, 3) := by decide +kernel
theorem dX4_joined_245 : decode cX4_joined 245 = .ok (.lload 5, 2) := by decide +kernel
theorem dX4_joined_247 : decode cX4_joined 247 = .ok (.l2i, 1) := by decide +kernel
theorem dX4_joined_248 : decode cX4_joined 248 = .ok (.ireturn, 1) := by decide +kernel
set_option maxRecDepth 100000 in
theorem u_X4_joined_219 {x : sm_Cx} {n : Nat} {F : Int32 → sm_MI → sm_ML → Prop} {T : List sm_Sh} {I : sm_MI} {L : sm_ML} {a0 : Int32} {l1 : Int64} {l3 : Int64} {l5 : Int64} (hB : sm_Bs T) (hx : sm_Ok x mX4_joined n (sm_KI T F))
    (h : ((lg_cmp l5 1000000) ≤ 0 → (0 ≤ (lg_cmp l5 (-1000000)) → F (Int64.toInt32 l5) I L) ∧ (¬ 0 ≤ (lg_cmp l5 (-1000000)) → F (-1000000) I L)) ∧ (¬ (lg_cmp l5 1000000) ≤ 0 → F 1000000 I L)) :
    sm_V x 0 0 T I L 219 [some (.int a0), some (.long l1), none, some (.long l3), none, some (.long l5), none] [] :=
  sm_lload (z := l5) hx dX4_joined_219 rfl (sm_ldc2 (v := 1000000) hx dX4_joined_221 k_X4_49 (sm_lcmp (a := l5) (b := 1000000) hx dX4_joined_224 (sm_ifle (a := (lg_cmp l5 1000000)) hx dX4_joined_225 (tgt := 231) (by decide) (fun q2 => sm_lload (z := l5) hx dX4_joined_231 rfl (sm_ldc2 (v := (-1000000)) hx dX4_joined_233 k_X4_52 (sm_lcmp (a := l5) (b := (-1000000)) hx dX4_joined_236 (sm_ifge (a := (lg_cmp l5 (-1000000))) hx dX4_joined_237 (tgt := 245) (by decide) (fun q1 => sm_lload (z := l5) hx dX4_joined_245 rfl (sm_l2i (a := l5) hx dX4_joined_247 (sm_iretI hx dX4_joined_248 rfl ((h.1 q2).1 q1)))) (fun q1 => sm_ldc (v := (-1000000)) hx dX4_joined_240 k_X4_54 (sm_goto hx dX4_joined_242 (tgt := 248) (by decide) (sm_iretI hx dX4_joined_248 rfl ((h.1 q2).2 q1)))))))) (fun q2 => sm_ldc (v := 1000000) hx dX4_joined_228 k_X4_51 (sm_iretI hx dX4_joined_230 rfl (h.2 q2))))))
set_option maxRecDepth 100000 in
theorem c_X4_joined {n : Nat} {F : Int32 → sm_MI → sm_ML → Prop} {T : List sm_Sh} {I : sm_MI} {L : sm_ML} {a0 : Int32} {l1 : Int64} {l3 : Int64} (hB : sm_Bs T)
    (h : ∀ x : sm_Cx, sm_Ok x mX4_joined n (sm_KI T F) → (a0 = 38 → sm_V x 0 0 T I L 219 [some (.int a0), some (.long l1), none, some (.long l3), none, some (.long (l1 &&& l3)), none] []) ∧ (a0 = 42 → sm_V x 0 0 T I L 219 [some (.int a0), some (.long l1), none, some (.long l3), none, some (.long (l1 * l3)), none] []) ∧ (a0 = 43 → sm_V x 0 0 T I L 219 [some (.int a0), some (.long l1), none, some (.long l3), none, some (.long (l1 + l3)), none] []) ∧ (a0 = 45 → sm_V x 0 0 T I L 219 [some (.int a0), some (.long l1), none, some (.long l3), none, some (.long (l1 - l3)), none] []) ∧ (a0 = 47 → (¬ (lg_cmp l3 0) = 0 → ¬ l3 = 0 ∧ (sm_V x 0 0 T I L 219 [some (.int a0), some (.long l1), none, some (.long l3), none, some (.long (l1 / l3)), none] [])) ∧ ((lg_cmp l3 0) = 0 → sm_V x 0 0 T I L 219 [some (.int a0), some (.long l1), none, some (.long l3), none, some (.long 0), none] [])) ∧ (a0 = 60 → (0 ≤ (lg_cmp l1 l3) → sm_V x 0 0 T I L 219 [some (.int a0), some (.long l1), none, some (.long l3), none, some (.long 0), none] []) ∧ (¬ 0 ≤ (lg_cmp l1 l3) → sm_V x 0 0 T I L 219 [some (.int a0), some (.long l1), none, some (.long l3), none, some (.long 1), none] [])) ∧ (a0 = 61 → (¬ (lg_cmp l1 l3) = 0 → sm_V x 0 0 T I L 219 [some (.int a0), some (.long l1), none, some (.long l3), none, some (.long 0), none] []) ∧ ((lg_cmp l1 l3) = 0 → sm_V x 0 0 T I L 219 [some (.int a0), some (.long l1), none, some (.long l3), none, some (.long 1), none] [])) ∧ (a0 = 62 → ((lg_cmp l1 l3) ≤ 0 → sm_V x 0 0 T I L 219 [some (.int a0), some (.long l1), none, some (.long l3), none, some (.long 0), none] []) ∧ (¬ (lg_cmp l1 l3) ≤ 0 → sm_V x 0 0 T I L 219 [some (.int a0), some (.long l1), none, some (.long l3), none, some (.long 1), none] [])) ∧ (¬ a0 = 38 ∧ ¬ a0 = 42 ∧ ¬ a0 = 43 ∧ ¬ a0 = 45 ∧ ¬ a0 = 47 ∧ ¬ a0 = 60 ∧ ¬ a0 = 61 ∧ ¬ a0 = 62 → sm_V x 0 0 T I L 219 [some (.int a0), some (.long l1), none, some (.long l3), none, some (.long (l1 ||| l3)), none] [])) :
    sm_CI n mX4_joined T I L [.int a0, .long l1, .long l3] F :=
  sm_CI.of (by decide +kernel) rfl (fun x hx => show sm_V x 0 0 T I L 0 [some (.int a0), some (.long l1), none, some (.long l3), none, none, none] [] from
  sm_iload_n (z := a0) hx dX4_joined_0 rfl (sm_tsw (a := a0) hx dX4_joined_1 (by decide) (fun i hi q7 => match i, hi, q7 with | 0, _, q7 => ⟨205, 206, rfl, by decide, sm_lload_n (z := l1) hx dX4_joined_206 rfl (sm_lload_n (z := l3) hx dX4_joined_207 rfl (sm_land (a := l1) (b := l3) hx dX4_joined_208 (sm_lstore (ls' := [some (.int a0), some (.long l1), none, some (.long l3), none, some (.long (l1 &&& l3)), none]) hx dX4_joined_209 (by decide) rfl (sm_goto hx dX4_joined_211 (tgt := 219) (by decide) (((h x hx).1 (sm_ti q7 (by decide))))))))⟩ | 1, _, q7 => ⟨213, 214, rfl, by decide, sm_lload_n (z := l1) hx dX4_joined_214 rfl (sm_lload_n (z := l3) hx dX4_joined_215 rfl (sm_lor (a := l1) (b := l3) hx dX4_joined_216 (sm_lstore (ls' := [some (.int a0), some (.long l1), none, some (.long l3), none, some (.long (l1 ||| l3)), none]) hx dX4_joined_217 (by decide) rfl (((h x hx).2.2.2.2.2.2.2.2 ⟨by rw [sm_ti (k := 39) q7 (by decide)]; decide, by rw [sm_ti (k := 39) q7 (by decide)]; decide, by rw [sm_ti (k := 39) q7 (by decide)]; decide, by rw [sm_ti (k := 39) q7 (by decide)]; decide, by rw [sm_ti (k := 39) q7 (by decide)]; decide, by rw [sm_ti (k := 39) q7 (by decide)]; decide, by rw [sm_ti (k := 39) q7 (by decide)]; decide, by rw [sm_ti (k := 39) q7 (by decide)]; decide⟩)))))⟩ | 2, _, q7 => ⟨213, 214, rfl, by decide, sm_lload_n (z := l1) hx dX4_joined_214 rfl (sm_lload_n (z := l3) hx dX4_joined_215 rfl (sm_lor (a := l1) (b := l3) hx dX4_joined_216 (sm_lstore (ls' := [some (.int a0), some (.long l1), none, some (.long l3), none, some (.long (l1 ||| l3)), none]) hx dX4_joined_217 (by decide) rfl (((h x hx).2.2.2.2.2.2.2.2 ⟨by rw [sm_ti (k := 40) q7 (by decide)]; decide, by rw [sm_ti (k := 40) q7 (by decide)]; decide, by rw [sm_ti (k := 40) q7 (by decide)]; decide, by rw [sm_ti (k := 40) q7 (by decide)]; decide, by rw [sm_ti (k := 40) q7 (by decide)]; decide, by rw [sm_ti (k := 40) q7 (by decide)]; decide, by rw [sm_ti (k := 40) q7 (by decide)]; decide, by rw [sm_ti (k := 40) q7 (by decide)]; decide⟩)))))⟩ | 3, _, q7 => ⟨213, 214, rfl, by decide, sm_lload_n (z := l1) hx dX4_joined_214 rfl (sm_lload_n (z := l3) hx dX4_joined_215 rfl (sm_lor (a := l1) (b := l3) hx dX4_joined_216 (sm_lstore (ls' := [some (.int a0), some (.long l1), none, some (.long l3), none, some (.long (l1 ||| l3)), none]) hx dX4_joined_217 (by decide) rfl (((h x hx).2.2.2.2.2.2.2.2 ⟨by rw [sm_ti (k := 41) q7 (by decide)]; decide, by rw [sm_ti (k := 41) q7 (by decide)]; decide, by rw [sm_ti (k := 41) q7 (by decide)]; decide, by rw [sm_ti (k := 41) q7 (by decide)]; decide, by rw [sm_ti (k := 41) q7 (by decide)]; decide, by rw [sm_ti (k := 41) q7 (by decide)]; decide, by rw [sm_ti (k := 41) q7 (by decide)]; decide, by rw [sm_ti (k := 41) q7 (by decide)]; decide⟩)))))⟩ | 4, _, q7 => ⟨131, 132, rfl, by decide, sm_lload_n (z := l1) hx dX4_joined_132 rfl (sm_lload_n (z := l3) hx dX4_joined_133 rfl (sm_lmul (a := l1) (b := l3) hx dX4_joined_134 (sm_lstore (ls' := [some (.int a0), some (.long l1), none, some (.long l3), none, some (.long (l1 * l3)), none]) hx dX4_joined_135 (by decide) rfl (sm_goto hx dX4_joined_137 (tgt := 219) (by decide) (((h x hx).2.1 (sm_ti q7 (by decide))))))))⟩ | 5, _, q7 => ⟨115, 116, rfl, by decide, sm_lload_n (z := l1) hx dX4_joined_116 rfl (sm_lload_n (z := l3) hx dX4_joined_117 rfl (sm_ladd (a := l1) (b := l3) hx dX4_joined_118 (sm_lstore (ls' := [some (.int a0), some (.long l1), none, some (.long l3), none, some (.long (l1 + l3)), none]) hx dX4_joined_119 (by decide) rfl (sm_goto hx dX4_joined_121 (tgt := 219) (by decide) (((h x hx).2.2.1 (sm_ti q7 (by decide))))))))⟩ | 6, _, q7 => ⟨213, 214, rfl, by decide, sm_lload_n (z := l1) hx dX4_joined_214 rfl (sm_lload_n (z := l3) hx dX4_joined_215 rfl (sm_lor (a := l1) (b := l3) hx dX4_joined_216 (sm_lstore (ls' := [some (.int a0), some (.long l1), none, some (.long l3), none, some (.long (l1 ||| l3)), none]) hx dX4_joined_217 (by decide) rfl (((h x hx).2.2.2.2.2.2.2.2 ⟨by rw [sm_ti (k := 44) q7 (by decide)]; decide, by rw [sm_ti (k := 44) q7 (by decide)]; decide, by rw [sm_ti (k := 44) q7 (by decide)]; decide, by rw [sm_ti (k := 44) q7 (by decide)]; decide, by rw [sm_ti (k := 44) q7 (by decide)]; decide, by rw [sm_ti (k := 44) q7 (by decide)]; decide, by rw [sm_ti (k := 44) q7 (by decide)]; decide, by rw [sm_ti (k := 44) q7 (by decide)]; decide⟩)))))⟩ | 7, _, q7 => ⟨123, 124, rfl, by decide, sm_lload_n (z := l1) hx dX4_joined_124 rfl (sm_lload_n (z := l3) hx dX4_joined_125 rfl (sm_lsub (a := l1) (b := l3) hx dX4_joined_126 (sm_lstore (ls' := [some (.int a0), some (.long l1), none, some (.long l3), none, some (.long (l1 - l3)), none]) hx dX4_joined_127 (by decide) rfl (sm_goto hx dX4_joined_129 (tgt := 219) (by decide) (((h x hx).2.2.2.1 (sm_ti q7 (by decide))))))))⟩ | 8, _, q7 => ⟨213, 214, rfl, by decide, sm_lload_n (z := l1) hx dX4_joined_214 rfl (sm_lload_n (z := l3) hx dX4_joined_215 rfl (sm_lor (a := l1) (b := l3) hx dX4_joined_216 (sm_lstore (ls' := [some (.int a0), some (.long l1), none, some (.long l3), none, some (.long (l1 ||| l3)), none]) hx dX4_joined_217 (by decide) rfl (((h x hx).2.2.2.2.2.2.2.2 ⟨by rw [sm_ti (k := 46) q7 (by decide)]; decide, by rw [sm_ti (k := 46) q7 (by decide)]; decide, by rw [sm_ti (k := 46) q7 (by decide)]; decide, by rw [sm_ti (k := 46) q7 (by decide)]; decide, by rw [sm_ti (k := 46) q7 (by decide)]; decide, by rw [sm_ti (k := 46) q7 (by decide)]; decide, by rw [sm_ti (k := 46) q7 (by decide)]; decide, by rw [sm_ti (k := 46) q7 (by decide)]; decide⟩)))))⟩ | 9, _, q7 => ⟨139, 140, rfl, by decide, sm_lload_n (z := l3) hx dX4_joined_140 rfl (sm_lconst (v := 0) hx dX4_joined_141 rfl (sm_lcmp (a := l3) (b := 0) hx dX4_joined_142 (sm_ifne (a := (lg_cmp l3 0)) hx dX4_joined_143 (tgt := 150) (by decide) (fun q3 => sm_lload_n (z := l1) hx dX4_joined_150 rfl (sm_lload_n (z := l3) hx dX4_joined_151 rfl (sm_ldiv (a := l1) (b := l3) hx dX4_joined_152 (((h x hx).2.2.2.2.1 (sm_ti q7 (by decide))).1 q3).1 (sm_lstore (ls' := [some (.int a0), some (.long l1), none, some (.long l3), none, some (.long (l1 / l3)), none]) hx dX4_joined_153 (by decide) rfl (sm_goto hx dX4_joined_155 (tgt := 219) (by decide) ((((h x hx).2.2.2.2.1 (sm_ti q7 (by decide))).1 q3).2)))))) (fun q3 => sm_lconst (v := 0) hx dX4_joined_146 rfl (sm_goto hx dX4_joined_147 (tgt := 153) (by decide) (sm_lstore (ls' := [some (.int a0), some (.long l1), none, some (.long l3), none, some (.long 0), none]) hx dX4_joined_153 (by decide) rfl (sm_goto hx dX4_joined_155 (tgt := 219) (by decide) ((((h x hx).2.2.2.2.1 (sm_ti q7 (by decide))).2 q3)))))))))⟩ | 10, _, q7 => ⟨213, 214, rfl, by decide, sm_lload_n (z := l1) hx dX4_joined_214 rfl (sm_lload_n (z := l3) hx dX4_joined_215 rfl (sm_lor (a := l1) (b := l3) hx dX4_joined_216 (sm_lstore (ls' := [some (.int a0), some (.long l1), none, some (.long l3), none, some (.long (l1 ||| l3)), none]) hx dX4_joined_217 (by decide) rfl (((h x hx).2.2.2.2.2.2.2.2 ⟨by rw [sm_ti (k := 48) q7 (by decide)]; decide, by rw [sm_ti (k := 48) q7 (by decide)]; decide, by rw [sm_ti (k := 48) q7 (by decide)]; decide, by rw [sm_ti (k := 48) q7 (by decide)]; decide, by rw [sm_ti (k := 48) q7 (by decide)]; decide, by rw [sm_ti (k := 48) q7 (by decide)]; decide, by rw [sm_ti (k := 48) q7 (by decide)]; decide, by rw [sm_ti (k := 48) q7 (by decide)]; decide⟩)))))⟩ | 11, _, q7 => ⟨213, 214, rfl, by decide, sm_lload_n (z := l1) hx dX4_joined_214 rfl (sm_lload_n (z := l3) hx dX4_joined_215 rfl (sm_lor (a := l1) (b := l3) hx dX4_joined_216 (sm_lstore (ls' := [some (.int a0), some (.long l1), none, some (.long l3), none, some (.long (l1 ||| l3)), none]) hx dX4_joined_217 (by decide) rfl (((h x hx).2.2.2.2.2.2.2.2 ⟨by rw [sm_ti (k := 49) q7 (by decide)]; decide, by rw [sm_ti (k := 49) q7 (by decide)]; decide, by rw [sm_ti (k := 49) q7 (by decide)]; decide, by rw [sm_ti (k := 49) q7 (by decide)]; decide, by rw [sm_ti (k := 49) q7 (by decide)]; decide, by rw [sm_ti (k := 49) q7 (by decide)]; decide, by rw [sm_ti (k := 49) q7 (by decide)]; decide, by rw [sm_ti (k := 49) q7 (by decide)]; decide⟩)))))⟩ | 12, _, q7 => ⟨213, 214, rfl, by decide, sm_lload_n (z := l1) hx dX4_joined_214 rfl (sm_lload_n (z := l3) hx dX4_joined_215 rfl (sm_lor (a := l1) (b := l3) hx dX4_joined_216 (sm_lstore (ls' := [some (.int a0), some (.long l1), none, some (.long l3), none, some (.long (l1 ||| l3)), none]) hx dX4_joined_217 (by decide) rfl (((h x hx).2.2.2.2.2.2.2.2 ⟨by rw [sm_ti (k := 50) q7 (by decide)]; decide, by rw [sm_ti (k := 50) q7 (by decide)]; decide, by rw [sm_ti (k := 50) q7 (by decide)]; decide, by rw [sm_ti (k := 50) q7 (by decide)]; decide, by rw [sm_ti (k := 50) q7 (by decide)]; decide, by rw [sm_ti (k := 50) q7 (by decide)]; decide, by rw [sm_ti (k := 50) q7 (by decide)]; decide, by rw [sm_ti (k := 50) q7 (by decide)]; decide⟩)))))⟩ | 13, _, q7 => ⟨213, 214, rfl, by decide, sm_lload_n (z := l1) hx dX4_joined_214 rfl (sm_lload_n (z := l3) hx dX4_joined_215 rfl (sm_lor (a := l1) (b := l3) hx dX4_joined_216 (sm_lstore (ls' := [some (.int a0), some (.long l1), none, some (.long l3), none, some (.long (l1 ||| l3)), none]) hx dX4_joined_217 (by decide) rfl (((h x hx).2.2.2.2.2.2.2.2 ⟨by rw [sm_ti (k := 51) q7 (by decide)]; decide, by rw [sm_ti (k := 51) q7 (by decide)]; decide, by rw [sm_ti (k := 51) q7 (by decide)]; decide, by rw [sm_ti (k := 51) q7 (by decide)]; decide, by rw [sm_ti (k := 51) q7 (by decide)]; decide, by rw [sm_ti (k := 51) q7 (by decide)]; decide, by rw [sm_ti (k := 51) q7 (by decide)]; decide, by rw [sm_ti (k := 51) q7 (by decide)]; decide⟩)))))⟩ | 14, _, q7 => ⟨213, 214, rfl, by decide, sm_lload_n (z := l1) hx dX4_joined_214 rfl (sm_lload_n (z := l3) hx dX4_joined_215 rfl (sm_lor (a := l1) (b := l3) hx dX4_joined_216 (sm_lstore (ls' := [some (.int a0), some (.long l1), none, some (.long l3), none, some (.long (l1 ||| l3)), none]) hx dX4_joined_217 (by decide) rfl (((h x hx).2.2.2.2.2.2.2.2 ⟨by rw [sm_ti (k := 52) q7 (by decide)]; decide, by rw [sm_ti (k := 52) q7 (by decide)]; decide, by rw [sm_ti (k := 52) q7 (by decide)]; decide, by rw [sm_ti (k := 52) q7 (by decide)]; decide, by rw [sm_ti (k := 52) q7 (by decide)]; decide, by rw [sm_ti (k := 52) q7 (by decide)]; decide, by rw [sm_ti (k := 52) q7 (by decide)]; decide, by rw [sm_ti (k := 52) q7 (by decide)]; decide⟩)))))⟩ | 15, _, q7 => ⟨213, 214, rfl, by decide, sm_lload_n (z := l1) hx dX4_joined_214 rfl (sm_lload_n (z := l3) hx dX4_joined_215 rfl (sm_lor (a := l1) (b := l3) hx dX4_joined_216 (sm_lstore (ls' := [some (.int a0), some (.long l1), none, some (.long l3), none, some (.long (l1 ||| l3)), none]) hx dX4_joined_217 (by decide) rfl (((h x hx).2.2.2.2.2.2.2.2 ⟨by rw [sm_ti (k := 53) q7 (by decide)]; decide, by rw [sm_ti (k := 53) q7 (by decide)]; decide, by rw [sm_ti (k := 53) q7 (by decide)]; decide, by rw [sm_ti (k := 53) q7 (by decide)]; decide, by rw [sm_ti (k := 53) q7 (by decide)]; decide, by rw [sm_ti (k := 53) q7 (by decide)]; decide, by rw [sm_ti (k := 53) q7 (by decide)]; decide, by rw [sm_ti (k := 53) q7 (by decide)]; decide⟩)))))⟩ | 16, _, q7 => ⟨213, 214, rfl, by decide, sm_lload_n (z := l1) hx dX4_joined_214 rfl (sm_lload_n (z := l3) hx dX4_joined_215 rfl (sm_lor (a := l1) (b := l3) hx dX4_joined_216 (sm_lstore (ls' := [some (.int a0), some (.long l1), none, some (.long l3), none, some (.long (l1 ||| l3)), none]) hx dX4_joined_217 (by decide) rfl (((h x hx).2.2.2.2.2.2.2.2 ⟨by rw [sm_ti (k := 54) q7 (by decide)]; decide, by rw [sm_ti (k := 54) q7 (by decide)]; decide, by rw [sm_ti (k := 54) q7 (by decide)]; decide, by rw [sm_ti (k := 54) q7 (by decide)]; decide, by rw [sm_ti (k := 54) q7 (by decide)]; decide, by rw [sm_ti (k := 54) q7 (by decide)]; decide, by rw [sm_ti (k := 54) q7 (by decide)]; decide, by rw [sm_ti (k := 54) q7 (by decide)]; decide⟩)))))⟩ | 17, _, q7 => ⟨213, 214, rfl, by decide, sm_lload_n (z := l1) hx dX4_joined_214 rfl (sm_lload_n (z := l3) hx dX4_joined_215 rfl (sm_lor (a := l1) (b := l3) hx dX4_joined_216 (sm_lstore (ls' := [some (.int a0), some (.long l1), none, some (.long l3), none, some (.long (l1 ||| l3)), none]) hx dX4_joined_217 (by decide) rfl (((h x hx).2.2.2.2.2.2.2.2 ⟨by rw [sm_ti (k := 55) q7 (by decide)]; decide, by rw [sm_ti (k := 55) q7 (by decide)]; decide, by rw [sm_ti (k := 55) q7 (by decide)]; decide, by rw [sm_ti (k := 55) q7 (by decide)]; decide, by rw [sm_ti (k := 55) q7 (by decide)]; decide, by rw [sm_ti (k := 55) q7 (by decide)]; decide, by rw [sm_ti (k := 55) q7 (by decide)]; decide, by rw [sm_ti (k := 55) q7 (by decide)]; decide⟩)))))⟩ | 18, _, q7 => ⟨213, 214, rfl, by decide, sm_lload_n (z := l1) hx dX4_joined_214 rfl (sm_lload_n (z := l3) hx dX4_joined_215 rfl (sm_lor (a := l1) (b := l3) hx dX4_joined_216 (sm_lstore (ls' := [some (.int a0), some (.long l1), none, some (.long l3), none, some (.long (l1 ||| l3)), none]) hx dX4_joined_217 (by decide) rfl (((h x hx).2.2.2.2.2.2.2.2 ⟨by rw [sm_ti (k := 56) q7 (by decide)]; decide, by rw [sm_ti (k := 56) q7 (by decide)]; decide, by rw [sm_ti (k := 56) q7 (by decide)]; decide, by rw [sm_ti (k := 56) q7 (by decide)]; decide, by rw [sm_ti (k := 56) q7 (by decide)]; decide, by rw [sm_ti (k := 56) q7 (by decide)]; decide, by rw [sm_ti (k := 56) q7 (by decide)]; decide, by rw [sm_ti (k := 56) q7 (by decide)]; decide⟩)))))⟩ | 19, _, q7 => ⟨213, 214, rfl, by decide, sm_lload_n (z := l1) hx dX4_joined_214 rfl (sm_lload_n (z := l3) hx dX4_joined_215 rfl (sm_lor (a := l1) (b := l3) hx dX4_joined_216 (sm_lstore (ls' := [some (.int a0), some (.long l1), none, some (.long l3), none, some (.long (l1 ||| l3)), none]) hx dX4_joined_217 (by decide) rfl (((h x hx).2.2.2.2.2.2.2.2 ⟨by rw [sm_ti (k := 57) q7 (by decide)]; decide, by rw [sm_ti (k := 57) q7 (by decide)]; decide, by rw [sm_ti (k := 57) q7 (by decide)]; decide, by rw [sm_ti (k := 57) q7 (by decide)]; decide, by rw [sm_ti (k := 57) q7 (by decide)]; decide, by rw [sm_ti (k := 57) q7 (by decide)]; decide, by rw [sm_ti (k := 57) q7 (by decide)]; decide, by rw [sm_ti (k := 57) q7 (by decide)]; decide⟩)))))⟩ | 20, _, q7 => ⟨213, 214, rfl, by decide, sm_lload_n (z := l1) hx dX4_joined_214 rfl (sm_lload_n (z := l3) hx dX4_joined_215 rfl (sm_lor (a := l1) (b := l3) hx dX4_joined_216 (sm_lstore (ls' := [some (.int a0), some (.long l1), none, some (.long l3), none, some (.long (l1 ||| l3)), none]) hx dX4_joined_217 (by decide) rfl (((h x hx).2.2.2.2.2.2.2.2 ⟨by rw [sm_ti (k := 58) q7 (by decide)]; decide, by rw [sm_ti (k := 58) q7 (by decide)]; decide, by rw [sm_ti (k := 58) q7 (by decide)]; decide, by rw [sm_ti (k := 58) q7 (by decide)]; decide, by rw [sm_ti (k := 58) q7 (by decide)]; decide, by rw [sm_ti (k := 58) q7 (by decide)]; decide, by rw [sm_ti (k := 58) q7 (by decide)]; decide, by rw [sm_ti (k := 58) q7 (by decide)]; decide⟩)))))⟩ | 21, _, q7 => ⟨213, 214, rfl, by decide, sm_lload_n (z := l1) hx dX4_joined_214 rfl (sm_lload_n (z := l3) hx dX4_joined_215 rfl (sm_lor (a := l1) (b := l3) hx dX4_joined_216 (sm_lstore (ls' := [some (.int a0), some (.long l1), none, some (.long l3), none, some (.long (l1 ||| l3)), none]) hx dX4_joined_217 (by decide) rfl (((h x hx).2.2.2.2.2.2.2.2 ⟨by rw [sm_ti (k := 59) q7 (by decide)]; decide, by rw [sm_ti (k := 59) q7 (by decide)]; decide, by rw [sm_ti (k := 59) q7 (by decide)]; decide, by rw [sm_ti (k := 59) q7 (by decide)]; decide, by rw [sm_ti (k := 59) q7 (by decide)]; decide, by rw [sm_ti (k := 59) q7 (by decide)]; decide, by rw [sm_ti (k := 59) q7 (by decide)]; decide, by rw [sm_ti (k := 59) q7 (by decide)]; decide⟩)))))⟩ | 22, _, q7 => ⟨173, 174, rfl, by decide, sm_lload_n (z := l1) hx dX4_joined_174 rfl (sm_lload_n (z := l3) hx dX4_joined_175 rfl (sm_lcmp (a := l1) (b := l3) hx dX4_joined_176 (sm_ifge (a := (lg_cmp l1 l3)) hx dX4_joined_177 (tgt := 184) (by decide) (fun q4 => sm_lconst (v := 0) hx dX4_joined_184 rfl (sm_lstore (ls' := [some (.int a0), some (.long l1), none, some (.long l3), none, some (.long 0), none]) hx dX4_joined_185 (by decide) rfl (sm_goto hx dX4_joined_187 (tgt := 219) (by decide) ((((h x hx).2.2.2.2.2.1 (sm_ti q7 (by decide))).1 q4))))) (fun q4 => sm_lconst (v := 1) hx dX4_joined_180 rfl (sm_goto hx dX4_joined_181 (tgt := 185) (by decide) (sm_lstore (ls' := [some (.int a0), some (.long l1), none, some (.long l3), none, some (.long 1), none]) hx dX4_joined_185 (by decide) rfl (sm_goto hx dX4_joined_187 (tgt := 219) (by decide) ((((h x hx).2.2.2.2.2.1 (sm_ti q7 (by decide))).2 q4)))))))))⟩ | 23, _, q7 => ⟨157, 158, rfl, by decide, sm_lload_n (z := l1) hx dX4_joined_158 rfl (sm_lload_n (z := l3) hx dX4_joined_159 rfl (sm_lcmp (a := l1) (b := l3) hx dX4_joined_160 (sm_ifne (a := (lg_cmp l1 l3)) hx dX4_joined_161 (tgt := 168) (by decide) (fun q5 => sm_lconst (v := 0) hx dX4_joined_168 rfl (sm_lstore (ls' := [some (.int a0), some (.long l1), none, some (.long l3), none, some (.long 0), none]) hx dX4_joined_169 (by decide) rfl (sm_goto hx dX4_joined_171 (tgt := 219) (by decide) ((((h x hx).2.2.2.2.2.2.1 (sm_ti q7 (by decide))).1 q5))))) (fun q5 => sm_lconst (v := 1) hx dX4_joined_164 rfl (sm_goto hx dX4_joined_165 (tgt := 169) (by decide) (sm_lstore (ls' := [some (.int a0), some (.long l1), none, some (.long l3), none, some (.long 1), none]) hx dX4_joined_169 (by decide) rfl (sm_goto hx dX4_joined_171 (tgt := 219) (by decide) ((((h x hx).2.2.2.2.2.2.1 (sm_ti q7 (by decide))).2 q5)))))))))⟩ | 24, _, q7 => ⟨189, 190, rfl, by decide, sm_lload_n (z := l1) hx dX4_joined_190 rfl (sm_lload_n (z := l3) hx dX4_joined_191 rfl (sm_lcmp (a := l1) (b := l3) hx dX4_joined_192 (sm_ifle (a := (lg_cmp l1 l3)) hx dX4_joined_193 (tgt := 200) (by decide) (fun q6 => sm_lconst (v := 0) hx dX4_joined_200 rfl (sm_lstore (ls' := [some (.int a0), some (.long l1), none, some (.long l3), none, some (.long 0), none]) hx dX4_joined_201 (by decide) rfl (sm_goto hx dX4_joined_203 (tgt := 219) (by decide) ((((h x hx).2.2.2.2.2.2.2.1 (sm_ti q7 (by decide))).1 q6))))) (fun q6 => sm_lconst (v := 1) hx dX4_joined_196 rfl (sm_goto hx dX4_joined_197 (tgt := 201) (by decide) (sm_lstore (ls' := [some (.int a0), some (.long l1), none, some (.long l3), none, some (.long 1), none]) hx dX4_joined_201 (by decide) rfl (sm_goto hx dX4_joined_203 (tgt := 219) (by decide) ((((h x hx).2.2.2.2.2.2.2.1 (sm_ti q7 (by decide))).2 q6)))))))))⟩ | i + 25, hi, _ => absurd hi (Nat.not_lt.mpr (Nat.le_add_left 25 i))) (fun hhq7 => ⟨214, by decide, sm_lload_n (z := l1) hx dX4_joined_214 rfl (sm_lload_n (z := l3) hx dX4_joined_215 rfl (sm_lor (a := l1) (b := l3) hx dX4_joined_216 (sm_lstore (ls' := [some (.int a0), some (.long l1), none, some (.long l3), none, some (.long (l1 ||| l3)), none]) hx dX4_joined_217 (by decide) rfl (((h x hx).2.2.2.2.2.2.2.2 ⟨fun e => hhq7 0 (by decide) (by rw [e]; decide), fun e => hhq7 4 (by decide) (by rw [e]; decide), fun e => hhq7 5 (by decide) (by rw [e]; decide), fun e => hhq7 7 (by decide) (by rw [e]; decide), fun e => hhq7 9 (by decide) (by rw [e]; decide), fun e => hhq7 22 (by decide) (by rw [e]; decide), fun e => hhq7 23 (by decide) (by rw [e]; decide), fun e => hhq7 24 (by decide) (by rw [e]; decide)⟩)))))⟩)))
theorem dX5_read_0 : decode cX5_read 0 = .ok (.aload_n 0, 1) := by decide +kernel
theorem dX5_read_1 : decode cX5_read 1 = .ok (.invokevirtual 32, 3) := by decide +kernel
theorem dX5_read_4 : decode cX5_read 4 = .ok (.aload_n 0, 1) := by decide +kernel
theorem dX5_read_5 : decode cX5_read 5 = .ok (.iconst 0, 1) := by decide +kernel
theorem dX5_read_6 : decode cX5_read 6 = .ok (.putfield 23, 3) := by decide +kernel
theorem dX5_read_9 : decode cX5_read 9 = .ok (.iconst 0, 1) := by decide +kernel
theorem dX5_read_10 : decode cX5_read 10 = .ok (.istore_n 1, 1) := by decide +kernel
theorem dX5_read_11 : decode cX5_read 11 = .ok (.iload_n 1, 1) := by decide +kernel
theorem dX5_read_12 : decode cX5_read 12 = .ok (.sipush 160, 3) := by decide +kernel
theorem dX5_read_15 : decode cX5_read 15 = .ok (.if_icmp .ge 42, 3) := by decide +kernel
theorem dX5_read_18 : decode cX5_read 18 = .ok (.aload_n 0, 1) := by decide +kernel
theorem dX5_read_19 : decode cX5_read 19 = .ok (.invokevirtual 36, 3) := by decide +kernel
theorem dX5_read_22 : decode cX5_read 22 = .ok (.ifCond .eq 35, 3) := by decide +kernel
theorem dX5_read_25 : decode cX5_read 25 = .ok (.aload_n 0, 1) := by decide +kernel
theorem dX5_read_26 : decode cX5_read 26 = .ok (.bipush 59, 2) := by decide +kernel
theorem dX5_read_28 : decode cX5_read 28 = .ok (.invokevirtual 40, 3) := by decide +kernel
theorem dX5_read_31 : decode cX5_read 31 = .ok (.ifCond .ne 20, 3) := by decide +kernel
theorem dX5_read_34 : decode cX5_read 34 = .ok (.aload_n 0, 1) := by decide +kernel
theorem dX5_read_35 : decode cX5_read 35 = .ok (.invokevirtual 44, 3) := by decide +kernel
theorem dX5_read_38 : decode cX5_read 38 = .ok (.iconst (-1), 1) := by decide +kernel
theorem dX5_read_39 : decode cX5_read 39 = .ok (.if_icmp .ne 7, 3) := by decide +kernel
theorem dX5_read_42 : decode cX5_read 42 = .ok (.iconst (-1), 1) := by decide +kernel
theorem dX5_read_43 : decode cX5_read 43 = .ok (.goto 7, 3) := by decide +kernel
theorem dX5_read_46 : decode cX5_read 46 = .ok (.aload_n 0, 1) := by decide +kernel
theorem dX5_read_47 : decode cX5_read 47 = .ok (.invokevirtual 48, 3) := by decide +kernel
theorem dX5_read_50 : decode cX5_read 50 = .ok (.ireturn, 1) := by decide +kernel
theorem dX5_read_51 : decode cX5_read 51 = .ok (.iinc 1 1, 3) := by decide +kernel
theorem dX5_read_54 : decode cX5_read 54 = .ok (.goto (-43), 3) := by decide +kernel
theorem dX5_read_57 : decode cX5_read 57 = .ok (.aload_n 0, 1) := by decide +kernel
theorem dX5_read_58 : decode cX5_read 58 = .ok (.invokevirtual 48, 3) := by decide +kernel
theorem dX5_read_61 : decode cX5_read 61 = .ok (.ireturn, 1) := by decide +kernel
set_option maxRecDepth 100000 in
theorem u_X5_read_11 {x : sm_Cx} {n : Nat} {F : Int32 → sm_MI → sm_ML → Prop} {T : List sm_Sh} {I : sm_MI} {L : sm_ML} {a1 : Int32} (hB : sm_Bs T) (hx : sm_Ok x mX5_read (n + 1) (sm_KI T F))
    (h : (160 ≤ a1 → sm_CI n mX2_faultHere T I L [.ref 18] (fun r2 I1 L1 => F r2 I1 L1)) ∧ (¬ 160 ≤ a1 → sm_CZ n mX5_readClause T I L [.ref 18] (fun r4 I3 L3 => (r4 = false → sm_CI n mX2_faultHere T I3 L3 [.ref 18] (fun r6 I5 L5 => F r6 I5 L5)) ∧ (r4 = true → sm_CZ n mX2_take T I3 L3 [.ref 18, .int 59] (fun r8 I7 L7 => (r8 = true → sm_V x 0 0 T I7 L7 11 [some (.ref 18), some (.int (a1 + 1))] []) ∧ (r8 = false → sm_CI n mX2_nextSign T I7 L7 [.ref 18] (fun r10 I9 L9 => (¬ r10 = (-1) → sm_CI n mX2_faultHere T I9 L9 [.ref 18] (fun r12 I11 L11 => F r12 I11 L11)) ∧ (r10 = (-1) → F (-1) I9 L9)))))))) :
    sm_V x 0 0 T I L 11 [some (.ref 18), some (.int a1)] [] :=
  sm_iload_n (z := a1) hx dX5_read_11 rfl (sm_sipush (v := 160) hx dX5_read_12 sm_ks_160 (sm_icmpge (a := a1) (b := 160) hx dX5_read_15 (tgt := 57) (by decide) (fun q4 => sm_aload_n (z := 18) hx dX5_read_57 rfl (sm_callUI (args := []) (st := []) hx dX5_read_58 lu_X5_48_5 rfl rfl (t_18 hB) rfl rfl (h.1 q4) (fun r2 I1 L1 hI1 => sm_iretI hx dX5_read_61 rfl hI1))) (fun q4 => sm_aload_n (z := 18) hx dX5_read_18 rfl (sm_callVZ (args := []) (st := []) hx dX5_read_19 lv_X5_36_5 rfl rfl (t_18 hB) rfl rfl (h.2 q4) (fun r4 I3 L3 hI3 => sm_ifeqZ (b := r4) hx dX5_read_22 (tgt := 57) (by decide) (fun q3 => sm_aload_n (z := 18) hx dX5_read_57 rfl (sm_callUI (args := []) (st := []) hx dX5_read_58 lu_X5_48_5 rfl rfl (t_18 hB) rfl rfl (hI3.1 q3) (fun r6 I5 L5 hI5 => sm_iretI hx dX5_read_61 rfl hI5))) (fun q3 => sm_aload_n (z := 18) hx dX5_read_25 rfl (sm_bipush (v := 59) hx dX5_read_26 sm_kb_59 (sm_callUZ (args := [.int 59]) (st := []) hx dX5_read_28 lu_X5_40_5 rfl rfl (t_18 hB) rfl rfl (hI3.2 q3) (fun r8 I7 L7 hI7 => sm_ifneZ (b := r8) hx dX5_read_31 (tgt := 51) (by decide) (fun q2 => sm_iinc (ls' := [some (.ref 18), some (.int (a1 + 1))]) (z := a1) (v := (a1 + 1)) hx dX5_read_51 rfl (sm_kii_1 _) (by decide) rfl (sm_goto hx dX5_read_54 (tgt := 11) (by decide) ((hI7.1 q2)))) (fun q2 => sm_aload_n (z := 18) hx dX5_read_34 rfl (sm_callUI (args := []) (st := []) hx dX5_read_35 lu_X5_44_5 rfl rfl (t_18 hB) rfl rfl (hI7.2 q2) (fun r10 I9 L9 hI9 => sm_iconst (v := (-1)) hx dX5_read_38 sm_kc_m1 (sm_icmpne (a := r10) (b := (-1)) hx dX5_read_39 (tgt := 46) (by decide) (fun q1 => sm_aload_n (z := 18) hx dX5_read_46 rfl (sm_callUI (args := []) (st := []) hx dX5_read_47 lu_X5_48_5 rfl rfl (t_18 hB) rfl rfl (hI9.1 q1) (fun r12 I11 L11 hI11 => sm_iretI hx dX5_read_50 rfl hI11))) (fun q1 => sm_iconst (v := (-1)) hx dX5_read_42 sm_kc_m1 (sm_goto hx dX5_read_43 (tgt := 50) (by decide) (sm_iretI hx dX5_read_50 rfl (hI9.2 q1)))))))))))))))))
set_option maxRecDepth 100000 in
theorem c_X5_read {n : Nat} {F : Int32 → sm_MI → sm_ML → Prop} {T : List sm_Sh} {I : sm_MI} {L : sm_ML}  (hB : sm_Bs T)
    (h : ∀ x : sm_Cx, sm_Ok x mX5_read (n + 1) (sm_KI T F) → sm_CV n mX2_begin T I L [.ref 18] (fun I1 L1 => sm_V x 0 0 T (sm_uI I1 18 4 0) L1 11 [some (.ref 18), some (.int 0)] [])) :
    sm_CI (n + 1) mX5_read T I L [.ref 18] F :=
  sm_CI.of (by decide +kernel) rfl (fun x hx => show sm_V x 0 0 T I L 0 [some (.ref 18), none] [] from
  sm_aload_n (z := 18) hx dX5_read_0 rfl (sm_callUV (args := []) (st := []) hx dX5_read_1 lu_X5_32_5 rfl rfl (t_18 hB) rfl rfl (h x hx) (fun I1 L1 hI1 => sm_aload_n (z := 18) hx dX5_read_4 rfl (sm_iconst (v := 0) hx dX5_read_5 sm_kc_0 (sm_putI hx dX5_read_6 fl_X5_23_5 (t_18 hB) rfl (sm_iconst (v := 0) hx dX5_read_9 sm_kc_0 (sm_istore_n (ls' := [some (.ref 18), some (.int 0)]) hx dX5_read_10 (by decide) rfl (hI1))))))))
theorem dX5_readClause_0 : decode cX5_readClause 0 = .ok (.aload_n 0, 1) := by decide +kernel
theorem dX5_readClause_1 : decode cX5_readClause 1 = .ok (.bipush 121, 2) := by decide +kernel
theorem dX5_readClause_3 : decode cX5_readClause 3 = .ok (.invokevirtual 40, 3) := by decide +kernel
theorem dX5_readClause_6 : decode cX5_readClause 6 = .ok (.ifCond .eq 12, 3) := by decide +kernel
theorem dX5_readClause_9 : decode cX5_readClause 9 = .ok (.aload_n 0, 1) := by decide +kernel
theorem dX5_readClause_10 : decode cX5_readClause 10 = .ok (.bipush 58, 2) := by decide +kernel
theorem dX5_readClause_12 : decode cX5_readClause 12 = .ok (.invokevirtual 40, 3) := by decide +kernel
theorem dX5_readClause_15 : decode cX5_readClause 15 = .ok (.ifCond .ne 5, 3) := by decide +kernel
theorem dX5_readClause_18 : decode cX5_readClause 18 = .ok (.iconst 0, 1) := by decide +kernel
theorem dX5_readClause_19 : decode cX5_readClause 19 = .ok (.ireturn, 1) := by decide +kernel
theorem dX5_readClause_20 : decode cX5_readClause 20 = .ok (.aload_n 0, 1) := by decide +kernel
theorem dX5_readClause_21 : decode cX5_readClause 21 = .ok (.invokevirtual 44, 3) := by decide +kernel
theorem dX5_readClause_24 : decode cX5_readClause 24 = .ok (.bipush 33, 2) := by decide +kernel
theorem dX5_readClause_26 : decode cX5_readClause 26 = .ok (.if_icmp .eq 16, 3) := by decide +kernel
theorem dX5_readClause_29 : decode cX5_readClause 29 = .ok (.aload_n 0, 1) := by decide +kernel
theorem dX5_readClause_30 : decode cX5_readClause 30 = .ok (.invokevirtual 44, 3) := by decide +kernel
theorem dX5_readClause_33 : decode cX5_readClause 33 = .ok (.bipush 40, 2) := by decide +kernel
theorem dX5_readClause_35 : decode cX5_readClause 35 = .ok (.if_icmp .eq 7, 3) := by decide +kernel
theorem dX5_readClause_38 : decode cX5_readClause 38 = .ok (.iconst 1, 1) := by decide +kernel
theorem dX5_readClause_39 : decode cX5_readClause 39 = .ok (.goto 4, 3) := by decide +kernel
theorem dX5_readClause_42 : decode cX5_readClause 42 = .ok (.iconst 0, 1) := by decide +kernel
theorem dX5_readClause_43 : decode cX5_readClause 43 = .ok (.istore_n 1, 1) := by decide +kernel
theorem dX5_readClause_44 : decode cX5_readClause 44 = .ok (.iload_n 1, 1) := by decide +kernel
theorem dX5_readClause_45 : decode cX5_readClause 45 = .ok (.ifCond .eq 13, 3) := by decide +kernel
theorem dX5_readClause_48 : decode cX5_readClause 48 = .ok (.aload_n 0, 1) := by decide +kernel
theorem dX5_readClause_49 : decode cX5_readClause 49 = .ok (.iconst 0, 1) := by decide +kernel
theorem dX5_readClause_50 : decode cX5_readClause 50 = .ok (.invokevirtual 51, 3) := by decide +kernel
theorem dX5_readClause_53 : decode cX5_readClause 53 = .ok (.ifCond .ne 5, 3) := by decide +kernel
theorem dX5_readClause_56 : decode cX5_readClause 56 = .ok (.iconst 0, 1) := by decide +kernel
theorem dX5_readClause_57 : decode cX5_readClause 57 = .ok (.ireturn, 1) := by decide +kernel
theorem dX5_readClause_58 : decode cX5_readClause 58 = .ok (.iload_n 1, 1) := by decide +kernel
theorem dX5_readClause_59 : decode cX5_readClause 59 = .ok (.ifCond .eq 22, 3) := by decide +kernel
theorem dX5_readClause_62 : decode cX5_readClause 62 = .ok (.aload_n 0, 1) := by decide +kernel
theorem dX5_readClause_63 : decode cX5_readClause 63 = .ok (.invokevirtual 44, 3) := by decide +kernel
theorem dX5_readClause_66 : decode cX5_readClause 66 = .ok (.invokestatic 54, 3) := by decide +kernel
theorem dX5_readClause_69 : decode cX5_readClause 69 = .ok (.ifCond .ne 12, 3) := by decide +kernel
theorem dX5_readClause_72 : decode cX5_readClause 72 = .ok (.aload_n 0, 1) := by decide +kernel
theorem dX5_readClause_73 : decode cX5_readClause 73 = .ok (.bipush 59, 2) := by decide +kernel
theorem dX5_readClause_75 : decode cX5_readClause 75 = .ok (.iconst 0, 1) := by decide +kernel
theorem dX5_readClause_76 : decode cX5_readClause 76 = .ok (.invokevirtual 57, 3) := by decide +kernel
theorem dX5_readClause_79 : decode cX5_readClause 79 = .ok (.iconst 1, 1) := by decide +kernel
theorem dX5_readClause_80 : decode cX5_readClause 80 = .ok (.ireturn, 1) := by decide +kernel
theorem dX5_readClause_81 : decode cX5_readClause 81 = .ok (.aload_n 0, 1) := by decide +kernel
theorem dX5_readClause_82 : decode cX5_readClause 82 = .ok (.iconst 0, 1) := by decide +kernel
theorem dX5_readClause_83 : decode cX5_readClause 83 = .ok (.iload_n 1, 1) := by decide +kernel
theorem dX5_readClause_84 : decode cX5_readClause 84 = .ok (.invokevirtual 61, 3) := by decide +kernel
theorem dX5_readClause_87 : decode cX5_readClause 87 = .ok (.ifCond .eq 12, 3) := by decide +kernel
theorem dX5_readClause_90 : decode cX5_readClause 90 = .ok (.aload_n 0, 1) := by decide +kernel
theorem dX5_readClause_91 : decode cX5_readClause 91 = .ok (.bipush 63, 2) := by decide +kernel
theorem dX5_readClause_93 : decode cX5_readClause 93 = .ok (.invokevirtual 40, 3) := by decide +kernel
theorem dX5_readClause_96 : decode cX5_readClause 96 = .ok (.ifCond .ne 5, 3) := by decide +kernel
theorem dX5_readClause_99 : decode cX5_readClause 99 = .ok (.iconst 0, 1) := by decide +kernel
theorem dX5_readClause_100 : decode cX5_readClause 100 = .ok (.ireturn, 1) := by decide +kernel
theorem dX5_readClause_101 : decode cX5_readClause 101 = .ok (.aload_n 0, 1) := by decide +kernel
theorem dX5_readClause_102 : decode cX5_readClause 102 = .ok (.getfield 23, 3) := by decide +kernel
theorem dX5_readClause_105 : decode cX5_readClause 105 = .ok (.istore_n 2, 1) := by decide +kernel
theorem dX5_readClause_106 : decode cX5_readClause 106 = .ok (.aload_n 0, 1) := by decide +kernel
theorem dX5_readClause_107 : decode cX5_readClause 107 = .ok (.bipush 63, 2) := by decide +kernel
theorem dX5_readClause_109 : decode cX5_readClause 109 = .ok (.iconst 0, 1) := by decide +kernel
theorem dX5_readClause_110 : decode cX5_readClause 110 = .ok (.invokevirtual 57, 3) := by decide +kernel
theorem dX5_readClause_113 : decode cX5_readClause 113 = .ok (.aload_n 0, 1) := by decide +kernel
theorem dX5_readClause_114 : decode cX5_readClause 114 = .ok (.iconst 0, 1) := by decide +kernel
theorem dX5_readClause_115 : decode cX5_readClause 115 = .ok (.invokevirtual 51, 3) := by decide +kernel
theorem dX5_readClause_118 : decode cX5_readClause 118 = .ok (.ifCond .ne 5, 3) := by decide +kernel
theorem dX5_readClause_121 : decode cX5_readClause 121 = .ok (.iconst 0, 1) := by decide +kernel
theorem dX5_readClause_122 : decode cX5_readClause 122 = .ok (.ireturn, 1) := by decide +kernel
theorem dX5_readClause_123 : decode cX5_readClause 123 = .ok (.aload_n 0, 1) := by decide +kernel
theorem dX5_readClause_124 : decode cX5_readClause 124 = .ok (.bipush 59, 2) := by decide +kernel
theorem dX5_readClause_126 : decode cX5_readClause 126 = .ok (.iconst 0, 1) := by decide +kernel
theorem dX5_readClause_127 : decode cX5_readClause 127 = .ok (.invokevirtual 57, 3) := by decide +kernel
theorem dX5_readClause_130 : decode cX5_readClause 130 = .ok (.aload_n 0, 1) := by decide +kernel
theorem dX5_readClause_131 : decode cX5_readClause 131 = .ok (.getfield 20, 3) := by decide +kernel
theorem dX5_readClause_134 : decode cX5_readClause 134 = .ok (.iload_n 2, 1) := by decide +kernel
theorem dX5_readClause_135 : decode cX5_readClause 135 = .ok (.aload_n 0, 1) := by decide +kernel
theorem dX5_readClause_136 : decode cX5_readClause 136 = .ok (.getfield 23, 3) := by decide +kernel
theorem dX5_readClause_139 : decode cX5_readClause 139 = .ok (.invokevirtual 65, 3) := by decide +kernel
theorem dX5_readClause_142 : decode cX5_readClause 142 = .ok (.iconst 1, 1) := by decide +kernel
theorem dX5_readClause_143 : decode cX5_readClause 143 = .ok (.ireturn, 1) := by decide +kernel
set_option maxRecDepth 100000 in
theorem u_X5_readClause_58 {x : sm_Cx} {n : Nat} {F : Bool → sm_MI → sm_ML → Prop} {T : List sm_Sh} {I : sm_MI} {L : sm_ML} {b1 : Bool} (hB : sm_Bs T) (hx : sm_Ok x mX5_readClause (n + 1) (sm_KZ T F))
    (h : (b1 = false → sm_CZ n mX5_readCondition T I L [.ref 18, .int 0, .int (sm_z b1)] (fun r2 I1 L1 => (r2 = false → F false I1 L1) ∧ (r2 = true → sm_CZ n mX2_take T I1 L1 [.ref 18, .int 63] (fun r4 I3 L3 => (r4 = true → sm_CV n mX5_write T I3 L3 [.ref 18, .int 63, .int 0] (fun I5 L5 => sm_CZ n mX5_readSum T I5 L5 [.ref 18, .int 0] (fun r7 I6 L6 => (r7 = true → sm_CV n mX5_write T I6 L6 [.ref 18, .int 59, .int 0] (fun I8 L8 => sm_CV n mX3_set T I8 L8 [.ref 21, .int (I3 18 4), .int (I8 18 4)] (fun I9 L9 => F true I9 L9))) ∧ (r7 = false → F false I6 L6)))) ∧ (r4 = false → F false I3 L3))))) ∧ (b1 = true → sm_CI n mX2_nextSign T I L [.ref 18] (fun r11 I10 L10 => sm_CZ n mX5_isRelation T I10 L10 [.int r11] (fun r13 I12 L12 => (r13 = true → sm_CZ n mX5_readCondition T I12 L12 [.ref 18, .int 0, .int (sm_z b1)] (fun r15 I14 L14 => (r15 = false → F false I14 L14) ∧ (r15 = true → sm_CZ n mX2_take T I14 L14 [.ref 18, .int 63] (fun r17 I16 L16 => (r17 = true → sm_CV n mX5_write T I16 L16 [.ref 18, .int 63, .int 0] (fun I18 L18 => sm_CZ n mX5_readSum T I18 L18 [.ref 18, .int 0] (fun r20 I19 L19 => (r20 = true → sm_CV n mX5_write T I19 L19 [.ref 18, .int 59, .int 0] (fun I21 L21 => sm_CV n mX3_set T I21 L21 [.ref 21, .int (I16 18 4), .int (I21 18 4)] (fun I22 L22 => F true I22 L22))) ∧ (r20 = false → F false I19 L19)))) ∧ (r17 = false → F false I16 L16))))) ∧ (r13 = false → sm_CV n mX5_write T I12 L12 [.ref 18, .int 59, .int 0] (fun I23 L23 => F true I23 L23)))))) :
    sm_V x 0 0 T I L 58 [some (.ref 18), some (.int (sm_z b1)), none] [] :=
  sm_iload_n (z := (sm_z b1)) hx dX5_readClause_58 rfl (sm_ifeqZ (b := b1) hx dX5_readClause_59 (tgt := 81) (by decide) (fun q8 => sm_aload_n (z := 18) hx dX5_readClause_81 rfl (sm_iconst (v := 0) hx dX5_readClause_82 sm_kc_0 (sm_iload_n (z := (sm_z b1)) hx dX5_readClause_83 rfl (sm_callVZ (args := [.int 0, .int (sm_z b1)]) (st := []) hx dX5_readClause_84 lv_X5_61_5 rfl rfl (t_18 hB) rfl rfl (h.1 q8) (fun r2 I1 L1 hI1 => sm_ifeqZ (b := r2) hx dX5_readClause_87 (tgt := 99) (by decide) (fun q3 => sm_iconst (v := 0) hx dX5_readClause_99 sm_kc_0 (sm_iretZ (z := false) hx dX5_readClause_100 rfl (hI1.1 q3))) (fun q3 => sm_aload_n (z := 18) hx dX5_readClause_90 rfl (sm_bipush (v := 63) hx dX5_readClause_91 sm_kb_63 (sm_callUZ (args := [.int 63]) (st := []) hx dX5_readClause_93 lu_X5_40_5 rfl rfl (t_18 hB) rfl rfl (hI1.2 q3) (fun r4 I3 L3 hI3 => sm_ifneZ (b := r4) hx dX5_readClause_96 (tgt := 101) (by decide) (fun q2 => sm_aload_n (z := 18) hx dX5_readClause_101 rfl (sm_getI hx dX5_readClause_102 fl_X5_23_5 (t_18 hB) rfl (sm_istore_n (ls' := [some (.ref 18), some (.int (sm_z b1)), some (.int (I3 18 4))]) hx dX5_readClause_105 (by decide) rfl (sm_aload_n (z := 18) hx dX5_readClause_106 rfl (sm_bipush (v := 63) hx dX5_readClause_107 sm_kb_63 (sm_iconst (v := 0) hx dX5_readClause_109 sm_kc_0 (sm_callVV (args := [.int 63, .int 0]) (st := []) hx dX5_readClause_110 lv_X5_57_5 rfl rfl (t_18 hB) rfl rfl (hI3.1 q2) (fun I5 L5 hI5 => sm_aload_n (z := 18) hx dX5_readClause_113 rfl (sm_iconst (v := 0) hx dX5_readClause_114 sm_kc_0 (sm_callVZ (args := [.int 0]) (st := []) hx dX5_readClause_115 lv_X5_51_5 rfl rfl (t_18 hB) rfl rfl hI5 (fun r7 I6 L6 hI6 => sm_ifneZ (b := r7) hx dX5_readClause_118 (tgt := 123) (by decide) (fun q1 => sm_aload_n (z := 18) hx dX5_readClause_123 rfl (sm_bipush (v := 59) hx dX5_readClause_124 sm_kb_59 (sm_iconst (v := 0) hx dX5_readClause_126 sm_kc_0 (sm_callVV (args := [.int 59, .int 0]) (st := []) hx dX5_readClause_127 lv_X5_57_5 rfl rfl (t_18 hB) rfl rfl (hI6.1 q1) (fun I8 L8 hI8 => sm_aload_n (z := 18) hx dX5_readClause_130 rfl (sm_getR hx dX5_readClause_131 fl_X5_20_5 (t_18 hB) rfl (sm_iload_n (z := (I3 18 4)) hx dX5_readClause_134 rfl (sm_aload_n (z := 18) hx dX5_readClause_135 rfl (sm_getI hx dX5_readClause_136 fl_X5_23_5 (t_18 hB) rfl (sm_callVV (args := [.int (I3 18 4), .int (I8 18 4)]) (st := []) hx dX5_readClause_139 lv_X5_65_3 rfl rfl (t_21 hB) rfl rfl hI8 (fun I9 L9 hI9 => sm_iconst (v := 1) hx dX5_readClause_142 sm_kc_1 (sm_iretZ (z := true) hx dX5_readClause_143 rfl hI9)))))))))))) (fun q1 => sm_iconst (v := 0) hx dX5_readClause_121 sm_kc_0 (sm_iretZ (z := false) hx dX5_readClause_122 rfl (hI6.2 q1)))))))))))))) (fun q2 => sm_iconst (v := 0) hx dX5_readClause_99 sm_kc_0 (sm_iretZ (z := false) hx dX5_readClause_100 rfl (hI3.2 q2)))))))))))) (fun q8 => sm_aload_n (z := 18) hx dX5_readClause_62 rfl (sm_callUI (args := []) (st := []) hx dX5_readClause_63 lu_X5_44_5 rfl rfl (t_18 hB) rfl rfl (h.2 q8) (fun r11 I10 L10 hI10 => sm_callSZ (args := [.int r11]) (st := []) hx dX5_readClause_66 ls_X5_54 rfl rfl rfl hI10 (fun r13 I12 L12 hI12 => sm_ifneZ (b := r13) hx dX5_readClause_69 (tgt := 81) (by decide) (fun q7 => sm_aload_n (z := 18) hx dX5_readClause_81 rfl (sm_iconst (v := 0) hx dX5_readClause_82 sm_kc_0 (sm_iload_n (z := (sm_z b1)) hx dX5_readClause_83 rfl (sm_callVZ (args := [.int 0, .int (sm_z b1)]) (st := []) hx dX5_readClause_84 lv_X5_61_5 rfl rfl (t_18 hB) rfl rfl (hI12.1 q7) (fun r15 I14 L14 hI14 => sm_ifeqZ (b := r15) hx dX5_readClause_87 (tgt := 99) (by decide) (fun q6 => sm_iconst (v := 0) hx dX5_readClause_99 sm_kc_0 (sm_iretZ (z := false) hx dX5_readClause_100 rfl (hI14.1 q6))) (fun q6 => sm_aload_n (z := 18) hx dX5_readClause_90 rfl (sm_bipush (v := 63) hx dX5_readClause_91 sm_kb_63 (sm_callUZ (args := [.int 63]) (st := []) hx dX5_readClause_93 lu_X5_40_5 rfl rfl (t_18 hB) rfl rfl (hI14.2 q6) (fun r17 I16 L16 hI16 => sm_ifneZ (b := r17) hx dX5_readClause_96 (tgt := 101) (by decide) (fun q5 => sm_aload_n (z := 18) hx dX5_readClause_101 rfl (sm_getI hx dX5_readClause_102 fl_X5_23_5 (t_18 hB) rfl (sm_istore_n (ls' := [some (.ref 18), some (.int (sm_z b1)), some (.int (I16 18 4))]) hx dX5_readClause_105 (by decide) rfl (sm_aload_n (z := 18) hx dX5_readClause_106 rfl (sm_bipush (v := 63) hx dX5_readClause_107 sm_kb_63 (sm_iconst (v := 0) hx dX5_readClause_109 sm_kc_0 (sm_callVV (args := [.int 63, .int 0]) (st := []) hx dX5_readClause_110 lv_X5_57_5 rfl rfl (t_18 hB) rfl rfl (hI16.1 q5) (fun I18 L18 hI18 => sm_aload_n (z := 18) hx dX5_readClause_113 rfl (sm_iconst (v := 0) hx dX5_readClause_114 sm_kc_0 (sm_callVZ (args := [.int 0]) (st := []) hx dX5_readClause_115 lv_X5_51_5 rfl rfl (t_18 hB) rfl rfl hI18 (fun r20 I19 L19 hI19 => sm_ifneZ (b := r20) hx dX5_readClause_118 (tgt := 123) (by decide) (fun q4 => sm_aload_n (z := 18) hx dX5_readClause_123 rfl (sm_bipush (v := 59) hx dX5_readClause_124 sm_kb_59 (sm_iconst (v := 0) hx dX5_readClause_126 sm_kc_0 (sm_callVV (args := [.int 59, .int 0]) (st := []) hx dX5_readClause_127 lv_X5_57_5 rfl rfl (t_18 hB) rfl rfl (hI19.1 q4) (fun I21 L21 hI21 => sm_aload_n (z := 18) hx dX5_readClause_130 rfl (sm_getR hx dX5_readClause_131 fl_X5_20_5 (t_18 hB) rfl (sm_iload_n (z := (I16 18 4)) hx dX5_readClause_134 rfl (sm_aload_n (z := 18) hx dX5_readClause_135 rfl (sm_getI hx dX5_readClause_136 fl_X5_23_5 (t_18 hB) rfl (sm_callVV (args := [.int (I16 18 4), .int (I21 18 4)]) (st := []) hx dX5_readClause_139 lv_X5_65_3 rfl rfl (t_21 hB) rfl rfl hI21 (fun I22 L22 hI22 => sm_iconst (v := 1) hx dX5_readClause_142 sm_kc_1 (sm_iretZ (z := true) hx dX5_readClause_143 rfl hI22)))))))))))) (fun q4 => sm_iconst (v := 0) hx dX5_readClause_121 sm_kc_0 (sm_iretZ (z := false) hx dX5_readClause_122 rfl (hI19.2 q4)))))))))))))) (fun q5 => sm_iconst (v := 0) hx dX5_readClause_99 sm_kc_0 (sm_iretZ (z := false) hx dX5_readClause_100 rfl (hI16.2 q5)))))))))))) (fun q7 => sm_aload_n (z := 18) hx dX5_readClause_72 rfl (sm_bipush (v := 59) hx dX5_readClause_73 sm_kb_59 (sm_iconst (v := 0) hx dX5_readClause_75 sm_kc_0 (sm_callVV (args := [.int 59, .int 0]) (st := []) hx dX5_readClause_76 lv_X5_57_5 rfl rfl (t_18 hB) rfl rfl (hI12.2 q7) (fun I23 L23 hI23 => sm_iconst (v := 1) hx dX5_readClause_79 sm_kc_1 (sm_iretZ (z := true) hx dX5_readClause_80 rfl hI23)))))))))))
set_option maxRecDepth 100000 in
theorem c_X5_readClause {n : Nat} {F : Bool → sm_MI → sm_ML → Prop} {T : List sm_Sh} {I : sm_MI} {L : sm_ML}  (hB : sm_Bs T)
    (h : ∀ x : sm_Cx, sm_Ok x mX5_readClause (n + 1) (sm_KZ T F) → sm_CZ n mX2_take T I L [.ref 18, .int 121] (fun r2 I1 L1 => (r2 = false → F false I1 L1) ∧ (r2 = true → sm_CZ n mX2_take T I1 L1 [.ref 18, .int 58] (fun r4 I3 L3 => (r4 = true → sm_CI n mX2_nextSign T I3 L3 [.ref 18] (fun r6 I5 L5 => (r6 = 33 → sm_V x 0 0 T I5 L5 58 [some (.ref 18), some (.int (sm_z false)), none] []) ∧ (¬ r6 = 33 → sm_CI n mX2_nextSign T I5 L5 [.ref 18] (fun r8 I7 L7 => (r8 = 40 → sm_V x 0 0 T I7 L7 58 [some (.ref 18), some (.int (sm_z false)), none] []) ∧ (¬ r8 = 40 → sm_CZ n mX5_readSum T I7 L7 [.ref 18, .int 0] (fun r10 I9 L9 => (r10 = true → sm_V x 0 0 T I9 L9 58 [some (.ref 18), some (.int (sm_z true)), none] []) ∧ (r10 = false → F false I9 L9))))))) ∧ (r4 = false → F false I3 L3))))) :
    sm_CZ (n + 1) mX5_readClause T I L [.ref 18] F :=
  sm_CZ.of (by decide +kernel) rfl (fun x hx => show sm_V x 0 0 T I L 0 [some (.ref 18), none, none] [] from
  sm_aload_n (z := 18) hx dX5_readClause_0 rfl (sm_bipush (v := 121) hx dX5_readClause_1 sm_kb_121 (sm_callUZ (args := [.int 121]) (st := []) hx dX5_readClause_3 lu_X5_40_5 rfl rfl (t_18 hB) rfl rfl (h x hx) (fun r2 I1 L1 hI1 => sm_ifeqZ (b := r2) hx dX5_readClause_6 (tgt := 18) (by decide) (fun q16 => sm_iconst (v := 0) hx dX5_readClause_18 sm_kc_0 (sm_iretZ (z := false) hx dX5_readClause_19 rfl (hI1.1 q16))) (fun q16 => sm_aload_n (z := 18) hx dX5_readClause_9 rfl (sm_bipush (v := 58) hx dX5_readClause_10 sm_kb_58 (sm_callUZ (args := [.int 58]) (st := []) hx dX5_readClause_12 lu_X5_40_5 rfl rfl (t_18 hB) rfl rfl (hI1.2 q16) (fun r4 I3 L3 hI3 => sm_ifneZ (b := r4) hx dX5_readClause_15 (tgt := 20) (by decide) (fun q15 => sm_aload_n (z := 18) hx dX5_readClause_20 rfl (sm_callUI (args := []) (st := []) hx dX5_readClause_21 lu_X5_44_5 rfl rfl (t_18 hB) rfl rfl (hI3.1 q15) (fun r6 I5 L5 hI5 => sm_bipush (v := 33) hx dX5_readClause_24 sm_kb_33 (sm_icmpeq (a := r6) (b := 33) hx dX5_readClause_26 (tgt := 42) (by decide) (fun q14 => sm_iconst (v := 0) hx dX5_readClause_42 sm_kc_0 (sm_istore_n (ls' := [some (.ref 18), some (.int 0), none]) hx dX5_readClause_43 (by decide) rfl (sm_iload_n (z := 0) hx dX5_readClause_44 rfl (sm_ifeq (a := 0) hx dX5_readClause_45 (tgt := 58) (by decide) (fun q9 => (hI5.1 q14)) (fun q9 => absurd q9 (by decide)))))) (fun q14 => sm_aload_n (z := 18) hx dX5_readClause_29 rfl (sm_callUI (args := []) (st := []) hx dX5_readClause_30 lu_X5_44_5 rfl rfl (t_18 hB) rfl rfl (hI5.2 q14) (fun r8 I7 L7 hI7 => sm_bipush (v := 40) hx dX5_readClause_33 sm_kb_40 (sm_icmpeq (a := r8) (b := 40) hx dX5_readClause_35 (tgt := 42) (by decide) (fun q13 => sm_iconst (v := 0) hx dX5_readClause_42 sm_kc_0 (sm_istore_n (ls' := [some (.ref 18), some (.int 0), none]) hx dX5_readClause_43 (by decide) rfl (sm_iload_n (z := 0) hx dX5_readClause_44 rfl (sm_ifeq (a := 0) hx dX5_readClause_45 (tgt := 58) (by decide) (fun q10 => (hI7.1 q13)) (fun q10 => absurd q10 (by decide)))))) (fun q13 => sm_iconst (v := 1) hx dX5_readClause_38 sm_kc_1 (sm_goto hx dX5_readClause_39 (tgt := 43) (by decide) (sm_istore_n (ls' := [some (.ref 18), some (.int 1), none]) hx dX5_readClause_43 (by decide) rfl (sm_iload_n (z := 1) hx dX5_readClause_44 rfl (sm_ifeq (a := 1) hx dX5_readClause_45 (tgt := 58) (by decide) (fun q12 => absurd q12 (by decide)) (fun q12 => sm_aload_n (z := 18) hx dX5_readClause_48 rfl (sm_iconst (v := 0) hx dX5_readClause_49 sm_kc_0 (sm_callVZ (args := [.int 0]) (st := []) hx dX5_readClause_50 lv_X5_51_5 rfl rfl (t_18 hB) rfl rfl (hI7.2 q13) (fun r10 I9 L9 hI9 => sm_ifneZ (b := r10) hx dX5_readClause_53 (tgt := 58) (by decide) (fun q11 => (hI9.1 q11)) (fun q11 => sm_iconst (v := 0) hx dX5_readClause_56 sm_kc_0 (sm_iretZ (z := false) hx dX5_readClause_57 rfl (hI9.2 q11)))))))))))))))))))) (fun q15 => sm_iconst (v := 0) hx dX5_readClause_18 sm_kc_0 (sm_iretZ (z := false) hx dX5_readClause_19 rfl (hI3.2 q15)))))))))))
theorem dX5_readCondition_0 : decode cX5_readCondition 0 = .ok (.aload_n 0, 1) := by decide +kernel
theorem dX5_readCondition_1 : decode cX5_readCondition 1 = .ok (.iload_n 1, 1) := by decide +kernel
theorem dX5_readCondition_2 : decode cX5_readCondition 2 = .ok (.iload_n 2, 1) := by decide +kernel
theorem dX5_readCondition_3 : decode cX5_readCondition 3 = .ok (.invokevirtual 68, 3) := by decide +kernel
theorem dX5_readCondition_6 : decode cX5_readCondition 6 = .ok (.ifCond .ne 5, 3) := by decide +kernel
theorem dX5_readCondition_9 : decode cX5_readCondition 9 = .ok (.iconst 0, 1) := by decide +kernel
theorem dX5_readCondition_10 : decode cX5_readCondition 10 = .ok (.ireturn, 1) := by decide +kernel
theorem dX5_readCondition_11 : decode cX5_readCondition 11 = .ok (.iconst 0, 1) := by decide +kernel
theorem dX5_readCondition_12 : decode cX5_readCondition 12 = .ok (.istore_n 3, 1) := by decide +kernel
theorem dX5_readCondition_13 : decode cX5_readCondition 13 = .ok (.iload_n 3, 1) := by decide +kernel
theorem dX5_readCondition_14 : decode cX5_readCondition 14 = .ok (.sipush 160, 3) := by decide +kernel
theorem dX5_readCondition_17 : decode cX5_readCondition 17 = .ok (.if_icmp .ge 36, 3) := by decide +kernel
theorem dX5_readCondition_20 : decode cX5_readCondition 20 = .ok (.aload_n 0, 1) := by decide +kernel
theorem dX5_readCondition_21 : decode cX5_readCondition 21 = .ok (.bipush 124, 2) := by decide +kernel
theorem dX5_readCondition_23 : decode cX5_readCondition 23 = .ok (.invokevirtual 40, 3) := by decide +kernel
theorem dX5_readCondition_26 : decode cX5_readCondition 26 = .ok (.ifCond .eq 27, 3) := by decide +kernel
theorem dX5_readCondition_29 : decode cX5_readCondition 29 = .ok (.aload_n 0, 1) := by decide +kernel
theorem dX5_readCondition_30 : decode cX5_readCondition 30 = .ok (.iload_n 1, 1) := by decide +kernel
theorem dX5_readCondition_31 : decode cX5_readCondition 31 = .ok (.iconst 0, 1) := by decide +kernel
theorem dX5_readCondition_32 : decode cX5_readCondition 32 = .ok (.invokevirtual 68, 3) := by decide +kernel
theorem dX5_readCondition_35 : decode cX5_readCondition 35 = .ok (.ifCond .ne 5, 3) := by decide +kernel
theorem dX5_readCondition_38 : decode cX5_readCondition 38 = .ok (.iconst 0, 1) := by decide +kernel
theorem dX5_readCondition_39 : decode cX5_readCondition 39 = .ok (.ireturn, 1) := by decide +kernel
theorem dX5_readCondition_40 : decode cX5_readCondition 40 = .ok (.aload_n 0, 1) := by decide +kernel
theorem dX5_readCondition_41 : decode cX5_readCondition 41 = .ok (.bipush 124, 2) := by decide +kernel
theorem dX5_readCondition_43 : decode cX5_readCondition 43 = .ok (.iconst 0, 1) := by decide +kernel
theorem dX5_readCondition_44 : decode cX5_readCondition 44 = .ok (.invokevirtual 57, 3) := by decide +kernel
theorem dX5_readCondition_47 : decode cX5_readCondition 47 = .ok (.iinc 3 1, 3) := by decide +kernel
theorem dX5_readCondition_50 : decode cX5_readCondition 50 = .ok (.goto (-37), 3) := by decide +kernel
theorem dX5_readCondition_53 : decode cX5_readCondition 53 = .ok (.iconst 1, 1) := by decide +kernel
theorem dX5_readCondition_54 : decode cX5_readCondition 54 = .ok (.ireturn, 1) := by decide +kernel
set_option maxRecDepth 100000 in
theorem u_X5_readCondition_13 {x : sm_Cx} {n : Nat} {F : Bool → sm_MI → sm_ML → Prop} {T : List sm_Sh} {I : sm_MI} {L : sm_ML} {a1 : Int32} {b2 : Bool} {a3 : Int32} (hB : sm_Bs T) (hx : sm_Ok x mX5_readCondition (n + 1) (sm_KZ T F))
    (h : (160 ≤ a3 → F true I L) ∧ (¬ 160 ≤ a3 → sm_CZ n mX2_take T I L [.ref 18, .int 124] (fun r2 I1 L1 => (r2 = false → F true I1 L1) ∧ (r2 = true → sm_CZ n mX5_readTruth T I1 L1 [.ref 18, .int a1, .int (sm_z false)] (fun r4 I3 L3 => (r4 = true → sm_CV n mX5_write T I3 L3 [.ref 18, .int 124, .int 0] (fun I5 L5 => sm_V x 0 0 T I5 L5 13 [some (.ref 18), some (.int a1), some (.int (sm_z b2)), some (.int (a3 + 1))] [])) ∧ (r4 = false → F false I3 L3)))))) :
    sm_V x 0 0 T I L 13 [some (.ref 18), some (.int a1), some (.int (sm_z b2)), some (.int a3)] [] :=
  sm_iload_n (z := a3) hx dX5_readCondition_13 rfl (sm_sipush (v := 160) hx dX5_readCondition_14 sm_ks_160 (sm_icmpge (a := a3) (b := 160) hx dX5_readCondition_17 (tgt := 53) (by decide) (fun q3 => sm_iconst (v := 1) hx dX5_readCondition_53 sm_kc_1 (sm_iretZ (z := true) hx dX5_readCondition_54 rfl (h.1 q3))) (fun q3 => sm_aload_n (z := 18) hx dX5_readCondition_20 rfl (sm_bipush (v := 124) hx dX5_readCondition_21 sm_kb_124 (sm_callUZ (args := [.int 124]) (st := []) hx dX5_readCondition_23 lu_X5_40_5 rfl rfl (t_18 hB) rfl rfl (h.2 q3) (fun r2 I1 L1 hI1 => sm_ifeqZ (b := r2) hx dX5_readCondition_26 (tgt := 53) (by decide) (fun q2 => sm_iconst (v := 1) hx dX5_readCondition_53 sm_kc_1 (sm_iretZ (z := true) hx dX5_readCondition_54 rfl (hI1.1 q2))) (fun q2 => sm_aload_n (z := 18) hx dX5_readCondition_29 rfl (sm_iload_n (z := a1) hx dX5_readCondition_30 rfl (sm_iconst (v := 0) hx dX5_readCondition_31 sm_kc_0 (sm_callVZ (args := [.int a1, .int (sm_z false)]) (st := []) hx dX5_readCondition_32 lv_X5_68_5 rfl rfl (t_18 hB) rfl rfl (hI1.2 q2) (fun r4 I3 L3 hI3 => sm_ifneZ (b := r4) hx dX5_readCondition_35 (tgt := 40) (by decide) (fun q1 => sm_aload_n (z := 18) hx dX5_readCondition_40 rfl (sm_bipush (v := 124) hx dX5_readCondition_41 sm_kb_124 (sm_iconst (v := 0) hx dX5_readCondition_43 sm_kc_0 (sm_callVV (args := [.int 124, .int 0]) (st := []) hx dX5_readCondition_44 lv_X5_57_5 rfl rfl (t_18 hB) rfl rfl (hI3.1 q1) (fun I5 L5 hI5 => sm_iinc (ls' := [some (.ref 18), some (.int a1), some (.int (sm_z b2)), some (.int (a3 + 1))]) (z := a3) (v := (a3 + 1)) hx dX5_readCondition_47 rfl (sm_kii_1 _) (by decide) rfl (sm_goto hx dX5_readCondition_50 (tgt := 13) (by decide) (hI5))))))) (fun q1 => sm_iconst (v := 0) hx dX5_readCondition_38 sm_kc_0 (sm_iretZ (z := false) hx dX5_readCondition_39 rfl (hI3.2 q1))))))))))))))
set_option maxRecDepth 100000 in
theorem c_X5_readCondition {n : Nat} {F : Bool → sm_MI → sm_ML → Prop} {T : List sm_Sh} {I : sm_MI} {L : sm_ML} {a1 : Int32} {b2 : Bool} (hB : sm_Bs T)
    (h : ∀ x : sm_Cx, sm_Ok x mX5_readCondition (n + 1) (sm_KZ T F) → sm_CZ n mX5_readTruth T I L [.ref 18, .int a1, .int (sm_z b2)] (fun r2 I1 L1 => (r2 = true → sm_V x 0 0 T I1 L1 13 [some (.ref 18), some (.int a1), some (.int (sm_z b2)), some (.int 0)] []) ∧ (r2 = false → F false I1 L1))) :
    sm_CZ (n + 1) mX5_readCondition T I L [.ref 18, .int a1, .int (sm_z b2)] F :=
  sm_CZ.of (by decide +kernel) rfl (fun x hx => show sm_V x 0 0 T I L 0 [some (.ref 18), some (.int a1), some (.int (sm_z b2)), none] [] from
  sm_aload_n (z := 18) hx dX5_readCondition_0 rfl (sm_iload_n (z := a1) hx dX5_readCondition_1 rfl (sm_iload_n (z := (sm_z b2)) hx dX5_readCondition_2 rfl (sm_callVZ (args := [.int a1, .int (sm_z b2)]) (st := []) hx dX5_readCondition_3 lv_X5_68_5 rfl rfl (t_18 hB) rfl rfl (h x hx) (fun r2 I1 L1 hI1 => sm_ifneZ (b := r2) hx dX5_readCondition_6 (tgt := 11) (by decide) (fun q4 => sm_iconst (v := 0) hx dX5_readCondition_11 sm_kc_0 (sm_istore_n (ls' := [some (.ref 18), some (.int a1), some (.int (sm_z b2)), some (.int 0)]) hx dX5_readCondition_12 (by decide) rfl ((hI1.1 q4)))) (fun q4 => sm_iconst (v := 0) hx dX5_readCondition_9 sm_kc_0 (sm_iretZ (z := false) hx dX5_readCondition_10 rfl (hI1.2 q4))))))))
theorem dX5_readTruth_0 : decode cX5_readTruth 0 = .ok (.aload_n 0, 1) := by decide +kernel
theorem dX5_readTruth_1 : decode cX5_readTruth 1 = .ok (.iload_n 1, 1) := by decide +kernel
theorem dX5_readTruth_2 : decode cX5_readTruth 2 = .ok (.iload_n 2, 1) := by decide +kernel
theorem dX5_readTruth_3 : decode cX5_readTruth 3 = .ok (.invokevirtual 71, 3) := by decide +kernel
theorem dX5_readTruth_6 : decode cX5_readTruth 6 = .ok (.ifCond .ne 5, 3) := by decide +kernel
theorem dX5_readTruth_9 : decode cX5_readTruth 9 = .ok (.iconst 0, 1) := by decide +kernel
theorem dX5_readTruth_10 : decode cX5_readTruth 10 = .ok (.ireturn, 1) := by decide +kernel
theorem dX5_readTruth_11 : decode cX5_readTruth 11 = .ok (.iconst 0, 1) := by decide +kernel
theorem dX5_readTruth_12 : decode cX5_readTruth 12 = .ok (.istore_n 3, 1) := by decide +kernel
theorem dX5_readTruth_13 : decode cX5_readTruth 13 = .ok (.iload_n 3, 1) := by decide +kernel
theorem dX5_readTruth_14 : decode cX5_readTruth 14 = .ok (.sipush 160, 3) := by decide +kernel
theorem dX5_readTruth_17 : decode cX5_readTruth 17 = .ok (.if_icmp .ge 36, 3) := by decide +kernel
theorem dX5_readTruth_20 : decode cX5_readTruth 20 = .ok (.aload_n 0, 1) := by decide +kernel
theorem dX5_readTruth_21 : decode cX5_readTruth 21 = .ok (.bipush 38, 2) := by decide +kernel
theorem dX5_readTruth_23 : decode cX5_readTruth 23 = .ok (.invokevirtual 40, 3) := by decide +kernel
theorem dX5_readTruth_26 : decode cX5_readTruth 26 = .ok (.ifCond .eq 27, 3) := by decide +kernel
theorem dX5_readTruth_29 : decode cX5_readTruth 29 = .ok (.aload_n 0, 1) := by decide +kernel
theorem dX5_readTruth_30 : decode cX5_readTruth 30 = .ok (.iload_n 1, 1) := by decide +kernel
theorem dX5_readTruth_31 : decode cX5_readTruth 31 = .ok (.iconst 0, 1) := by decide +kernel
theorem dX5_readTruth_32 : decode cX5_readTruth 32 = .ok (.invokevirtual 71, 3) := by decide +kernel
theorem dX5_readTruth_35 : decode cX5_readTruth 35 = .ok (.ifCond .ne 5, 3) := by decide +kernel
theorem dX5_readTruth_38 : decode cX5_readTruth 38 = .ok (.iconst 0, 1) := by decide +kernel
theorem dX5_readTruth_39 : decode cX5_readTruth 39 = .ok (.ireturn, 1) := by decide +kernel
theorem dX5_readTruth_40 : decode cX5_readTruth 40 = .ok (.aload_n 0, 1) := by decide +kernel
theorem dX5_readTruth_41 : decode cX5_readTruth 41 = .ok (.bipush 38, 2) := by decide +kernel
theorem dX5_readTruth_43 : decode cX5_readTruth 43 = .ok (.iconst 0, 1) := by decide +kernel
theorem dX5_readTruth_44 : decode cX5_readTruth 44 = .ok (.invokevirtual 57, 3) := by decide +kernel
theorem dX5_readTruth_47 : decode cX5_readTruth 47 = .ok (.iinc 3 1, 3) := by decide +kernel
theorem dX5_readTruth_50 : decode cX5_readTruth 50 = .ok (.goto (-37), 3) := by decide +kernel
theorem dX5_readTruth_53 : decode cX5_readTruth 53 = .ok (.iconst 1, 1) := by decide +kernel
theorem dX5_readTruth_54 : decode cX5_readTruth 54 = .ok (.ireturn, 1) := by decide +kernel
set_option maxRecDepth 100000 in
theorem u_X5_readTruth_13 {x : sm_Cx} {n : Nat} {F : Bool → sm_MI → sm_ML → Prop} {T : List sm_Sh} {I : sm_MI} {L : sm_ML} {a1 : Int32} {b2 : Bool} {a3 : Int32} (hB : sm_Bs T) (hx : sm_Ok x mX5_readTruth (n + 1) (sm_KZ T F))
    (h : (160 ≤ a3 → F true I L) ∧ (¬ 160 ≤ a3 → sm_CZ n mX2_take T I L [.ref 18, .int 38] (fun r2 I1 L1 => (r2 = false → F true I1 L1) ∧ (r2 = true → sm_CZ n mX5_readUnit T I1 L1 [.ref 18, .int a1, .int (sm_z false)] (fun r4 I3 L3 => (r4 = true → sm_CV n mX5_write T I3 L3 [.ref 18, .int 38, .int 0] (fun I5 L5 => sm_V x 0 0 T I5 L5 13 [some (.ref 18), some (.int a1), some (.int (sm_z b2)), some (.int (a3 + 1))] [])) ∧ (r4 = false → F false I3 L3)))))) :
    sm_V x 0 0 T I L 13 [some (.ref 18), some (.int a1), some (.int (sm_z b2)), some (.int a3)] [] :=
  sm_iload_n (z := a3) hx dX5_readTruth_13 rfl (sm_sipush (v := 160) hx dX5_readTruth_14 sm_ks_160 (sm_icmpge (a := a3) (b := 160) hx dX5_readTruth_17 (tgt := 53) (by decide) (fun q3 => sm_iconst (v := 1) hx dX5_readTruth_53 sm_kc_1 (sm_iretZ (z := true) hx dX5_readTruth_54 rfl (h.1 q3))) (fun q3 => sm_aload_n (z := 18) hx dX5_readTruth_20 rfl (sm_bipush (v := 38) hx dX5_readTruth_21 sm_kb_38 (sm_callUZ (args := [.int 38]) (st := []) hx dX5_readTruth_23 lu_X5_40_5 rfl rfl (t_18 hB) rfl rfl (h.2 q3) (fun r2 I1 L1 hI1 => sm_ifeqZ (b := r2) hx dX5_readTruth_26 (tgt := 53) (by decide) (fun q2 => sm_iconst (v := 1) hx dX5_readTruth_53 sm_kc_1 (sm_iretZ (z := true) hx dX5_readTruth_54 rfl (hI1.1 q2))) (fun q2 => sm_aload_n (z := 18) hx dX5_readTruth_29 rfl (sm_iload_n (z := a1) hx dX5_readTruth_30 rfl (sm_iconst (v := 0) hx dX5_readTruth_31 sm_kc_0 (sm_callVZ (args := [.int a1, .int (sm_z false)]) (st := []) hx dX5_readTruth_32 lv_X5_71_5 rfl rfl (t_18 hB) rfl rfl (hI1.2 q2) (fun r4 I3 L3 hI3 => sm_ifneZ (b := r4) hx dX5_readTruth_35 (tgt := 40) (by decide) (fun q1 => sm_aload_n (z := 18) hx dX5_readTruth_40 rfl (sm_bipush (v := 38) hx dX5_readTruth_41 sm_kb_38 (sm_iconst (v := 0) hx dX5_readTruth_43 sm_kc_0 (sm_callVV (args := [.int 38, .int 0]) (st := []) hx dX5_readTruth_44 lv_X5_57_5 rfl rfl (t_18 hB) rfl rfl (hI3.1 q1) (fun I5 L5 hI5 => sm_iinc (ls' := [some (.ref 18), some (.int a1), some (.int (sm_z b2)), some (.int (a3 + 1))]) (z := a3) (v := (a3 + 1)) hx dX5_readTruth_47 rfl (sm_kii_1 _) (by decide) rfl (sm_goto hx dX5_readTruth_50 (tgt := 13) (by decide) (hI5))))))) (fun q1 => sm_iconst (v := 0) hx dX5_readTruth_38 sm_kc_0 (sm_iretZ (z := false) hx dX5_readTruth_39 rfl (hI3.2 q1))))))))))))))
set_option maxRecDepth 100000 in
theorem c_X5_readTruth {n : Nat} {F : Bool → sm_MI → sm_ML → Prop} {T : List sm_Sh} {I : sm_MI} {L : sm_ML} {a1 : Int32} {b2 : Bool} (hB : sm_Bs T)
    (h : ∀ x : sm_Cx, sm_Ok x mX5_readTruth (n + 1) (sm_KZ T F) → sm_CZ n mX5_readUnit T I L [.ref 18, .int a1, .int (sm_z b2)] (fun r2 I1 L1 => (r2 = true → sm_V x 0 0 T I1 L1 13 [some (.ref 18), some (.int a1), some (.int (sm_z b2)), some (.int 0)] []) ∧ (r2 = false → F false I1 L1))) :
    sm_CZ (n + 1) mX5_readTruth T I L [.ref 18, .int a1, .int (sm_z b2)] F :=
  sm_CZ.of (by decide +kernel) rfl (fun x hx => show sm_V x 0 0 T I L 0 [some (.ref 18), some (.int a1), some (.int (sm_z b2)), none] [] from
  sm_aload_n (z := 18) hx dX5_readTruth_0 rfl (sm_iload_n (z := a1) hx dX5_readTruth_1 rfl (sm_iload_n (z := (sm_z b2)) hx dX5_readTruth_2 rfl (sm_callVZ (args := [.int a1, .int (sm_z b2)]) (st := []) hx dX5_readTruth_3 lv_X5_71_5 rfl rfl (t_18 hB) rfl rfl (h x hx) (fun r2 I1 L1 hI1 => sm_ifneZ (b := r2) hx dX5_readTruth_6 (tgt := 11) (by decide) (fun q4 => sm_iconst (v := 0) hx dX5_readTruth_11 sm_kc_0 (sm_istore_n (ls' := [some (.ref 18), some (.int a1), some (.int (sm_z b2)), some (.int 0)]) hx dX5_readTruth_12 (by decide) rfl ((hI1.1 q4)))) (fun q4 => sm_iconst (v := 0) hx dX5_readTruth_9 sm_kc_0 (sm_iretZ (z := false) hx dX5_readTruth_10 rfl (hI1.2 q4))))))))
theorem dX5_readUnit_0 : decode cX5_readUnit 0 = .ok (.iload_n 2, 1) := by decide +kernel
theorem dX5_readUnit_1 : decode cX5_readUnit 1 = .ok (.ifCond .eq 7, 3) := by decide +kernel
theorem dX5_readUnit_4 : decode cX5_readUnit 4 = .ok (.iconst (-1), 1) := by decide +kernel
theorem dX5_readUnit_5 : decode cX5_readUnit 5 = .ok (.goto 7, 3) := by decide +kernel
theorem dX5_readUnit_8 : decode cX5_readUnit 8 = .ok (.aload_n 0, 1) := by decide +kernel
theorem dX5_readUnit_9 : decode cX5_readUnit 9 = .ok (.invokevirtual 44, 3) := by decide +kernel
theorem dX5_readUnit_12 : decode cX5_readUnit 12 = .ok (.istore_n 3, 1) := by decide +kernel
theorem dX5_readUnit_13 : decode cX5_readUnit 13 = .ok (.iload_n 3, 1) := by decide +kernel
theorem dX5_readUnit_14 : decode cX5_readUnit 14 = .ok (.bipush 33, 2) := by decide +kernel
theorem dX5_readUnit_16 : decode cX5_readUnit 16 = .ok (.if_icmp .eq 9, 3) := by decide +kernel
theorem dX5_readUnit_19 : decode cX5_readUnit 19 = .ok (.iload_n 3, 1) := by decide +kernel
theorem dX5_readUnit_20 : decode cX5_readUnit 20 = .ok (.bipush 40, 2) := by decide +kernel
theorem dX5_readUnit_22 : decode cX5_readUnit 22 = .ok (.if_icmp .ne 57, 3) := by decide +kernel
theorem dX5_readUnit_25 : decode cX5_readUnit 25 = .ok (.iload_n 1, 1) := by decide +kernel
theorem dX5_readUnit_26 : decode cX5_readUnit 26 = .ok (.bipush 6, 2) := by decide +kernel
theorem dX5_readUnit_28 : decode cX5_readUnit 28 = .ok (.if_icmp .lt 5, 3) := by decide +kernel
theorem dX5_readUnit_31 : decode cX5_readUnit 31 = .ok (.iconst 0, 1) := by decide +kernel
theorem dX5_readUnit_32 : decode cX5_readUnit 32 = .ok (.ireturn, 1) := by decide +kernel
theorem dX5_readUnit_33 : decode cX5_readUnit 33 = .ok (.aload_n 0, 1) := by decide +kernel
theorem dX5_readUnit_34 : decode cX5_readUnit 34 = .ok (.invokevirtual 74, 3) := by decide +kernel
theorem dX5_readUnit_37 : decode cX5_readUnit 37 = .ok (.iload_n 3, 1) := by decide +kernel
theorem dX5_readUnit_38 : decode cX5_readUnit 38 = .ok (.bipush 33, 2) := by decide +kernel
theorem dX5_readUnit_40 : decode cX5_readUnit 40 = .ok (.if_icmp .ne 13, 3) := by decide +kernel
theorem dX5_readUnit_43 : decode cX5_readUnit 43 = .ok (.aload_n 0, 1) := by decide +kernel
theorem dX5_readUnit_44 : decode cX5_readUnit 44 = .ok (.iload_n 1, 1) := by decide +kernel
theorem dX5_readUnit_45 : decode cX5_readUnit 45 = .ok (.iconst 1, 1) := by decide +kernel
theorem dX5_readUnit_46 : decode cX5_readUnit 46 = .ok (.iadd, 1) := by decide +kernel
theorem dX5_readUnit_47 : decode cX5_readUnit 47 = .ok (.invokevirtual 77, 3) := by decide +kernel
theorem dX5_readUnit_50 : decode cX5_readUnit 50 = .ok (.goto 28, 3) := by decide +kernel
theorem dX5_readUnit_53 : decode cX5_readUnit 53 = .ok (.aload_n 0, 1) := by decide +kernel
theorem dX5_readUnit_54 : decode cX5_readUnit 54 = .ok (.iload_n 1, 1) := by decide +kernel
theorem dX5_readUnit_55 : decode cX5_readUnit 55 = .ok (.iconst 1, 1) := by decide +kernel
theorem dX5_readUnit_56 : decode cX5_readUnit 56 = .ok (.iadd, 1) := by decide +kernel
theorem dX5_readUnit_57 : decode cX5_readUnit 57 = .ok (.iconst 0, 1) := by decide +kernel
theorem dX5_readUnit_58 : decode cX5_readUnit 58 = .ok (.invokevirtual 61, 3) := by decide +kernel
theorem dX5_readUnit_61 : decode cX5_readUnit 61 = .ok (.ifCond .eq 16, 3) := by decide +kernel
theorem dX5_readUnit_64 : decode cX5_readUnit 64 = .ok (.aload_n 0, 1) := by decide +kernel
theorem dX5_readUnit_65 : decode cX5_readUnit 65 = .ok (.bipush 41, 2) := by decide +kernel
theorem dX5_readUnit_67 : decode cX5_readUnit 67 = .ok (.invokevirtual 40, 3) := by decide +kernel
theorem dX5_readUnit_70 : decode cX5_readUnit 70 = .ok (.ifCond .eq 7, 3) := by decide +kernel
theorem dX5_readUnit_73 : decode cX5_readUnit 73 = .ok (.iconst 1, 1) := by decide +kernel
theorem dX5_readUnit_74 : decode cX5_readUnit 74 = .ok (.goto 4, 3) := by decide +kernel
theorem dX5_readUnit_77 : decode cX5_readUnit 77 = .ok (.iconst 0, 1) := by decide +kernel
theorem dX5_readUnit_78 : decode cX5_readUnit 78 = .ok (.ireturn, 1) := by decide +kernel
theorem dX5_readUnit_79 : decode cX5_readUnit 79 = .ok (.iload_n 2, 1) := by decide +kernel
theorem dX5_readUnit_80 : decode cX5_readUnit 80 = .ok (.ifCond .ne 13, 3) := by decide +kernel
theorem dX5_readUnit_83 : decode cX5_readUnit 83 = .ok (.aload_n 0, 1) := by decide +kernel
theorem dX5_readUnit_84 : decode cX5_readUnit 84 = .ok (.iload_n 1, 1) := by decide +kernel
theorem dX5_readUnit_85 : decode cX5_readUnit 85 = .ok (.invokevirtual 51, 3) := by decide +kernel
theorem dX5_readUnit_88 : decode cX5_readUnit 88 = .ok (.ifCond .ne 5, 3) := by decide +kernel
theorem dX5_readUnit_91 : decode cX5_readUnit 91 = .ok (.iconst 0, 1) := by decide +kernel
theorem dX5_readUnit_92 : decode cX5_readUnit 92 = .ok (.ireturn, 1) := by decide +kernel
theorem dX5_readUnit_93 : decode cX5_readUnit 93 = .ok (.aload_n 0, 1) := by decide +kernel
theorem dX5_readUnit_94 : decode cX5_readUnit 94 = .ok (.invokevirtual 44, 3) := by decide +kernel
theorem dX5_readUnit_97 : decode cX5_readUnit 97 = .ok (.istore 4, 2) := by decide +kernel
theorem dX5_readUnit_99 : decode cX5_readUnit 99 = .ok (.iload 4, 2) := by decide +kernel
theorem dX5_readUnit_101 : decode cX5_readUnit 101 = .ok (.invokestatic 54, 3) := by decide +kernel
theorem dX5_readUnit_104 : decode cX5_readUnit 104 = .ok (.ifCond .ne 5, 3) := by decide +kernel
theorem dX5_readUnit_107 : decode cX5_readUnit 107 = .ok (.iconst 0, 1) := by decide +kernel
theorem dX5_readUnit_108 : decode cX5_readUnit 108 = .ok (.ireturn, 1) := by decide +kernel
theorem dX5_readUnit_109 : decode cX5_readUnit 109 = .ok (.aload_n 0, 1) := by decide +kernel
theorem dX5_readUnit_110 : decode cX5_readUnit 110 = .ok (.invokevirtual 74, 3) := by decide +kernel
theorem dX5_readUnit_113 : decode cX5_readUnit 113 = .ok (.aload_n 0, 1) := by decide +kernel
theorem dX5_readUnit_114 : decode cX5_readUnit 114 = .ok (.iload_n 1, 1) := by decide +kernel
theorem dX5_readUnit_115 : decode cX5_readUnit 115 = .ok (.invokevirtual 51, 3) := by decide +kernel
theorem dX5_readUnit_118 : decode cX5_readUnit 118 = .ok (.ifCond .ne 5, 3) := by decide +kernel
theorem dX5_readUnit_121 : decode cX5_readUnit 121 = .ok (.iconst 0, 1) := by decide +kernel
theorem dX5_readUnit_122 : decode cX5_readUnit 122 = .ok (.ireturn, 1) := by decide +kernel
theorem dX5_readUnit_123 : decode cX5_readUnit 123 = .ok (.aload_n 0, 1) := by decide +kernel
theorem dX5_readUnit_124 : decode cX5_readUnit 124 = .ok (.iload 4, 2) := by decide +kernel
theorem dX5_readUnit_126 : decode cX5_readUnit 126 = .ok (.iconst 0, 1) := by decide +kernel
theorem dX5_readUnit_127 : decode cX5_readUnit 127 = .ok (.invokevirtual 57, 3) := by decide +kernel
theorem dX5_readUnit_130 : decode cX5_readUnit 130 = .ok (.iconst 1, 1) := by decide +kernel
theorem dX5_readUnit_131 : decode cX5_readUnit 131 = .ok (.ireturn, 1) := by decide +kernel
set_option maxRecDepth 100000 in
theorem u_X5_readUnit_12 {x : sm_Cx} {n : Nat} {F : Bool → sm_MI → sm_ML → Prop} {T : List sm_Sh} {I : sm_MI} {L : sm_ML} {a1 : Int32} {b2 : Bool} {as0 : Int32} (hB : sm_Bs T) (hx : sm_Ok x mX5_readUnit (n + 1) (sm_KZ T F))
    (h : (as0 = 33 → sm_V x 0 0 T I L 25 [some (.ref 18), some (.int a1), some (.int (sm_z b2)), some (.int as0), none] []) ∧ (¬ as0 = 33 → (¬ as0 = 40 → (b2 = true → sm_CI n mX2_nextSign T I L [.ref 18] (fun r2 I1 L1 => sm_CZ n mX5_isRelation T I1 L1 [.int r2] (fun r4 I3 L3 => (r4 = true → sm_CV n mX2_goOn T I3 L3 [.ref 18] (fun I5 L5 => sm_CZ n mX5_readSum T I5 L5 [.ref 18, .int a1] (fun r7 I6 L6 => (r7 = true → sm_CV n mX5_write T I6 L6 [.ref 18, .int r2, .int 0] (fun I8 L8 => F true I8 L8)) ∧ (r7 = false → F false I6 L6)))) ∧ (r4 = false → F false I3 L3)))) ∧ (b2 = false → sm_CZ n mX5_readSum T I L [.ref 18, .int a1] (fun r10 I9 L9 => (r10 = true → sm_CI n mX2_nextSign T I9 L9 [.ref 18] (fun r12 I11 L11 => sm_CZ n mX5_isRelation T I11 L11 [.int r12] (fun r14 I13 L13 => (r14 = true → sm_CV n mX2_goOn T I13 L13 [.ref 18] (fun I15 L15 => sm_CZ n mX5_readSum T I15 L15 [.ref 18, .int a1] (fun r17 I16 L16 => (r17 = true → sm_CV n mX5_write T I16 L16 [.ref 18, .int r12, .int 0] (fun I18 L18 => F true I18 L18)) ∧ (r17 = false → F false I16 L16)))) ∧ (r14 = false → F false I13 L13)))) ∧ (r10 = false → F false I9 L9)))) ∧ (as0 = 40 → sm_V x 0 0 T I L 25 [some (.ref 18), some (.int a1), some (.int (sm_z b2)), some (.int as0), none] []))) :
    sm_V x 0 0 T I L 12 [some (.ref 18), some (.int a1), some (.int (sm_z b2)), none, none] [.int as0] :=
  sm_istore_n (ls' := [some (.ref 18), some (.int a1), some (.int (sm_z b2)), some (.int as0), none]) hx dX5_readUnit_12 (by decide) rfl (sm_iload_n (z := as0) hx dX5_readUnit_13 rfl (sm_bipush (v := 33) hx dX5_readUnit_14 sm_kb_33 (sm_icmpeq (a := as0) (b := 33) hx dX5_readUnit_16 (tgt := 25) (by decide) (fun q8 => (h.1 q8)) (fun q8 => sm_iload_n (z := as0) hx dX5_readUnit_19 rfl (sm_bipush (v := 40) hx dX5_readUnit_20 sm_kb_40 (sm_icmpne (a := as0) (b := 40) hx dX5_readUnit_22 (tgt := 79) (by decide) (fun q7 => sm_iload_n (z := (sm_z b2)) hx dX5_readUnit_79 rfl (sm_ifneZ (b := b2) hx dX5_readUnit_80 (tgt := 93) (by decide) (fun q6 => sm_aload_n (z := 18) hx dX5_readUnit_93 rfl (sm_callUI (args := []) (st := []) hx dX5_readUnit_94 lu_X5_44_5 rfl rfl (t_18 hB) rfl rfl (((h.2 q8).1 q7).1 q6) (fun r2 I1 L1 hI1 => sm_istore (ls' := [some (.ref 18), some (.int a1), some (.int (sm_z b2)), some (.int as0), some (.int r2)]) hx dX5_readUnit_97 (by decide) rfl (sm_iload (z := r2) hx dX5_readUnit_99 rfl (sm_callSZ (args := [.int r2]) (st := []) hx dX5_readUnit_101 ls_X5_54 rfl rfl rfl hI1 (fun r4 I3 L3 hI3 => sm_ifneZ (b := r4) hx dX5_readUnit_104 (tgt := 109) (by decide) (fun q2 => sm_aload_n (z := 18) hx dX5_readUnit_109 rfl (sm_callUV (args := []) (st := []) hx dX5_readUnit_110 lu_X5_74_5 rfl rfl (t_18 hB) rfl rfl (hI3.1 q2) (fun I5 L5 hI5 => sm_aload_n (z := 18) hx dX5_readUnit_113 rfl (sm_iload_n (z := a1) hx dX5_readUnit_114 rfl (sm_callVZ (args := [.int a1]) (st := []) hx dX5_readUnit_115 lv_X5_51_5 rfl rfl (t_18 hB) rfl rfl hI5 (fun r7 I6 L6 hI6 => sm_ifneZ (b := r7) hx dX5_readUnit_118 (tgt := 123) (by decide) (fun q1 => sm_aload_n (z := 18) hx dX5_readUnit_123 rfl (sm_iload (z := r2) hx dX5_readUnit_124 rfl (sm_iconst (v := 0) hx dX5_readUnit_126 sm_kc_0 (sm_callVV (args := [.int r2, .int 0]) (st := []) hx dX5_readUnit_127 lv_X5_57_5 rfl rfl (t_18 hB) rfl rfl (hI6.1 q1) (fun I8 L8 hI8 => sm_iconst (v := 1) hx dX5_readUnit_130 sm_kc_1 (sm_iretZ (z := true) hx dX5_readUnit_131 rfl hI8)))))) (fun q1 => sm_iconst (v := 0) hx dX5_readUnit_121 sm_kc_0 (sm_iretZ (z := false) hx dX5_readUnit_122 rfl (hI6.2 q1))))))))) (fun q2 => sm_iconst (v := 0) hx dX5_readUnit_107 sm_kc_0 (sm_iretZ (z := false) hx dX5_readUnit_108 rfl (hI3.2 q2))))))))) (fun q6 => sm_aload_n (z := 18) hx dX5_readUnit_83 rfl (sm_iload_n (z := a1) hx dX5_readUnit_84 rfl (sm_callVZ (args := [.int a1]) (st := []) hx dX5_readUnit_85 lv_X5_51_5 rfl rfl (t_18 hB) rfl rfl (((h.2 q8).1 q7).2 q6) (fun r10 I9 L9 hI9 => sm_ifneZ (b := r10) hx dX5_readUnit_88 (tgt := 93) (by decide) (fun q5 => sm_aload_n (z := 18) hx dX5_readUnit_93 rfl (sm_callUI (args := []) (st := []) hx dX5_readUnit_94 lu_X5_44_5 rfl rfl (t_18 hB) rfl rfl (hI9.1 q5) (fun r12 I11 L11 hI11 => sm_istore (ls' := [some (.ref 18), some (.int a1), some (.int (sm_z b2)), some (.int as0), some (.int r12)]) hx dX5_readUnit_97 (by decide) rfl (sm_iload (z := r12) hx dX5_readUnit_99 rfl (sm_callSZ (args := [.int r12]) (st := []) hx dX5_readUnit_101 ls_X5_54 rfl rfl rfl hI11 (fun r14 I13 L13 hI13 => sm_ifneZ (b := r14) hx dX5_readUnit_104 (tgt := 109) (by decide) (fun q4 => sm_aload_n (z := 18) hx dX5_readUnit_109 rfl (sm_callUV (args := []) (st := []) hx dX5_readUnit_110 lu_X5_74_5 rfl rfl (t_18 hB) rfl rfl (hI13.1 q4) (fun I15 L15 hI15 => sm_aload_n (z := 18) hx dX5_readUnit_113 rfl (sm_iload_n (z := a1) hx dX5_readUnit_114 rfl (sm_callVZ (args := [.int a1]) (st := []) hx dX5_readUnit_115 lv_X5_51_5 rfl rfl (t_18 hB) rfl rfl hI15 (fun r17 I16 L16 hI16 => sm_ifneZ (b := r17) hx dX5_readUnit_118 (tgt := 123) (by decide) (fun q3 => sm_aload_n (z := 18) hx dX5_readUnit_123 rfl (sm_iload (z := r12) hx dX5_readUnit_124 rfl (sm_iconst (v := 0) hx dX5_readUnit_126 sm_kc_0 (sm_callVV (args := [.int r12, .int 0]) (st := []) hx dX5_readUnit_127 lv_X5_57_5 rfl rfl (t_18 hB) rfl rfl (hI16.1 q3) (fun I18 L18 hI18 => sm_iconst (v := 1) hx dX5_readUnit_130 sm_kc_1 (sm_iretZ (z := true) hx dX5_readUnit_131 rfl hI18)))))) (fun q3 => sm_iconst (v := 0) hx dX5_readUnit_121 sm_kc_0 (sm_iretZ (z := false) hx dX5_readUnit_122 rfl (hI16.2 q3))))))))) (fun q4 => sm_iconst (v := 0) hx dX5_readUnit_107 sm_kc_0 (sm_iretZ (z := false) hx dX5_readUnit_108 rfl (hI13.2 q4))))))))) (fun q5 => sm_iconst (v := 0) hx dX5_readUnit_91 sm_kc_0 (sm_iretZ (z := false) hx dX5_readUnit_92 rfl (hI9.2 q5))))))))) (fun q7 => ((h.2 q8).2 q7))))))))
set_option maxRecDepth 100000 in
theorem u_X5_readUnit_25 {x : sm_Cx} {n : Nat} {F : Bool → sm_MI → sm_ML → Prop} {T : List sm_Sh} {I : sm_MI} {L : sm_ML} {a1 : Int32} {b2 : Bool} {a3 : Int32} (hB : sm_Bs T) (hx : sm_Ok x mX5_readUnit (n + 1) (sm_KZ T F))
    (h : (a1 < 6 → sm_CV n mX2_goOn T I L [.ref 18] (fun I1 L1 => (¬ a3 = 33 → sm_CZ n mX5_readCondition T I1 L1 [.ref 18, .int (a1 + 1), .int (sm_z false)] (fun r3 I2 L2 => (r3 = false → F false I2 L2) ∧ (r3 = true → sm_CZ n mX2_take T I2 L2 [.ref 18, .int 41] (fun r5 I4 L4 => (r5 = false → F false I4 L4) ∧ (r5 = true → F true I4 L4))))) ∧ (a3 = 33 → sm_CZ n mX5_readDenied T I1 L1 [.ref 18, .int (a1 + 1)] (fun r7 I6 L6 => F r7 I6 L6)))) ∧ (¬ a1 < 6 → F false I L)) :
    sm_V x 0 0 T I L 25 [some (.ref 18), some (.int a1), some (.int (sm_z b2)), some (.int a3), none] [] :=
  sm_iload_n (z := a1) hx dX5_readUnit_25 rfl (sm_bipush (v := 6) hx dX5_readUnit_26 sm_kb_6 (sm_icmplt (a := a1) (b := 6) hx dX5_readUnit_28 (tgt := 33) (by decide) (fun q12 => sm_aload_n (z := 18) hx dX5_readUnit_33 rfl (sm_callUV (args := []) (st := []) hx dX5_readUnit_34 lu_X5_74_5 rfl rfl (t_18 hB) rfl rfl (h.1 q12) (fun I1 L1 hI1 => sm_iload_n (z := a3) hx dX5_readUnit_37 rfl (sm_bipush (v := 33) hx dX5_readUnit_38 sm_kb_33 (sm_icmpne (a := a3) (b := 33) hx dX5_readUnit_40 (tgt := 53) (by decide) (fun q11 => sm_aload_n (z := 18) hx dX5_readUnit_53 rfl (sm_iload_n (z := a1) hx dX5_readUnit_54 rfl (sm_iconst (v := 1) hx dX5_readUnit_55 sm_kc_1 (sm_iadd (a := a1) (b := 1) hx dX5_readUnit_56 (sm_iconst (v := 0) hx dX5_readUnit_57 sm_kc_0 (sm_callVZ (args := [.int (a1 + 1), .int (sm_z false)]) (st := []) hx dX5_readUnit_58 lv_X5_61_5 rfl rfl (t_18 hB) rfl rfl (hI1.1 q11) (fun r3 I2 L2 hI2 => sm_ifeqZ (b := r3) hx dX5_readUnit_61 (tgt := 77) (by decide) (fun q10 => sm_iconst (v := 0) hx dX5_readUnit_77 sm_kc_0 (sm_iretZ (z := false) hx dX5_readUnit_78 rfl (hI2.1 q10))) (fun q10 => sm_aload_n (z := 18) hx dX5_readUnit_64 rfl (sm_bipush (v := 41) hx dX5_readUnit_65 sm_kb_41 (sm_callUZ (args := [.int 41]) (st := []) hx dX5_readUnit_67 lu_X5_40_5 rfl rfl (t_18 hB) rfl rfl (hI2.2 q10) (fun r5 I4 L4 hI4 => sm_ifeqZ (b := r5) hx dX5_readUnit_70 (tgt := 77) (by decide) (fun q9 => sm_iconst (v := 0) hx dX5_readUnit_77 sm_kc_0 (sm_iretZ (z := false) hx dX5_readUnit_78 rfl (hI4.1 q9))) (fun q9 => sm_iconst (v := 1) hx dX5_readUnit_73 sm_kc_1 (sm_goto hx dX5_readUnit_74 (tgt := 78) (by decide) (sm_iretZ (z := true) hx dX5_readUnit_78 rfl (hI4.2 q9))))))))))))))) (fun q11 => sm_aload_n (z := 18) hx dX5_readUnit_43 rfl (sm_iload_n (z := a1) hx dX5_readUnit_44 rfl (sm_iconst (v := 1) hx dX5_readUnit_45 sm_kc_1 (sm_iadd (a := a1) (b := 1) hx dX5_readUnit_46 (sm_callVZ (args := [.int (a1 + 1)]) (st := []) hx dX5_readUnit_47 lv_X5_77_5 rfl rfl (t_18 hB) rfl rfl (hI1.2 q11) (fun r7 I6 L6 hI6 => sm_goto hx dX5_readUnit_50 (tgt := 78) (by decide) (sm_iretZ (z := r7) hx dX5_readUnit_78 rfl hI6)))))))))))) (fun q12 => sm_iconst (v := 0) hx dX5_readUnit_31 sm_kc_0 (sm_iretZ (z := false) hx dX5_readUnit_32 rfl (h.2 q12)))))
set_option maxRecDepth 100000 in
theorem c_X5_readUnit {n : Nat} {F : Bool → sm_MI → sm_ML → Prop} {T : List sm_Sh} {I : sm_MI} {L : sm_ML} {a1 : Int32} {b2 : Bool} (hB : sm_Bs T)
    (h : ∀ x : sm_Cx, sm_Ok x mX5_readUnit (n + 1) (sm_KZ T F) → (b2 = false → sm_CI n mX2_nextSign T I L [.ref 18] (fun r2 I1 L1 => sm_V x 0 0 T I1 L1 12 [some (.ref 18), some (.int a1), some (.int (sm_z b2)), none, none] [.int r2])) ∧ (b2 = true → sm_V x 0 0 T I L 12 [some (.ref 18), some (.int a1), some (.int (sm_z b2)), none, none] [.int (-1)])) :
    sm_CZ (n + 1) mX5_readUnit T I L [.ref 18, .int a1, .int (sm_z b2)] F :=
  sm_CZ.of (by decide +kernel) rfl (fun x hx => show sm_V x 0 0 T I L 0 [some (.ref 18), some (.int a1), some (.int (sm_z b2)), none, none] [] from
  sm_iload_n (z := (sm_z b2)) hx dX5_readUnit_0 rfl (sm_ifeqZ (b := b2) hx dX5_readUnit_1 (tgt := 8) (by decide) (fun q13 => sm_aload_n (z := 18) hx dX5_readUnit_8 rfl (sm_callUI (args := []) (st := []) hx dX5_readUnit_9 lu_X5_44_5 rfl rfl (t_18 hB) rfl rfl ((h x hx).1 q13) (fun r2 I1 L1 hI1 => hI1))) (fun q13 => sm_iconst (v := (-1)) hx dX5_readUnit_4 sm_kc_m1 (sm_goto hx dX5_readUnit_5 (tgt := 12) (by decide) (((h x hx).2 q13))))))
theorem dX5_readDenied_0 : decode cX5_readDenied 0 = .ok (.aload_n 0, 1) := by decide +kernel
theorem dX5_readDenied_1 : decode cX5_readDenied 1 = .ok (.iload_n 1, 1) := by decide +kernel
theorem dX5_readDenied_2 : decode cX5_readDenied 2 = .ok (.iconst 0, 1) := by decide +kernel
theorem dX5_readDenied_3 : decode cX5_readDenied 3 = .ok (.invokevirtual 71, 3) := by decide +kernel
theorem dX5_readDenied_6 : decode cX5_readDenied 6 = .ok (.ifCond .ne 5, 3) := by decide +kernel
theorem dX5_readDenied_9 : decode cX5_readDenied 9 = .ok (.iconst 0, 1) := by decide +kernel
theorem dX5_readDenied_10 : decode cX5_readDenied 10 = .ok (.ireturn, 1) := by decide +kernel
theorem dX5_readDenied_11 : decode cX5_readDenied 11 = .ok (.aload_n 0, 1) := by decide +kernel
theorem dX5_readDenied_12 : decode cX5_readDenied 12 = .ok (.bipush 33, 2) := by decide +kernel
theorem dX5_readDenied_14 : decode cX5_readDenied 14 = .ok (.iconst 0, 1) := by decide +kernel
theorem dX5_readDenied_15 : decode cX5_readDenied 15 = .ok (.invokevirtual 57, 3) := by decide +kernel
theorem dX5_readDenied_18 : decode cX5_readDenied 18 = .ok (.iconst 1, 1) := by decide +kernel
theorem dX5_readDenied_19 : decode cX5_readDenied 19 = .ok (.ireturn, 1) := by decide +kernel
set_option maxRecDepth 100000 in
theorem c_X5_readDenied {n : Nat} {F : Bool → sm_MI → sm_ML → Prop} {T : List sm_Sh} {I : sm_MI} {L : sm_ML} {a1 : Int32} (hB : sm_Bs T)
    (h : sm_CZ n mX5_readUnit T I L [.ref 18, .int a1, .int (sm_z false)] (fun r2 I1 L1 => (r2 = true → sm_CV n mX5_write T I1 L1 [.ref 18, .int 33, .int 0] (fun I3 L3 => F true I3 L3)) ∧ (r2 = false → F false I1 L1))) :
    sm_CZ (n + 1) mX5_readDenied T I L [.ref 18, .int a1] F :=
  sm_CZ.of (by decide +kernel) rfl (fun x hx => show sm_V x 0 0 T I L 0 [some (.ref 18), some (.int a1)] [] from
  sm_aload_n (z := 18) hx dX5_readDenied_0 rfl (sm_iload_n (z := a1) hx dX5_readDenied_1 rfl (sm_iconst (v := 0) hx dX5_readDenied_2 sm_kc_0 (sm_callVZ (args := [.int a1, .int (sm_z false)]) (st := []) hx dX5_readDenied_3 lv_X5_71_5 rfl rfl (t_18 hB) rfl rfl h (fun r2 I1 L1 hI1 => sm_ifneZ (b := r2) hx dX5_readDenied_6 (tgt := 11) (by decide) (fun q1 => sm_aload_n (z := 18) hx dX5_readDenied_11 rfl (sm_bipush (v := 33) hx dX5_readDenied_12 sm_kb_33 (sm_iconst (v := 0) hx dX5_readDenied_14 sm_kc_0 (sm_callVV (args := [.int 33, .int 0]) (st := []) hx dX5_readDenied_15 lv_X5_57_5 rfl rfl (t_18 hB) rfl rfl (hI1.1 q1) (fun I3 L3 hI3 => sm_iconst (v := 1) hx dX5_readDenied_18 sm_kc_1 (sm_iretZ (z := true) hx dX5_readDenied_19 rfl hI3)))))) (fun q1 => sm_iconst (v := 0) hx dX5_readDenied_9 sm_kc_0 (sm_iretZ (z := false) hx dX5_readDenied_10 rfl (hI1.2 q1))))))))
theorem dX5_readSum_0 : decode cX5_readSum 0 = .ok (.aload_n 0, 1) := by decide +kernel
theorem dX5_readSum_1 : decode cX5_readSum 1 = .ok (.iload_n 1, 1) := by decide +kernel
theorem dX5_readSum_2 : decode cX5_readSum 2 = .ok (.invokevirtual 80, 3) := by decide +kernel
theorem dX5_readSum_5 : decode cX5_readSum 5 = .ok (.ifCond .ne 5, 3) := by decide +kernel
theorem dX5_readSum_8 : decode cX5_readSum 8 = .ok (.iconst 0, 1) := by decide +kernel
theorem dX5_readSum_9 : decode cX5_readSum 9 = .ok (.ireturn, 1) := by decide +kernel
theorem dX5_readSum_10 : decode cX5_readSum 10 = .ok (.iconst 0, 1) := by decide +kernel
theorem dX5_readSum_11 : decode cX5_readSum 11 = .ok (.istore_n 2, 1) := by decide +kernel
theorem dX5_readSum_12 : decode cX5_readSum 12 = .ok (.iload_n 2, 1) := by decide +kernel
theorem dX5_readSum_13 : decode cX5_readSum 13 = .ok (.sipush 160, 3) := by decide +kernel
theorem dX5_readSum_16 : decode cX5_readSum 16 = .ok (.if_icmp .ge 48, 3) := by decide +kernel
theorem dX5_readSum_19 : decode cX5_readSum 19 = .ok (.aload_n 0, 1) := by decide +kernel
theorem dX5_readSum_20 : decode cX5_readSum 20 = .ok (.invokevirtual 44, 3) := by decide +kernel
theorem dX5_readSum_23 : decode cX5_readSum 23 = .ok (.istore_n 3, 1) := by decide +kernel
theorem dX5_readSum_24 : decode cX5_readSum 24 = .ok (.iload_n 3, 1) := by decide +kernel
theorem dX5_readSum_25 : decode cX5_readSum 25 = .ok (.bipush 43, 2) := by decide +kernel
theorem dX5_readSum_27 : decode cX5_readSum 27 = .ok (.if_icmp .eq 11, 3) := by decide +kernel
theorem dX5_readSum_30 : decode cX5_readSum 30 = .ok (.iload_n 3, 1) := by decide +kernel
theorem dX5_readSum_31 : decode cX5_readSum 31 = .ok (.bipush 45, 2) := by decide +kernel
theorem dX5_readSum_33 : decode cX5_readSum 33 = .ok (.if_icmp .eq 5, 3) := by decide +kernel
theorem dX5_readSum_36 : decode cX5_readSum 36 = .ok (.iconst 1, 1) := by decide +kernel
theorem dX5_readSum_37 : decode cX5_readSum 37 = .ok (.ireturn, 1) := by decide +kernel
theorem dX5_readSum_38 : decode cX5_readSum 38 = .ok (.aload_n 0, 1) := by decide +kernel
theorem dX5_readSum_39 : decode cX5_readSum 39 = .ok (.invokevirtual 74, 3) := by decide +kernel
theorem dX5_readSum_42 : decode cX5_readSum 42 = .ok (.aload_n 0, 1) := by decide +kernel
theorem dX5_readSum_43 : decode cX5_readSum 43 = .ok (.iload_n 1, 1) := by decide +kernel
theorem dX5_readSum_44 : decode cX5_readSum 44 = .ok (.invokevirtual 80, 3) := by decide +kernel
theorem dX5_readSum_47 : decode cX5_readSum 47 = .ok (.ifCond .ne 5, 3) := by decide +kernel
theorem dX5_readSum_50 : decode cX5_readSum 50 = .ok (.iconst 0, 1) := by decide +kernel
theorem dX5_readSum_51 : decode cX5_readSum 51 = .ok (.ireturn, 1) := by decide +kernel
theorem dX5_readSum_52 : decode cX5_readSum 52 = .ok (.aload_n 0, 1) := by decide +kernel
theorem dX5_readSum_53 : decode cX5_readSum 53 = .ok (.iload_n 3, 1) := by decide +kernel
theorem dX5_readSum_54 : decode cX5_readSum 54 = .ok (.iconst 0, 1) := by decide +kernel
theorem dX5_readSum_55 : decode cX5_readSum 55 = .ok (.invokevirtual 57, 3) := by decide +kernel
theorem dX5_readSum_58 : decode cX5_readSum 58 = .ok (.iinc 2 1, 3) := by decide +kernel
theorem dX5_readSum_61 : decode cX5_readSum 61 = .ok (.goto (-49), 3) := by decide +kernel
theorem dX5_readSum_64 : decode cX5_readSum 64 = .ok (.iconst 0, 1) := by decide +kernel
theorem dX5_readSum_65 : decode cX5_readSum 65 = .ok (.ireturn, 1) := by decide +kernel
set_option maxRecDepth 100000 in
theorem u_X5_readSum_12 {x : sm_Cx} {n : Nat} {F : Bool → sm_MI → sm_ML → Prop} {T : List sm_Sh} {I : sm_MI} {L : sm_ML} {a1 : Int32} {a2 : Int32} {u3 : Option Value} (hB : sm_Bs T) (hx : sm_Ok x mX5_readSum (n + 1) (sm_KZ T F))
    (h : (160 ≤ a2 → F false I L) ∧ (¬ 160 ≤ a2 → sm_CI n mX2_nextSign T I L [.ref 18] (fun r2 I1 L1 => (r2 = 43 → sm_CV n mX2_goOn T I1 L1 [.ref 18] (fun I3 L3 => sm_CZ n mX5_readTerm T I3 L3 [.ref 18, .int a1] (fun r5 I4 L4 => (r5 = true → sm_CV n mX5_write T I4 L4 [.ref 18, .int r2, .int 0] (fun I6 L6 => sm_V x 0 0 T I6 L6 12 [some (.ref 18), some (.int a1), some (.int (a2 + 1)), some (.int r2)] [])) ∧ (r5 = false → F false I4 L4)))) ∧ (¬ r2 = 43 → (r2 = 45 → sm_CV n mX2_goOn T I1 L1 [.ref 18] (fun I7 L7 => sm_CZ n mX5_readTerm T I7 L7 [.ref 18, .int a1] (fun r9 I8 L8 => (r9 = true → sm_CV n mX5_write T I8 L8 [.ref 18, .int r2, .int 0] (fun I10 L10 => sm_V x 0 0 T I10 L10 12 [some (.ref 18), some (.int a1), some (.int (a2 + 1)), some (.int r2)] [])) ∧ (r9 = false → F false I8 L8)))) ∧ (¬ r2 = 45 → F true I1 L1))))) :
    sm_V x 0 0 T I L 12 [some (.ref 18), some (.int a1), some (.int a2), u3] [] :=
  sm_iload_n (z := a2) hx dX5_readSum_12 rfl (sm_sipush (v := 160) hx dX5_readSum_13 sm_ks_160 (sm_icmpge (a := a2) (b := 160) hx dX5_readSum_16 (tgt := 64) (by decide) (fun q5 => sm_iconst (v := 0) hx dX5_readSum_64 sm_kc_0 (sm_iretZ (z := false) hx dX5_readSum_65 rfl (h.1 q5))) (fun q5 => sm_aload_n (z := 18) hx dX5_readSum_19 rfl (sm_callUI (args := []) (st := []) hx dX5_readSum_20 lu_X5_44_5 rfl rfl (t_18 hB) rfl rfl (h.2 q5) (fun r2 I1 L1 hI1 => sm_istore_n (ls' := [some (.ref 18), some (.int a1), some (.int a2), some (.int r2)]) hx dX5_readSum_23 (by decide) rfl (sm_iload_n (z := r2) hx dX5_readSum_24 rfl (sm_bipush (v := 43) hx dX5_readSum_25 sm_kb_43 (sm_icmpeq (a := r2) (b := 43) hx dX5_readSum_27 (tgt := 38) (by decide) (fun q4 => sm_aload_n (z := 18) hx dX5_readSum_38 rfl (sm_callUV (args := []) (st := []) hx dX5_readSum_39 lu_X5_74_5 rfl rfl (t_18 hB) rfl rfl (hI1.1 q4) (fun I3 L3 hI3 => sm_aload_n (z := 18) hx dX5_readSum_42 rfl (sm_iload_n (z := a1) hx dX5_readSum_43 rfl (sm_callVZ (args := [.int a1]) (st := []) hx dX5_readSum_44 lv_X5_80_5 rfl rfl (t_18 hB) rfl rfl hI3 (fun r5 I4 L4 hI4 => sm_ifneZ (b := r5) hx dX5_readSum_47 (tgt := 52) (by decide) (fun q1 => sm_aload_n (z := 18) hx dX5_readSum_52 rfl (sm_iload_n (z := r2) hx dX5_readSum_53 rfl (sm_iconst (v := 0) hx dX5_readSum_54 sm_kc_0 (sm_callVV (args := [.int r2, .int 0]) (st := []) hx dX5_readSum_55 lv_X5_57_5 rfl rfl (t_18 hB) rfl rfl (hI4.1 q1) (fun I6 L6 hI6 => sm_iinc (ls' := [some (.ref 18), some (.int a1), some (.int (a2 + 1)), some (.int r2)]) (z := a2) (v := (a2 + 1)) hx dX5_readSum_58 rfl (sm_kii_1 _) (by decide) rfl (sm_goto hx dX5_readSum_61 (tgt := 12) (by decide) (hI6))))))) (fun q1 => sm_iconst (v := 0) hx dX5_readSum_50 sm_kc_0 (sm_iretZ (z := false) hx dX5_readSum_51 rfl (hI4.2 q1))))))))) (fun q4 => sm_iload_n (z := r2) hx dX5_readSum_30 rfl (sm_bipush (v := 45) hx dX5_readSum_31 sm_kb_45 (sm_icmpeq (a := r2) (b := 45) hx dX5_readSum_33 (tgt := 38) (by decide) (fun q3 => sm_aload_n (z := 18) hx dX5_readSum_38 rfl (sm_callUV (args := []) (st := []) hx dX5_readSum_39 lu_X5_74_5 rfl rfl (t_18 hB) rfl rfl ((hI1.2 q4).1 q3) (fun I7 L7 hI7 => sm_aload_n (z := 18) hx dX5_readSum_42 rfl (sm_iload_n (z := a1) hx dX5_readSum_43 rfl (sm_callVZ (args := [.int a1]) (st := []) hx dX5_readSum_44 lv_X5_80_5 rfl rfl (t_18 hB) rfl rfl hI7 (fun r9 I8 L8 hI8 => sm_ifneZ (b := r9) hx dX5_readSum_47 (tgt := 52) (by decide) (fun q2 => sm_aload_n (z := 18) hx dX5_readSum_52 rfl (sm_iload_n (z := r2) hx dX5_readSum_53 rfl (sm_iconst (v := 0) hx dX5_readSum_54 sm_kc_0 (sm_callVV (args := [.int r2, .int 0]) (st := []) hx dX5_readSum_55 lv_X5_57_5 rfl rfl (t_18 hB) rfl rfl (hI8.1 q2) (fun I10 L10 hI10 => sm_iinc (ls' := [some (.ref 18), some (.int a1), some (.int (a2 + 1)), some (.int r2)]) (z := a2) (v := (a2 + 1)) hx dX5_readSum_58 rfl (sm_kii_1 _) (by decide) rfl (sm_goto hx dX5_readSum_61 (tgt := 12) (by decide) (hI10))))))) (fun q2 => sm_iconst (v := 0) hx dX5_readSum_50 sm_kc_0 (sm_iretZ (z := false) hx dX5_readSum_51 rfl (hI8.2 q2))))))))) (fun q3 => sm_iconst (v := 1) hx dX5_readSum_36 sm_kc_1 (sm_iretZ (z := true) hx dX5_readSum_37 rfl ((hI1.2 q4).2 q3))))))))))))))
set_option maxRecDepth 100000 in
theorem c_X5_readSum {n : Nat} {F : Bool → sm_MI → sm_ML → Prop} {T : List sm_Sh} {I : sm_MI} {L : sm_ML} {a1 : Int32} (hB : sm_Bs T)
    (h : ∀ x : sm_Cx, sm_Ok x mX5_readSum (n + 1) (sm_KZ T F) → sm_CZ n mX5_readTerm T I L [.ref 18, .int a1] (fun r2 I1 L1 => (r2 = true → sm_V x 0 0 T I1 L1 12 [some (.ref 18), some (.int a1), some (.int 0), none] []) ∧ (r2 = false → F false I1 L1))) :
    sm_CZ (n + 1) mX5_readSum T I L [.ref 18, .int a1] F :=
  sm_CZ.of (by decide +kernel) rfl (fun x hx => show sm_V x 0 0 T I L 0 [some (.ref 18), some (.int a1), none, none] [] from
  sm_aload_n (z := 18) hx dX5_readSum_0 rfl (sm_iload_n (z := a1) hx dX5_readSum_1 rfl (sm_callVZ (args := [.int a1]) (st := []) hx dX5_readSum_2 lv_X5_80_5 rfl rfl (t_18 hB) rfl rfl (h x hx) (fun r2 I1 L1 hI1 => sm_ifneZ (b := r2) hx dX5_readSum_5 (tgt := 10) (by decide) (fun q6 => sm_iconst (v := 0) hx dX5_readSum_10 sm_kc_0 (sm_istore_n (ls' := [some (.ref 18), some (.int a1), some (.int 0), none]) hx dX5_readSum_11 (by decide) rfl ((hI1.1 q6)))) (fun q6 => sm_iconst (v := 0) hx dX5_readSum_8 sm_kc_0 (sm_iretZ (z := false) hx dX5_readSum_9 rfl (hI1.2 q6)))))))
theorem dX5_readTerm_0 : decode cX5_readTerm 0 = .ok (.aload_n 0, 1) := by decide +kernel
theorem dX5_readTerm_1 : decode cX5_readTerm 1 = .ok (.iload_n 1, 1) := by decide +kernel
theorem dX5_readTerm_2 : decode cX5_readTerm 2 = .ok (.invokevirtual 83, 3) := by decide +kernel
theorem dX5_readTerm_5 : decode cX5_readTerm 5 = .ok (.ifCond .ne 5, 3) := by decide +kernel
theorem dX5_readTerm_8 : decode cX5_readTerm 8 = .ok (.iconst 0, 1) := by decide +kernel
theorem dX5_readTerm_9 : decode cX5_readTerm 9 = .ok (.ireturn, 1) := by decide +kernel
theorem dX5_readTerm_10 : decode cX5_readTerm 10 = .ok (.iconst 0, 1) := by decide +kernel
theorem dX5_readTerm_11 : decode cX5_readTerm 11 = .ok (.istore_n 2, 1) := by decide +kernel
theorem dX5_readTerm_12 : decode cX5_readTerm 12 = .ok (.iload_n 2, 1) := by decide +kernel
theorem dX5_readTerm_13 : decode cX5_readTerm 13 = .ok (.sipush 160, 3) := by decide +kernel
theorem dX5_readTerm_16 : decode cX5_readTerm 16 = .ok (.if_icmp .ge 48, 3) := by decide +kernel
theorem dX5_readTerm_19 : decode cX5_readTerm 19 = .ok (.aload_n 0, 1) := by decide +kernel
theorem dX5_readTerm_20 : decode cX5_readTerm 20 = .ok (.invokevirtual 44, 3) := by decide +kernel
theorem dX5_readTerm_23 : decode cX5_readTerm 23 = .ok (.istore_n 3, 1) := by decide +kernel
theorem dX5_readTerm_24 : decode cX5_readTerm 24 = .ok (.iload_n 3, 1) := by decide +kernel
theorem dX5_readTerm_25 : decode cX5_readTerm 25 = .ok (.bipush 42, 2) := by decide +kernel
theorem dX5_readTerm_27 : decode cX5_readTerm 27 = .ok (.if_icmp .eq 11, 3) := by decide +kernel
theorem dX5_readTerm_30 : decode cX5_readTerm 30 = .ok (.iload_n 3, 1) := by decide +kernel
theorem dX5_readTerm_31 : decode cX5_readTerm 31 = .ok (.bipush 47, 2) := by decide +kernel
theorem dX5_readTerm_33 : decode cX5_readTerm 33 = .ok (.if_icmp .eq 5, 3) := by decide +kernel
theorem dX5_readTerm_36 : decode cX5_readTerm 36 = .ok (.iconst 1, 1) := by decide +kernel
theorem dX5_readTerm_37 : decode cX5_readTerm 37 = .ok (.ireturn, 1) := by decide +kernel
theorem dX5_readTerm_38 : decode cX5_readTerm 38 = .ok (.aload_n 0, 1) := by decide +kernel
theorem dX5_readTerm_39 : decode cX5_readTerm 39 = .ok (.invokevirtual 74, 3) := by decide +kernel
theorem dX5_readTerm_42 : decode cX5_readTerm 42 = .ok (.aload_n 0, 1) := by decide +kernel
theorem dX5_readTerm_43 : decode cX5_readTerm 43 = .ok (.iload_n 1, 1) := by decide +kernel
theorem dX5_readTerm_44 : decode cX5_readTerm 44 = .ok (.invokevirtual 83, 3) := by decide +kernel
theorem dX5_readTerm_47 : decode cX5_readTerm 47 = .ok (.ifCond .ne 5, 3) := by decide +kernel
theorem dX5_readTerm_50 : decode cX5_readTerm 50 = .ok (.iconst 0, 1) := by decide +kernel
theorem dX5_readTerm_51 : decode cX5_readTerm 51 = .ok (.ireturn, 1) := by decide +kernel
theorem dX5_readTerm_52 : decode cX5_readTerm 52 = .ok (.aload_n 0, 1) := by decide +kernel
theorem dX5_readTerm_53 : decode cX5_readTerm 53 = .ok (.iload_n 3, 1) := by decide +kernel
theorem dX5_readTerm_54 : decode cX5_readTerm 54 = .ok (.iconst 0, 1) := by decide +kernel
theorem dX5_readTerm_55 : decode cX5_readTerm 55 = .ok (.invokevirtual 57, 3) := by decide +kernel
theorem dX5_readTerm_58 : decode cX5_readTerm 58 = .ok (.iinc 2 1, 3) := by decide +kernel
theorem dX5_readTerm_61 : decode cX5_readTerm 61 = .ok (.goto (-49), 3) := by decide +kernel
theorem dX5_readTerm_64 : decode cX5_readTerm 64 = .ok (.iconst 0, 1) := by decide +kernel
theorem dX5_readTerm_65 : decode cX5_readTerm 65 = .ok (.ireturn, 1) := by decide +kernel
set_option maxRecDepth 100000 in
theorem u_X5_readTerm_12 {x : sm_Cx} {n : Nat} {F : Bool → sm_MI → sm_ML → Prop} {T : List sm_Sh} {I : sm_MI} {L : sm_ML} {a1 : Int32} {a2 : Int32} {u3 : Option Value} (hB : sm_Bs T) (hx : sm_Ok x mX5_readTerm (n + 1) (sm_KZ T F))
    (h : (160 ≤ a2 → F false I L) ∧ (¬ 160 ≤ a2 → sm_CI n mX2_nextSign T I L [.ref 18] (fun r2 I1 L1 => (r2 = 42 → sm_CV n mX2_goOn T I1 L1 [.ref 18] (fun I3 L3 => sm_CZ n mX5_readAtom T I3 L3 [.ref 18, .int a1] (fun r5 I4 L4 => (r5 = true → sm_CV n mX5_write T I4 L4 [.ref 18, .int r2, .int 0] (fun I6 L6 => sm_V x 0 0 T I6 L6 12 [some (.ref 18), some (.int a1), some (.int (a2 + 1)), some (.int r2)] [])) ∧ (r5 = false → F false I4 L4)))) ∧ (¬ r2 = 42 → (r2 = 47 → sm_CV n mX2_goOn T I1 L1 [.ref 18] (fun I7 L7 => sm_CZ n mX5_readAtom T I7 L7 [.ref 18, .int a1] (fun r9 I8 L8 => (r9 = true → sm_CV n mX5_write T I8 L8 [.ref 18, .int r2, .int 0] (fun I10 L10 => sm_V x 0 0 T I10 L10 12 [some (.ref 18), some (.int a1), some (.int (a2 + 1)), some (.int r2)] [])) ∧ (r9 = false → F false I8 L8)))) ∧ (¬ r2 = 47 → F true I1 L1))))) :
    sm_V x 0 0 T I L 12 [some (.ref 18), some (.int a1), some (.int a2), u3] [] :=
  sm_iload_n (z := a2) hx dX5_readTerm_12 rfl (sm_sipush (v := 160) hx dX5_readTerm_13 sm_ks_160 (sm_icmpge (a := a2) (b := 160) hx dX5_readTerm_16 (tgt := 64) (by decide) (fun q5 => sm_iconst (v := 0) hx dX5_readTerm_64 sm_kc_0 (sm_iretZ (z := false) hx dX5_readTerm_65 rfl (h.1 q5))) (fun q5 => sm_aload_n (z := 18) hx dX5_readTerm_19 rfl (sm_callUI (args := []) (st := []) hx dX5_readTerm_20 lu_X5_44_5 rfl rfl (t_18 hB) rfl rfl (h.2 q5) (fun r2 I1 L1 hI1 => sm_istore_n (ls' := [some (.ref 18), some (.int a1), some (.int a2), some (.int r2)]) hx dX5_readTerm_23 (by decide) rfl (sm_iload_n (z := r2) hx dX5_readTerm_24 rfl (sm_bipush (v := 42) hx dX5_readTerm_25 sm_kb_42 (sm_icmpeq (a := r2) (b := 42) hx dX5_readTerm_27 (tgt := 38) (by decide) (fun q4 => sm_aload_n (z := 18) hx dX5_readTerm_38 rfl (sm_callUV (args := []) (st := []) hx dX5_readTerm_39 lu_X5_74_5 rfl rfl (t_18 hB) rfl rfl (hI1.1 q4) (fun I3 L3 hI3 => sm_aload_n (z := 18) hx dX5_readTerm_42 rfl (sm_iload_n (z := a1) hx dX5_readTerm_43 rfl (sm_callVZ (args := [.int a1]) (st := []) hx dX5_readTerm_44 lv_X5_83_5 rfl rfl (t_18 hB) rfl rfl hI3 (fun r5 I4 L4 hI4 => sm_ifneZ (b := r5) hx dX5_readTerm_47 (tgt := 52) (by decide) (fun q1 => sm_aload_n (z := 18) hx dX5_readTerm_52 rfl (sm_iload_n (z := r2) hx dX5_readTerm_53 rfl (sm_iconst (v := 0) hx dX5_readTerm_54 sm_kc_0 (sm_callVV (args := [.int r2, .int 0]) (st := []) hx dX5_readTerm_55 lv_X5_57_5 rfl rfl (t_18 hB) rfl rfl (hI4.1 q1) (fun I6 L6 hI6 => sm_iinc (ls' := [some (.ref 18), some (.int a1), some (.int (a2 + 1)), some (.int r2)]) (z := a2) (v := (a2 + 1)) hx dX5_readTerm_58 rfl (sm_kii_1 _) (by decide) rfl (sm_goto hx dX5_readTerm_61 (tgt := 12) (by decide) (hI6))))))) (fun q1 => sm_iconst (v := 0) hx dX5_readTerm_50 sm_kc_0 (sm_iretZ (z := false) hx dX5_readTerm_51 rfl (hI4.2 q1))))))))) (fun q4 => sm_iload_n (z := r2) hx dX5_readTerm_30 rfl (sm_bipush (v := 47) hx dX5_readTerm_31 sm_kb_47 (sm_icmpeq (a := r2) (b := 47) hx dX5_readTerm_33 (tgt := 38) (by decide) (fun q3 => sm_aload_n (z := 18) hx dX5_readTerm_38 rfl (sm_callUV (args := []) (st := []) hx dX5_readTerm_39 lu_X5_74_5 rfl rfl (t_18 hB) rfl rfl ((hI1.2 q4).1 q3) (fun I7 L7 hI7 => sm_aload_n (z := 18) hx dX5_readTerm_42 rfl (sm_iload_n (z := a1) hx dX5_readTerm_43 rfl (sm_callVZ (args := [.int a1]) (st := []) hx dX5_readTerm_44 lv_X5_83_5 rfl rfl (t_18 hB) rfl rfl hI7 (fun r9 I8 L8 hI8 => sm_ifneZ (b := r9) hx dX5_readTerm_47 (tgt := 52) (by decide) (fun q2 => sm_aload_n (z := 18) hx dX5_readTerm_52 rfl (sm_iload_n (z := r2) hx dX5_readTerm_53 rfl (sm_iconst (v := 0) hx dX5_readTerm_54 sm_kc_0 (sm_callVV (args := [.int r2, .int 0]) (st := []) hx dX5_readTerm_55 lv_X5_57_5 rfl rfl (t_18 hB) rfl rfl (hI8.1 q2) (fun I10 L10 hI10 => sm_iinc (ls' := [some (.ref 18), some (.int a1), some (.int (a2 + 1)), some (.int r2)]) (z := a2) (v := (a2 + 1)) hx dX5_readTerm_58 rfl (sm_kii_1 _) (by decide) rfl (sm_goto hx dX5_readTerm_61 (tgt := 12) (by decide) (hI10))))))) (fun q2 => sm_iconst (v := 0) hx dX5_readTerm_50 sm_kc_0 (sm_iretZ (z := false) hx dX5_readTerm_51 rfl (hI8.2 q2))))))))) (fun q3 => sm_iconst (v := 1) hx dX5_readTerm_36 sm_kc_1 (sm_iretZ (z := true) hx dX5_readTerm_37 rfl ((hI1.2 q4).2 q3))))))))))))))
set_option maxRecDepth 100000 in
theorem c_X5_readTerm {n : Nat} {F : Bool → sm_MI → sm_ML → Prop} {T : List sm_Sh} {I : sm_MI} {L : sm_ML} {a1 : Int32} (hB : sm_Bs T)
    (h : ∀ x : sm_Cx, sm_Ok x mX5_readTerm (n + 1) (sm_KZ T F) → sm_CZ n mX5_readAtom T I L [.ref 18, .int a1] (fun r2 I1 L1 => (r2 = true → sm_V x 0 0 T I1 L1 12 [some (.ref 18), some (.int a1), some (.int 0), none] []) ∧ (r2 = false → F false I1 L1))) :
    sm_CZ (n + 1) mX5_readTerm T I L [.ref 18, .int a1] F :=
  sm_CZ.of (by decide +kernel) rfl (fun x hx => show sm_V x 0 0 T I L 0 [some (.ref 18), some (.int a1), none, none] [] from
  sm_aload_n (z := 18) hx dX5_readTerm_0 rfl (sm_iload_n (z := a1) hx dX5_readTerm_1 rfl (sm_callVZ (args := [.int a1]) (st := []) hx dX5_readTerm_2 lv_X5_83_5 rfl rfl (t_18 hB) rfl rfl (h x hx) (fun r2 I1 L1 hI1 => sm_ifneZ (b := r2) hx dX5_readTerm_5 (tgt := 10) (by decide) (fun q6 => sm_iconst (v := 0) hx dX5_readTerm_10 sm_kc_0 (sm_istore_n (ls' := [some (.ref 18), some (.int a1), some (.int 0), none]) hx dX5_readTerm_11 (by decide) rfl ((hI1.1 q6)))) (fun q6 => sm_iconst (v := 0) hx dX5_readTerm_8 sm_kc_0 (sm_iretZ (z := false) hx dX5_readTerm_9 rfl (hI1.2 q6)))))))
theorem dX5_readAtom_0 : decode cX5_readAtom 0 = .ok (.aload_n 0, 1) := by decide +kernel
theorem dX5_readAtom_1 : decode cX5_readAtom 1 = .ok (.invokevirtual 44, 3) := by decide +kernel
theorem dX5_readAtom_4 : decode cX5_readAtom 4 = .ok (.istore_n 2, 1) := by decide +kernel
theorem dX5_readAtom_5 : decode cX5_readAtom 5 = .ok (.iload_n 2, 1) := by decide +kernel
theorem dX5_readAtom_6 : decode cX5_readAtom 6 = .ok (.bipush 91, 2) := by decide +kernel
theorem dX5_readAtom_8 : decode cX5_readAtom 8 = .ok (.if_icmp .ne 40, 3) := by decide +kernel
theorem dX5_readAtom_11 : decode cX5_readAtom 11 = .ok (.iload_n 1, 1) := by decide +kernel
theorem dX5_readAtom_12 : decode cX5_readAtom 12 = .ok (.bipush 6, 2) := by decide +kernel
theorem dX5_readAtom_14 : decode cX5_readAtom 14 = .ok (.if_icmp .lt 5, 3) := by decide +kernel
theorem dX5_readAtom_17 : decode cX5_readAtom 17 = .ok (.iconst 0, 1) := by decide +kernel
theorem dX5_readAtom_18 : decode cX5_readAtom 18 = .ok (.ireturn, 1) := by decide +kernel
theorem dX5_readAtom_19 : decode cX5_readAtom 19 = .ok (.aload_n 0, 1) := by decide +kernel
theorem dX5_readAtom_20 : decode cX5_readAtom 20 = .ok (.invokevirtual 74, 3) := by decide +kernel
theorem dX5_readAtom_23 : decode cX5_readAtom 23 = .ok (.aload_n 0, 1) := by decide +kernel
theorem dX5_readAtom_24 : decode cX5_readAtom 24 = .ok (.iload_n 1, 1) := by decide +kernel
theorem dX5_readAtom_25 : decode cX5_readAtom 25 = .ok (.iconst 1, 1) := by decide +kernel
theorem dX5_readAtom_26 : decode cX5_readAtom 26 = .ok (.iadd, 1) := by decide +kernel
theorem dX5_readAtom_27 : decode cX5_readAtom 27 = .ok (.invokevirtual 51, 3) := by decide +kernel
theorem dX5_readAtom_30 : decode cX5_readAtom 30 = .ok (.ifCond .eq 16, 3) := by decide +kernel
theorem dX5_readAtom_33 : decode cX5_readAtom 33 = .ok (.aload_n 0, 1) := by decide +kernel
theorem dX5_readAtom_34 : decode cX5_readAtom 34 = .ok (.bipush 93, 2) := by decide +kernel
theorem dX5_readAtom_36 : decode cX5_readAtom 36 = .ok (.invokevirtual 40, 3) := by decide +kernel
theorem dX5_readAtom_39 : decode cX5_readAtom 39 = .ok (.ifCond .eq 7, 3) := by decide +kernel
theorem dX5_readAtom_42 : decode cX5_readAtom 42 = .ok (.iconst 1, 1) := by decide +kernel
theorem dX5_readAtom_43 : decode cX5_readAtom 43 = .ok (.goto 4, 3) := by decide +kernel
theorem dX5_readAtom_46 : decode cX5_readAtom 46 = .ok (.iconst 0, 1) := by decide +kernel
theorem dX5_readAtom_47 : decode cX5_readAtom 47 = .ok (.ireturn, 1) := by decide +kernel
theorem dX5_readAtom_48 : decode cX5_readAtom 48 = .ok (.iload_n 2, 1) := by decide +kernel
theorem dX5_readAtom_49 : decode cX5_readAtom 49 = .ok (.invokestatic 86, 3) := by decide +kernel
theorem dX5_readAtom_52 : decode cX5_readAtom 52 = .ok (.ifCond .eq 8, 3) := by decide +kernel
theorem dX5_readAtom_55 : decode cX5_readAtom 55 = .ok (.aload_n 0, 1) := by decide +kernel
theorem dX5_readAtom_56 : decode cX5_readAtom 56 = .ok (.invokevirtual 89, 3) := by decide +kernel
theorem dX5_readAtom_59 : decode cX5_readAtom 59 = .ok (.ireturn, 1) := by decide +kernel
theorem dX5_readAtom_60 : decode cX5_readAtom 60 = .ok (.iload_n 2, 1) := by decide +kernel
theorem dX5_readAtom_61 : decode cX5_readAtom 61 = .ok (.iconst (-1), 1) := by decide +kernel
theorem dX5_readAtom_62 : decode cX5_readAtom 62 = .ok (.if_icmp .ne 7, 3) := by decide +kernel
theorem dX5_readAtom_65 : decode cX5_readAtom 65 = .ok (.iconst (-1), 1) := by decide +kernel
theorem dX5_readAtom_66 : decode cX5_readAtom 66 = .ok (.goto 10, 3) := by decide +kernel
theorem dX5_readAtom_69 : decode cX5_readAtom 69 = .ok (.ldc 92, 2) := by decide +kernel
theorem dX5_readAtom_71 : decode cX5_readAtom 71 = .ok (.iload_n 2, 1) := by decide +kernel
theorem dX5_readAtom_72 : decode cX5_readAtom 72 = .ok (.i2c, 1) := by decide +kernel
theorem dX5_readAtom_73 : decode cX5_readAtom 73 = .ok (.invokevirtual 94, 3) := by decide +kernel
theorem dX5_readAtom_76 : decode cX5_readAtom 76 = .ok (.istore_n 3, 1) := by decide +kernel
theorem dX5_readAtom_77 : decode cX5_readAtom 77 = .ok (.iload_n 3, 1) := by decide +kernel
theorem dX5_readAtom_78 : decode cX5_readAtom 78 = .ok (.iconst (-1), 1) := by decide +kernel
theorem dX5_readAtom_79 : decode cX5_readAtom 79 = .ok (.if_icmp .ne 5, 3) := by decide +kernel
theorem dX5_readAtom_82 : decode cX5_readAtom 82 = .ok (.iconst 0, 1) := by decide +kernel
theorem dX5_readAtom_83 : decode cX5_readAtom 83 = .ok (.ireturn, 1) := by decide +kernel
theorem dX5_readAtom_84 : decode cX5_readAtom 84 = .ok (.aload_n 0, 1) := by decide +kernel
theorem dX5_readAtom_85 : decode cX5_readAtom 85 = .ok (.invokevirtual 74, 3) := by decide +kernel
theorem dX5_readAtom_88 : decode cX5_readAtom 88 = .ok (.aload_n 0, 1) := by decide +kernel
theorem dX5_readAtom_89 : decode cX5_readAtom 89 = .ok (.bipush 97, 2) := by decide +kernel
theorem dX5_readAtom_91 : decode cX5_readAtom 91 = .ok (.iload_n 3, 1) := by decide +kernel
theorem dX5_readAtom_92 : decode cX5_readAtom 92 = .ok (.invokevirtual 57, 3) := by decide +kernel
theorem dX5_readAtom_95 : decode cX5_readAtom 95 = .ok (.iconst 1, 1) := by decide +kernel
theorem dX5_readAtom_96 : decode cX5_readAtom 96 = .ok (.ireturn, 1) := by decide +kernel
set_option maxRecDepth 100000 in
theorem c_X5_readAtom {n : Nat} {F : Bool → sm_MI → sm_ML → Prop} {T : List sm_Sh} {I : sm_MI} {L : sm_ML} {a1 : Int32} (hB : sm_Bs T)
    (h : sm_CI n mX2_nextSign T I L [.ref 18] (fun r2 I1 L1 => (¬ r2 = 91 → sm_CZ n mX5_isDigit T I1 L1 [.int r2] (fun r4 I3 L3 => (r4 = false → (¬ r2 = (-1) → sm_CI n mJ0_indexOf_0f7a4 T I3 L3 [.ref 1000003, .int (((Int32.toUInt32 r2) % 65536).toInt32)] (fun r6 I5 L5 => (¬ r6 = (-1) → sm_CV n mX2_goOn T I5 L5 [.ref 18] (fun I7 L7 => sm_CV n mX5_write T I7 L7 [.ref 18, .int 97, .int r6] (fun I8 L8 => F true I8 L8))) ∧ (r6 = (-1) → F false I5 L5))) ∧ (r2 = (-1) → F false I3 L3)) ∧ (r4 = true → sm_CZ n mX5_readNumber T I3 L3 [.ref 18] (fun r10 I9 L9 => F r10 I9 L9)))) ∧ (r2 = 91 → (a1 < 6 → sm_CV n mX2_goOn T I1 L1 [.ref 18] (fun I11 L11 => sm_CZ n mX5_readSum T I11 L11 [.ref 18, .int (a1 + 1)] (fun r13 I12 L12 => (r13 = false → F false I12 L12) ∧ (r13 = true → sm_CZ n mX2_take T I12 L12 [.ref 18, .int 93] (fun r15 I14 L14 => (r15 = false → F false I14 L14) ∧ (r15 = true → F true I14 L14)))))) ∧ (¬ a1 < 6 → F false I1 L1)))) :
    sm_CZ (n + 1) mX5_readAtom T I L [.ref 18, .int a1] F :=
  sm_CZ.of (by decide +kernel) rfl (fun x hx => show sm_V x 0 0 T I L 0 [some (.ref 18), some (.int a1), none, none] [] from
  sm_aload_n (z := 18) hx dX5_readAtom_0 rfl (sm_callUI (args := []) (st := []) hx dX5_readAtom_1 lu_X5_44_5 rfl rfl (t_18 hB) rfl rfl h (fun r2 I1 L1 hI1 => sm_istore_n (ls' := [some (.ref 18), some (.int a1), some (.int r2), none]) hx dX5_readAtom_4 (by decide) rfl (sm_iload_n (z := r2) hx dX5_readAtom_5 rfl (sm_bipush (v := 91) hx dX5_readAtom_6 sm_kb_91 (sm_icmpne (a := r2) (b := 91) hx dX5_readAtom_8 (tgt := 48) (by decide) (fun q8 => sm_iload_n (z := r2) hx dX5_readAtom_48 rfl (sm_callSZ (args := [.int r2]) (st := []) hx dX5_readAtom_49 ls_X5_86 rfl rfl rfl (hI1.1 q8) (fun r4 I3 L3 hI3 => sm_ifeqZ (b := r4) hx dX5_readAtom_52 (tgt := 60) (by decide) (fun q4 => sm_iload_n (z := r2) hx dX5_readAtom_60 rfl (sm_iconst (v := (-1)) hx dX5_readAtom_61 sm_kc_m1 (sm_icmpne (a := r2) (b := (-1)) hx dX5_readAtom_62 (tgt := 69) (by decide) (fun q3 => sm_ldcS (k := 1000003) hx dX5_readAtom_69 sm_str_X5_92 rfl (sm_iload_n (z := r2) hx dX5_readAtom_71 rfl (sm_i2c (a := r2) hx dX5_readAtom_72 (sm_callVXI (args := [.int (((Int32.toUInt32 r2) % 65536).toInt32)]) (st := []) hx dX5_readAtom_73 lv_X5_94_x rfl rfl (i := 3) (by decide) rfl rfl ((hI3.1 q4).1 q3) (fun r6 I5 L5 hI5 => sm_istore_n (ls' := [some (.ref 18), some (.int a1), some (.int r2), some (.int r6)]) hx dX5_readAtom_76 (by decide) rfl (sm_iload_n (z := r6) hx dX5_readAtom_77 rfl (sm_iconst (v := (-1)) hx dX5_readAtom_78 sm_kc_m1 (sm_icmpne (a := r6) (b := (-1)) hx dX5_readAtom_79 (tgt := 84) (by decide) (fun q1 => sm_aload_n (z := 18) hx dX5_readAtom_84 rfl (sm_callUV (args := []) (st := []) hx dX5_readAtom_85 lu_X5_74_5 rfl rfl (t_18 hB) rfl rfl (hI5.1 q1) (fun I7 L7 hI7 => sm_aload_n (z := 18) hx dX5_readAtom_88 rfl (sm_bipush (v := 97) hx dX5_readAtom_89 sm_kb_97 (sm_iload_n (z := r6) hx dX5_readAtom_91 rfl (sm_callVV (args := [.int 97, .int r6]) (st := []) hx dX5_readAtom_92 lv_X5_57_5 rfl rfl (t_18 hB) rfl rfl hI7 (fun I8 L8 hI8 => sm_iconst (v := 1) hx dX5_readAtom_95 sm_kc_1 (sm_iretZ (z := true) hx dX5_readAtom_96 rfl hI8)))))))) (fun q1 => sm_iconst (v := 0) hx dX5_readAtom_82 sm_kc_0 (sm_iretZ (z := false) hx dX5_readAtom_83 rfl (hI5.2 q1))))))))))) (fun q3 => sm_iconst (v := (-1)) hx dX5_readAtom_65 sm_kc_m1 (sm_goto hx dX5_readAtom_66 (tgt := 76) (by decide) (sm_istore_n (ls' := [some (.ref 18), some (.int a1), some (.int r2), some (.int (-1))]) hx dX5_readAtom_76 (by decide) rfl (sm_iload_n (z := (-1)) hx dX5_readAtom_77 rfl (sm_iconst (v := (-1)) hx dX5_readAtom_78 sm_kc_m1 (sm_icmpne (a := (-1)) (b := (-1)) hx dX5_readAtom_79 (tgt := 84) (by decide) (fun q2 => absurd q2 (by decide)) (fun q2 => sm_iconst (v := 0) hx dX5_readAtom_82 sm_kc_0 (sm_iretZ (z := false) hx dX5_readAtom_83 rfl ((hI3.1 q4).2 q3)))))))))))) (fun q4 => sm_aload_n (z := 18) hx dX5_readAtom_55 rfl (sm_callVZ (args := []) (st := []) hx dX5_readAtom_56 lv_X5_89_5 rfl rfl (t_18 hB) rfl rfl (hI3.2 q4) (fun r10 I9 L9 hI9 => sm_iretZ (z := r10) hx dX5_readAtom_59 rfl hI9)))))) (fun q8 => sm_iload_n (z := a1) hx dX5_readAtom_11 rfl (sm_bipush (v := 6) hx dX5_readAtom_12 sm_kb_6 (sm_icmplt (a := a1) (b := 6) hx dX5_readAtom_14 (tgt := 19) (by decide) (fun q7 => sm_aload_n (z := 18) hx dX5_readAtom_19 rfl (sm_callUV (args := []) (st := []) hx dX5_readAtom_20 lu_X5_74_5 rfl rfl (t_18 hB) rfl rfl ((hI1.2 q8).1 q7) (fun I11 L11 hI11 => sm_aload_n (z := 18) hx dX5_readAtom_23 rfl (sm_iload_n (z := a1) hx dX5_readAtom_24 rfl (sm_iconst (v := 1) hx dX5_readAtom_25 sm_kc_1 (sm_iadd (a := a1) (b := 1) hx dX5_readAtom_26 (sm_callVZ (args := [.int (a1 + 1)]) (st := []) hx dX5_readAtom_27 lv_X5_51_5 rfl rfl (t_18 hB) rfl rfl hI11 (fun r13 I12 L12 hI12 => sm_ifeqZ (b := r13) hx dX5_readAtom_30 (tgt := 46) (by decide) (fun q6 => sm_iconst (v := 0) hx dX5_readAtom_46 sm_kc_0 (sm_iretZ (z := false) hx dX5_readAtom_47 rfl (hI12.1 q6))) (fun q6 => sm_aload_n (z := 18) hx dX5_readAtom_33 rfl (sm_bipush (v := 93) hx dX5_readAtom_34 sm_kb_93 (sm_callUZ (args := [.int 93]) (st := []) hx dX5_readAtom_36 lu_X5_40_5 rfl rfl (t_18 hB) rfl rfl (hI12.2 q6) (fun r15 I14 L14 hI14 => sm_ifeqZ (b := r15) hx dX5_readAtom_39 (tgt := 46) (by decide) (fun q5 => sm_iconst (v := 0) hx dX5_readAtom_46 sm_kc_0 (sm_iretZ (z := false) hx dX5_readAtom_47 rfl (hI14.1 q5))) (fun q5 => sm_iconst (v := 1) hx dX5_readAtom_42 sm_kc_1 (sm_goto hx dX5_readAtom_43 (tgt := 47) (by decide) (sm_iretZ (z := true) hx dX5_readAtom_47 rfl (hI14.2 q5)))))))))))))))) (fun q7 => sm_iconst (v := 0) hx dX5_readAtom_17 sm_kc_0 (sm_iretZ (z := false) hx dX5_readAtom_18 rfl ((hI1.2 q8).2 q7))))))))))))
theorem dX5_readNumber_0 : decode cX5_readNumber 0 = .ok (.iconst 0, 1) := by decide +kernel
theorem dX5_readNumber_1 : decode cX5_readNumber 1 = .ok (.istore_n 1, 1) := by decide +kernel
theorem dX5_readNumber_2 : decode cX5_readNumber 2 = .ok (.iconst 0, 1) := by decide +kernel
theorem dX5_readNumber_3 : decode cX5_readNumber 3 = .ok (.istore_n 2, 1) := by decide +kernel
theorem dX5_readNumber_4 : decode cX5_readNumber 4 = .ok (.iload_n 2, 1) := by decide +kernel
theorem dX5_readNumber_5 : decode cX5_readNumber 5 = .ok (.iconst 4, 1) := by decide +kernel
theorem dX5_readNumber_6 : decode cX5_readNumber 6 = .ok (.if_icmp .ge 36, 3) := by decide +kernel
theorem dX5_readNumber_9 : decode cX5_readNumber 9 = .ok (.aload_n 0, 1) := by decide +kernel
theorem dX5_readNumber_10 : decode cX5_readNumber 10 = .ok (.invokevirtual 100, 3) := by decide +kernel
theorem dX5_readNumber_13 : decode cX5_readNumber 13 = .ok (.invokestatic 86, 3) := by decide +kernel
theorem dX5_readNumber_16 : decode cX5_readNumber 16 = .ok (.ifCond .eq 26, 3) := by decide +kernel
theorem dX5_readNumber_19 : decode cX5_readNumber 19 = .ok (.bipush 10, 2) := by decide +kernel
theorem dX5_readNumber_21 : decode cX5_readNumber 21 = .ok (.iload_n 1, 1) := by decide +kernel
theorem dX5_readNumber_22 : decode cX5_readNumber 22 = .ok (.imul, 1) := by decide +kernel
theorem dX5_readNumber_23 : decode cX5_readNumber 23 = .ok (.aload_n 0, 1) := by decide +kernel
theorem dX5_readNumber_24 : decode cX5_readNumber 24 = .ok (.invokevirtual 100, 3) := by decide +kernel
theorem dX5_readNumber_27 : decode cX5_readNumber 27 = .ok (.iadd, 1) := by decide +kernel
theorem dX5_readNumber_28 : decode cX5_readNumber 28 = .ok (.bipush 48, 2) := by decide +kernel
theorem dX5_readNumber_30 : decode cX5_readNumber 30 = .ok (.isub, 1) := by decide +kernel
theorem dX5_readNumber_31 : decode cX5_readNumber 31 = .ok (.istore_n 1, 1) := by decide +kernel
theorem dX5_readNumber_32 : decode cX5_readNumber 32 = .ok (.aload_n 0, 1) := by decide +kernel
theorem dX5_readNumber_33 : decode cX5_readNumber 33 = .ok (.invokevirtual 74, 3) := by decide +kernel
theorem dX5_readNumber_36 : decode cX5_readNumber 36 = .ok (.iinc 2 1, 3) := by decide +kernel
theorem dX5_readNumber_39 : decode cX5_readNumber 39 = .ok (.goto (-35), 3) := by decide +kernel
theorem dX5_readNumber_42 : decode cX5_readNumber 42 = .ok (.aload_n 0, 1) := by decide +kernel
theorem dX5_readNumber_43 : decode cX5_readNumber 43 = .ok (.bipush 48, 2) := by decide +kernel
theorem dX5_readNumber_45 : decode cX5_readNumber 45 = .ok (.iload_n 1, 1) := by decide +kernel
theorem dX5_readNumber_46 : decode cX5_readNumber 46 = .ok (.invokevirtual 57, 3) := by decide +kernel
theorem dX5_readNumber_49 : decode cX5_readNumber 49 = .ok (.aload_n 0, 1) := by decide +kernel
theorem dX5_readNumber_50 : decode cX5_readNumber 50 = .ok (.invokevirtual 100, 3) := by decide +kernel
theorem dX5_readNumber_53 : decode cX5_readNumber 53 = .ok (.invokestatic 86, 3) := by decide +kernel
theorem dX5_readNumber_56 : decode cX5_readNumber 56 = .ok (.ifCond .ne 7, 3) := by decide +kernel
theorem dX5_readNumber_59 : decode cX5_readNumber 59 = .ok (.iconst 1, 1) := by decide +kernel
theorem dX5_readNumber_60 : decode cX5_readNumber 60 = .ok (.goto 4, 3) := by decide +kernel
theorem dX5_readNumber_63 : decode cX5_readNumber 63 = .ok (.iconst 0, 1) := by decide +kernel
theorem dX5_readNumber_64 : decode cX5_readNumber 64 = .ok (.ireturn, 1) := by decide +kernel
set_option maxRecDepth 100000 in
theorem u_X5_readNumber_4 {x : sm_Cx} {n : Nat} {F : Bool → sm_MI → sm_ML → Prop} {T : List sm_Sh} {I : sm_MI} {L : sm_ML} {a1 : Int32} {a2 : Int32} (hB : sm_Bs T) (hx : sm_Ok x mX5_readNumber (n + 1) (sm_KZ T F))
    (h : (4 ≤ a2 → sm_CV n mX5_write T I L [.ref 18, .int 48, .int a1] (fun I1 L1 => sm_CI n mX2_signHere T I1 L1 [.ref 18] (fun r3 I2 L2 => sm_CZ n mX5_isDigit T I2 L2 [.int r3] (fun r5 I4 L4 => (r5 = true → F false I4 L4) ∧ (r5 = false → F true I4 L4))))) ∧ (¬ 4 ≤ a2 → sm_CI n mX2_signHere T I L [.ref 18] (fun r7 I6 L6 => sm_CZ n mX5_isDigit T I6 L6 [.int r7] (fun r9 I8 L8 => (r9 = false → sm_CV n mX5_write T I8 L8 [.ref 18, .int 48, .int a1] (fun I10 L10 => sm_CI n mX2_signHere T I10 L10 [.ref 18] (fun r12 I11 L11 => sm_CZ n mX5_isDigit T I11 L11 [.int r12] (fun r14 I13 L13 => (r14 = true → F false I13 L13) ∧ (r14 = false → F true I13 L13))))) ∧ (r9 = true → sm_CI n mX2_signHere T I8 L8 [.ref 18] (fun r16 I15 L15 => sm_CV n mX2_goOn T I15 L15 [.ref 18] (fun I17 L17 => sm_V x 0 0 T I17 L17 4 [some (.ref 18), some (.int (((10 * a1) + r16) - 48)), some (.int (a2 + 1))] []))))))) :
    sm_V x 0 0 T I L 4 [some (.ref 18), some (.int a1), some (.int a2)] [] :=
  sm_iload_n (z := a2) hx dX5_readNumber_4 rfl (sm_iconst (v := 4) hx dX5_readNumber_5 sm_kc_4 (sm_icmpge (a := a2) (b := 4) hx dX5_readNumber_6 (tgt := 42) (by decide) (fun q4 => sm_aload_n (z := 18) hx dX5_readNumber_42 rfl (sm_bipush (v := 48) hx dX5_readNumber_43 sm_kb_48 (sm_iload_n (z := a1) hx dX5_readNumber_45 rfl (sm_callVV (args := [.int 48, .int a1]) (st := []) hx dX5_readNumber_46 lv_X5_57_5 rfl rfl (t_18 hB) rfl rfl (h.1 q4) (fun I1 L1 hI1 => sm_aload_n (z := 18) hx dX5_readNumber_49 rfl (sm_callUI (args := []) (st := []) hx dX5_readNumber_50 lu_X5_100_5 rfl rfl (t_18 hB) rfl rfl hI1 (fun r3 I2 L2 hI2 => sm_callSZ (args := [.int r3]) (st := []) hx dX5_readNumber_53 ls_X5_86 rfl rfl rfl hI2 (fun r5 I4 L4 hI4 => sm_ifneZ (b := r5) hx dX5_readNumber_56 (tgt := 63) (by decide) (fun q1 => sm_iconst (v := 0) hx dX5_readNumber_63 sm_kc_0 (sm_iretZ (z := false) hx dX5_readNumber_64 rfl (hI4.1 q1))) (fun q1 => sm_iconst (v := 1) hx dX5_readNumber_59 sm_kc_1 (sm_goto hx dX5_readNumber_60 (tgt := 64) (by decide) (sm_iretZ (z := true) hx dX5_readNumber_64 rfl (hI4.2 q1)))))))))))) (fun q4 => sm_aload_n (z := 18) hx dX5_readNumber_9 rfl (sm_callUI (args := []) (st := []) hx dX5_readNumber_10 lu_X5_100_5 rfl rfl (t_18 hB) rfl rfl (h.2 q4) (fun r7 I6 L6 hI6 => sm_callSZ (args := [.int r7]) (st := []) hx dX5_readNumber_13 ls_X5_86 rfl rfl rfl hI6 (fun r9 I8 L8 hI8 => sm_ifeqZ (b := r9) hx dX5_readNumber_16 (tgt := 42) (by decide) (fun q3 => sm_aload_n (z := 18) hx dX5_readNumber_42 rfl (sm_bipush (v := 48) hx dX5_readNumber_43 sm_kb_48 (sm_iload_n (z := a1) hx dX5_readNumber_45 rfl (sm_callVV (args := [.int 48, .int a1]) (st := []) hx dX5_readNumber_46 lv_X5_57_5 rfl rfl (t_18 hB) rfl rfl (hI8.1 q3) (fun I10 L10 hI10 => sm_aload_n (z := 18) hx dX5_readNumber_49 rfl (sm_callUI (args := []) (st := []) hx dX5_readNumber_50 lu_X5_100_5 rfl rfl (t_18 hB) rfl rfl hI10 (fun r12 I11 L11 hI11 => sm_callSZ (args := [.int r12]) (st := []) hx dX5_readNumber_53 ls_X5_86 rfl rfl rfl hI11 (fun r14 I13 L13 hI13 => sm_ifneZ (b := r14) hx dX5_readNumber_56 (tgt := 63) (by decide) (fun q2 => sm_iconst (v := 0) hx dX5_readNumber_63 sm_kc_0 (sm_iretZ (z := false) hx dX5_readNumber_64 rfl (hI13.1 q2))) (fun q2 => sm_iconst (v := 1) hx dX5_readNumber_59 sm_kc_1 (sm_goto hx dX5_readNumber_60 (tgt := 64) (by decide) (sm_iretZ (z := true) hx dX5_readNumber_64 rfl (hI13.2 q2)))))))))))) (fun q3 => sm_bipush (v := 10) hx dX5_readNumber_19 sm_kb_10 (sm_iload_n (z := a1) hx dX5_readNumber_21 rfl (sm_imul (a := 10) (b := a1) hx dX5_readNumber_22 (sm_aload_n (z := 18) hx dX5_readNumber_23 rfl (sm_callUI (args := []) (st := [.int (10 * a1)]) hx dX5_readNumber_24 lu_X5_100_5 rfl rfl (t_18 hB) rfl rfl (hI8.2 q3) (fun r16 I15 L15 hI15 => sm_iadd (a := (10 * a1)) (b := r16) hx dX5_readNumber_27 (sm_bipush (v := 48) hx dX5_readNumber_28 sm_kb_48 (sm_isub (a := ((10 * a1) + r16)) (b := 48) hx dX5_readNumber_30 (sm_istore_n (ls' := [some (.ref 18), some (.int (((10 * a1) + r16) - 48)), some (.int a2)]) hx dX5_readNumber_31 (by decide) rfl (sm_aload_n (z := 18) hx dX5_readNumber_32 rfl (sm_callUV (args := []) (st := []) hx dX5_readNumber_33 lu_X5_74_5 rfl rfl (t_18 hB) rfl rfl hI15 (fun I17 L17 hI17 => sm_iinc (ls' := [some (.ref 18), some (.int (((10 * a1) + r16) - 48)), some (.int (a2 + 1))]) (z := a2) (v := (a2 + 1)) hx dX5_readNumber_36 rfl (sm_kii_1 _) (by decide) rfl (sm_goto hx dX5_readNumber_39 (tgt := 4) (by decide) (hI17))))))))))))))))))))
set_option maxRecDepth 100000 in
theorem c_X5_readNumber {n : Nat} {F : Bool → sm_MI → sm_ML → Prop} {T : List sm_Sh} {I : sm_MI} {L : sm_ML}  (hB : sm_Bs T)
    (h : ∀ x : sm_Cx, sm_Ok x mX5_readNumber (n + 1) (sm_KZ T F) → sm_V x 0 0 T I L 4 [some (.ref 18), some (.int 0), some (.int 0)] []) :
    sm_CZ (n + 1) mX5_readNumber T I L [.ref 18] F :=
  sm_CZ.of (by decide +kernel) rfl (fun x hx => show sm_V x 0 0 T I L 0 [some (.ref 18), none, none] [] from
  sm_iconst (v := 0) hx dX5_readNumber_0 sm_kc_0 (sm_istore_n (ls' := [some (.ref 18), some (.int 0), none]) hx dX5_readNumber_1 (by decide) rfl (sm_iconst (v := 0) hx dX5_readNumber_2 sm_kc_0 (sm_istore_n (ls' := [some (.ref 18), some (.int 0), some (.int 0)]) hx dX5_readNumber_3 (by decide) rfl ((h x hx))))))
theorem dX5_write_0 : decode cX5_write 0 = .ok (.aload_n 0, 1) := by decide +kernel
theorem dX5_write_1 : decode cX5_write 1 = .ok (.getfield 14, 3) := by decide +kernel
theorem dX5_write_4 : decode cX5_write 4 = .ok (.aload_n 0, 1) := by decide +kernel
theorem dX5_write_5 : decode cX5_write 5 = .ok (.getfield 23, 3) := by decide +kernel
theorem dX5_write_8 : decode cX5_write 8 = .ok (.iload_n 1, 1) := by decide +kernel
theorem dX5_write_9 : decode cX5_write 9 = .ok (.invokevirtual 65, 3) := by decide +kernel
theorem dX5_write_12 : decode cX5_write 12 = .ok (.aload_n 0, 1) := by decide +kernel
theorem dX5_write_13 : decode cX5_write 13 = .ok (.getfield 20, 3) := by decide +kernel
theorem dX5_write_16 : decode cX5_write 16 = .ok (.aload_n 0, 1) := by decide +kernel
theorem dX5_write_17 : decode cX5_write 17 = .ok (.getfield 23, 3) := by decide +kernel
theorem dX5_write_20 : decode cX5_write 20 = .ok (.iload_n 2, 1) := by decide +kernel
theorem dX5_write_21 : decode cX5_write 21 = .ok (.invokevirtual 65, 3) := by decide +kernel
theorem dX5_write_24 : decode cX5_write 24 = .ok (.aload_n 0, 1) := by decide +kernel
theorem dX5_write_25 : decode cX5_write 25 = .ok (.dup, 1) := by decide +kernel
theorem dX5_write_26 : decode cX5_write 26 = .ok (.getfield 23, 3) := by decide +kernel
theorem dX5_write_29 : decode cX5_write 29 = .ok (.iconst 1, 1) := by decide +kernel
theorem dX5_write_30 : decode cX5_write 30 = .ok (.iadd, 1) := by decide +kernel
theorem dX5_write_31 : decode cX5_write 31 = .ok (.putfield 23, 3) := by decide +kernel
theorem dX5_write_34 : decode cX5_write 34 = .ok (.return_, 1) := by decide +kernel
set_option maxRecDepth 100000 in
theorem c_X5_write {n : Nat} {F : sm_MI → sm_ML → Prop} {T : List sm_Sh} {I : sm_MI} {L : sm_ML} {a1 : Int32} {a2 : Int32} (hB : sm_Bs T)
    (h : sm_CV n mX3_set T I L [.ref 19, .int (I 18 4), .int a1] (fun I1 L1 => sm_CV n mX3_set T I1 L1 [.ref 21, .int (I1 18 4), .int a2] (fun I2 L2 => F (sm_uI I2 18 4 ((I2 18 4) + 1)) L2))) :
    sm_CV (n + 1) mX5_write T I L [.ref 18, .int a1, .int a2] F :=
  sm_CV.of (by decide +kernel) rfl (fun x hx => show sm_V x 0 0 T I L 0 [some (.ref 18), some (.int a1), some (.int a2)] [] from
  sm_aload_n (z := 18) hx dX5_write_0 rfl (sm_getR hx dX5_write_1 fl_X5_14_5 (t_18 hB) rfl (sm_aload_n (z := 18) hx dX5_write_4 rfl (sm_getI hx dX5_write_5 fl_X5_23_5 (t_18 hB) rfl (sm_iload_n (z := a1) hx dX5_write_8 rfl (sm_callVV (args := [.int (I 18 4), .int a1]) (st := []) hx dX5_write_9 lv_X5_65_3 rfl rfl (t_19 hB) rfl rfl h (fun I1 L1 hI1 => sm_aload_n (z := 18) hx dX5_write_12 rfl (sm_getR hx dX5_write_13 fl_X5_20_5 (t_18 hB) rfl (sm_aload_n (z := 18) hx dX5_write_16 rfl (sm_getI hx dX5_write_17 fl_X5_23_5 (t_18 hB) rfl (sm_iload_n (z := a2) hx dX5_write_20 rfl (sm_callVV (args := [.int (I1 18 4), .int a2]) (st := []) hx dX5_write_21 lv_X5_65_3 rfl rfl (t_21 hB) rfl rfl hI1 (fun I2 L2 hI2 => sm_aload_n (z := 18) hx dX5_write_24 rfl (sm_dup hx dX5_write_25 rfl (sm_getI hx dX5_write_26 fl_X5_23_5 (t_18 hB) rfl (sm_iconst (v := 1) hx dX5_write_29 sm_kc_1 (sm_iadd (a := (I2 18 4)) (b := 1) hx dX5_write_30 (sm_putI hx dX5_write_31 fl_X5_23_5 (t_18 hB) rfl (sm_vretV hx dX5_write_34 rfl hI2)))))))))))))))))))
theorem dX5_isDigit_0 : decode cX5_isDigit 0 = .ok (.iload_n 0, 1) := by decide +kernel
theorem dX5_isDigit_1 : decode cX5_isDigit 1 = .ok (.bipush 48, 2) := by decide +kernel
theorem dX5_isDigit_3 : decode cX5_isDigit 3 = .ok (.if_icmp .lt 13, 3) := by decide +kernel
theorem dX5_isDigit_6 : decode cX5_isDigit 6 = .ok (.iload_n 0, 1) := by decide +kernel
theorem dX5_isDigit_7 : decode cX5_isDigit 7 = .ok (.bipush 57, 2) := by decide +kernel
theorem dX5_isDigit_9 : decode cX5_isDigit 9 = .ok (.if_icmp .gt 7, 3) := by decide +kernel
theorem dX5_isDigit_12 : decode cX5_isDigit 12 = .ok (.iconst 1, 1) := by decide +kernel
theorem dX5_isDigit_13 : decode cX5_isDigit 13 = .ok (.goto 4, 3) := by decide +kernel
theorem dX5_isDigit_16 : decode cX5_isDigit 16 = .ok (.iconst 0, 1) := by decide +kernel
theorem dX5_isDigit_17 : decode cX5_isDigit 17 = .ok (.ireturn, 1) := by decide +kernel
set_option maxRecDepth 100000 in
theorem c_X5_isDigit {n : Nat} {F : Bool → sm_MI → sm_ML → Prop} {T : List sm_Sh} {I : sm_MI} {L : sm_ML} {a0 : Int32} (hB : sm_Bs T)
    (h : (a0 < 48 → F false I L) ∧ (¬ a0 < 48 → (57 < a0 → F false I L) ∧ (¬ 57 < a0 → F true I L))) :
    sm_CZ n mX5_isDigit T I L [.int a0] F :=
  sm_CZ.of (by decide +kernel) rfl (fun x hx => show sm_V x 0 0 T I L 0 [some (.int a0)] [] from
  sm_iload_n (z := a0) hx dX5_isDigit_0 rfl (sm_bipush (v := 48) hx dX5_isDigit_1 sm_kb_48 (sm_icmplt (a := a0) (b := 48) hx dX5_isDigit_3 (tgt := 16) (by decide) (fun q2 => sm_iconst (v := 0) hx dX5_isDigit_16 sm_kc_0 (sm_iretZ (z := false) hx dX5_isDigit_17 rfl (h.1 q2))) (fun q2 => sm_iload_n (z := a0) hx dX5_isDigit_6 rfl (sm_bipush (v := 57) hx dX5_isDigit_7 sm_kb_57 (sm_icmpgt (a := a0) (b := 57) hx dX5_isDigit_9 (tgt := 16) (by decide) (fun q1 => sm_iconst (v := 0) hx dX5_isDigit_16 sm_kc_0 (sm_iretZ (z := false) hx dX5_isDigit_17 rfl ((h.2 q2).1 q1))) (fun q1 => sm_iconst (v := 1) hx dX5_isDigit_12 sm_kc_1 (sm_goto hx dX5_isDigit_13 (tgt := 17) (by decide) (sm_iretZ (z := true) hx dX5_isDigit_17 rfl ((h.2 q2).2 q1))))))))))
theorem dX5_isRelation_0 : decode cX5_isRelation 0 = .ok (.iload_n 0, 1) := by decide +kernel
theorem dX5_isRelation_1 : decode cX5_isRelation 1 = .ok (.bipush 61, 2) := by decide +kernel
theorem dX5_isRelation_3 : decode cX5_isRelation 3 = .ok (.if_icmp .eq 15, 3) := by decide +kernel
theorem dX5_isRelation_6 : decode cX5_isRelation 6 = .ok (.iload_n 0, 1) := by decide +kernel
theorem dX5_isRelation_7 : decode cX5_isRelation 7 = .ok (.bipush 60, 2) := by decide +kernel
theorem dX5_isRelation_9 : decode cX5_isRelation 9 = .ok (.if_icmp .eq 9, 3) := by decide +kernel
theorem dX5_isRelation_12 : decode cX5_isRelation 12 = .ok (.iload_n 0, 1) := by decide +kernel
theorem dX5_isRelation_13 : decode cX5_isRelation 13 = .ok (.bipush 62, 2) := by decide +kernel
theorem dX5_isRelation_15 : decode cX5_isRelation 15 = .ok (.if_icmp .ne 7, 3) := by decide +kernel
theorem dX5_isRelation_18 : decode cX5_isRelation 18 = .ok (.iconst 1, 1) := by decide +kernel
theorem dX5_isRelation_19 : decode cX5_isRelation 19 = .ok (.goto 4, 3) := by decide +kernel
theorem dX5_isRelation_22 : decode cX5_isRelation 22 = .ok (.iconst 0, 1) := by decide +kernel
theorem dX5_isRelation_23 : decode cX5_isRelation 23 = .ok (.ireturn, 1) := by decide +kernel
set_option maxRecDepth 100000 in
theorem c_X5_isRelation {n : Nat} {F : Bool → sm_MI → sm_ML → Prop} {T : List sm_Sh} {I : sm_MI} {L : sm_ML} {a0 : Int32} (hB : sm_Bs T)
    (h : (a0 = 61 → F true I L) ∧ (¬ a0 = 61 → (a0 = 60 → F true I L) ∧ (¬ a0 = 60 → (¬ a0 = 62 → F false I L) ∧ (a0 = 62 → F true I L)))) :
    sm_CZ n mX5_isRelation T I L [.int a0] F :=
  sm_CZ.of (by decide +kernel) rfl (fun x hx => show sm_V x 0 0 T I L 0 [some (.int a0)] [] from
  sm_iload_n (z := a0) hx dX5_isRelation_0 rfl (sm_bipush (v := 61) hx dX5_isRelation_1 sm_kb_61 (sm_icmpeq (a := a0) (b := 61) hx dX5_isRelation_3 (tgt := 18) (by decide) (fun q3 => sm_iconst (v := 1) hx dX5_isRelation_18 sm_kc_1 (sm_goto hx dX5_isRelation_19 (tgt := 23) (by decide) (sm_iretZ (z := true) hx dX5_isRelation_23 rfl (h.1 q3)))) (fun q3 => sm_iload_n (z := a0) hx dX5_isRelation_6 rfl (sm_bipush (v := 60) hx dX5_isRelation_7 sm_kb_60 (sm_icmpeq (a := a0) (b := 60) hx dX5_isRelation_9 (tgt := 18) (by decide) (fun q2 => sm_iconst (v := 1) hx dX5_isRelation_18 sm_kc_1 (sm_goto hx dX5_isRelation_19 (tgt := 23) (by decide) (sm_iretZ (z := true) hx dX5_isRelation_23 rfl ((h.2 q3).1 q2)))) (fun q2 => sm_iload_n (z := a0) hx dX5_isRelation_12 rfl (sm_bipush (v := 62) hx dX5_isRelation_13 sm_kb_62 (sm_icmpne (a := a0) (b := 62) hx dX5_isRelation_15 (tgt := 22) (by decide) (fun q1 => sm_iconst (v := 0) hx dX5_isRelation_22 sm_kc_0 (sm_iretZ (z := false) hx dX5_isRelation_23 rfl (((h.2 q3).2 q2).1 q1))) (fun q1 => sm_iconst (v := 1) hx dX5_isRelation_18 sm_kc_1 (sm_goto hx dX5_isRelation_19 (tgt := 23) (by decide) (sm_iretZ (z := true) hx dX5_isRelation_23 rfl (((h.2 q3).2 q2).2 q1)))))))))))))
theorem dX6_forget_0 : decode cX6_forget 0 = .ok (.aload_n 0, 1) := by decide +kernel
theorem dX6_forget_1 : decode cX6_forget 1 = .ok (.iconst 0, 1) := by decide +kernel
theorem dX6_forget_2 : decode cX6_forget 2 = .ok (.putfield 29, 3) := by decide +kernel
theorem dX6_forget_5 : decode cX6_forget 5 = .ok (.aload_n 0, 1) := by decide +kernel
theorem dX6_forget_6 : decode cX6_forget 6 = .ok (.iconst 0, 1) := by decide +kernel
theorem dX6_forget_7 : decode cX6_forget 7 = .ok (.putfield 33, 3) := by decide +kernel
theorem dX6_forget_10 : decode cX6_forget 10 = .ok (.return_, 1) := by decide +kernel
set_option maxRecDepth 100000 in
theorem c_X6_forget {n : Nat} {F : sm_MI → sm_ML → Prop} {T : List sm_Sh} {I : sm_MI} {L : sm_ML}  (hB : sm_Bs T)
    (h : F (sm_uI (sm_uI I 44 4 0) 44 5 0) L) :
    sm_CV n mX6_forget T I L [.ref 44] F :=
  sm_CV.of (by decide +kernel) rfl (fun x hx => show sm_V x 0 0 T I L 0 [some (.ref 44)] [] from
  sm_aload_n (z := 44) hx dX6_forget_0 rfl (sm_iconst (v := 0) hx dX6_forget_1 sm_kc_0 (sm_putI hx dX6_forget_2 fl_X6_29_6 (t_44 hB) rfl (sm_aload_n (z := 44) hx dX6_forget_5 rfl (sm_iconst (v := 0) hx dX6_forget_6 sm_kc_0 (sm_putI hx dX6_forget_7 fl_X6_33_6 (t_44 hB) rfl (sm_vretV hx dX6_forget_10 rfl h)))))))
theorem dX6_add_0 : decode cX6_add 0 = .ok (.aload_n 0, 1) := by decide +kernel
theorem dX6_add_1 : decode cX6_add 1 = .ok (.getfield 14, 3) := by decide +kernel
theorem dX6_add_4 : decode cX6_add 4 = .ok (.aload_n 0, 1) := by decide +kernel
theorem dX6_add_5 : decode cX6_add 5 = .ok (.getfield 29, 3) := by decide +kernel
theorem dX6_add_8 : decode cX6_add 8 = .ok (.iload_n 1, 1) := by decide +kernel
theorem dX6_add_9 : decode cX6_add 9 = .ok (.invokevirtual 36, 3) := by decide +kernel
theorem dX6_add_12 : decode cX6_add 12 = .ok (.aload_n 0, 1) := by decide +kernel
theorem dX6_add_13 : decode cX6_add 13 = .ok (.getfield 20, 3) := by decide +kernel
theorem dX6_add_16 : decode cX6_add 16 = .ok (.aload_n 0, 1) := by decide +kernel
theorem dX6_add_17 : decode cX6_add 17 = .ok (.getfield 29, 3) := by decide +kernel
theorem dX6_add_20 : decode cX6_add 20 = .ok (.iload_n 2, 1) := by decide +kernel
theorem dX6_add_21 : decode cX6_add 21 = .ok (.invokevirtual 36, 3) := by decide +kernel
theorem dX6_add_24 : decode cX6_add 24 = .ok (.aload_n 0, 1) := by decide +kernel
theorem dX6_add_25 : decode cX6_add 25 = .ok (.getfield 23, 3) := by decide +kernel
theorem dX6_add_28 : decode cX6_add 28 = .ok (.aload_n 0, 1) := by decide +kernel
theorem dX6_add_29 : decode cX6_add 29 = .ok (.getfield 29, 3) := by decide +kernel
theorem dX6_add_32 : decode cX6_add 32 = .ok (.iload_n 3, 1) := by decide +kernel
theorem dX6_add_33 : decode cX6_add 33 = .ok (.invokevirtual 36, 3) := by decide +kernel
theorem dX6_add_36 : decode cX6_add 36 = .ok (.aload_n 0, 1) := by decide +kernel
theorem dX6_add_37 : decode cX6_add 37 = .ok (.getfield 26, 3) := by decide +kernel
theorem dX6_add_40 : decode cX6_add 40 = .ok (.aload_n 0, 1) := by decide +kernel
theorem dX6_add_41 : decode cX6_add 41 = .ok (.getfield 29, 3) := by decide +kernel
theorem dX6_add_44 : decode cX6_add 44 = .ok (.iload 4, 2) := by decide +kernel
theorem dX6_add_46 : decode cX6_add 46 = .ok (.ifCond .eq 7, 3) := by decide +kernel
theorem dX6_add_49 : decode cX6_add 49 = .ok (.iconst 1, 1) := by decide +kernel
theorem dX6_add_50 : decode cX6_add 50 = .ok (.goto 4, 3) := by decide +kernel
theorem dX6_add_53 : decode cX6_add 53 = .ok (.iconst 0, 1) := by decide +kernel
theorem dX6_add_54 : decode cX6_add 54 = .ok (.invokevirtual 36, 3) := by decide +kernel
theorem dX6_add_57 : decode cX6_add 57 = .ok (.aload_n 0, 1) := by decide +kernel
theorem dX6_add_58 : decode cX6_add 58 = .ok (.dup, 1) := by decide +kernel
theorem dX6_add_59 : decode cX6_add 59 = .ok (.getfield 29, 3) := by decide +kernel
theorem dX6_add_62 : decode cX6_add 62 = .ok (.iconst 1, 1) := by decide +kernel
theorem dX6_add_63 : decode cX6_add 63 = .ok (.iadd, 1) := by decide +kernel
theorem dX6_add_64 : decode cX6_add 64 = .ok (.putfield 29, 3) := by decide +kernel
theorem dX6_add_67 : decode cX6_add 67 = .ok (.aload_n 0, 1) := by decide +kernel
theorem dX6_add_68 : decode cX6_add 68 = .ok (.aload_n 0, 1) := by decide +kernel
theorem dX6_add_69 : decode cX6_add 69 = .ok (.getfield 33, 3) := by decide +kernel
theorem dX6_add_72 : decode cX6_add 72 = .ok (.iload_n 2, 1) := by decide +kernel
theorem dX6_add_73 : decode cX6_add 73 = .ok (.invokestatic 40, 3) := by decide +kernel
theorem dX6_add_76 : decode cX6_add 76 = .ok (.putfield 33, 3) := by decide +kernel
theorem dX6_add_79 : decode cX6_add 79 = .ok (.return_, 1) := by decide +kernel
set_option maxRecDepth 100000 in
theorem c_X6_add {n : Nat} {F : sm_MI → sm_ML → Prop} {T : List sm_Sh} {I : sm_MI} {L : sm_ML} {a1 : Int32} {a2 : Int32} {a3 : Int32} {b4 : Bool} (hB : sm_Bs T)
    (h : sm_CV n mX3_set T I L [.ref 45, .int (I 44 4), .int a1] (fun I1 L1 => sm_CV n mX3_set T I1 L1 [.ref 47, .int (I1 44 4), .int a2] (fun I2 L2 => sm_CV n mX3_set T I2 L2 [.ref 49, .int (I2 44 4), .int a3] (fun I3 L3 => (b4 = false → sm_CV n mX3_set T I3 L3 [.ref 51, .int (I3 44 4), .int 0] (fun I4 L4 => ∀ I5 : sm_MI, I5 = (sm_uI I4 44 4 ((I4 44 4) + 1)) → F (sm_uI I5 44 5 (if (I5 44 5) < a2 then a2 else (I5 44 5))) L4)) ∧ (b4 = true → sm_CV n mX3_set T I3 L3 [.ref 51, .int (I3 44 4), .int 1] (fun I6 L6 => ∀ I7 : sm_MI, I7 = (sm_uI I6 44 4 ((I6 44 4) + 1)) → F (sm_uI I7 44 5 (if (I7 44 5) < a2 then a2 else (I7 44 5))) L6)))))) :
    sm_CV (n + 1) mX6_add T I L [.ref 44, .int a1, .int a2, .int a3, .int (sm_z b4)] F :=
  sm_CV.of (by decide +kernel) rfl (fun x hx => show sm_V x 0 0 T I L 0 [some (.ref 44), some (.int a1), some (.int a2), some (.int a3), some (.int (sm_z b4))] [] from
  sm_aload_n (z := 44) hx dX6_add_0 rfl (sm_getR hx dX6_add_1 fl_X6_14_6 (t_44 hB) rfl (sm_aload_n (z := 44) hx dX6_add_4 rfl (sm_getI hx dX6_add_5 fl_X6_29_6 (t_44 hB) rfl (sm_iload_n (z := a1) hx dX6_add_8 rfl (sm_callVV (args := [.int (I 44 4), .int a1]) (st := []) hx dX6_add_9 lv_X6_36_3 rfl rfl (t_45 hB) rfl rfl h (fun I1 L1 hI1 => sm_aload_n (z := 44) hx dX6_add_12 rfl (sm_getR hx dX6_add_13 fl_X6_20_6 (t_44 hB) rfl (sm_aload_n (z := 44) hx dX6_add_16 rfl (sm_getI hx dX6_add_17 fl_X6_29_6 (t_44 hB) rfl (sm_iload_n (z := a2) hx dX6_add_20 rfl (sm_callVV (args := [.int (I1 44 4), .int a2]) (st := []) hx dX6_add_21 lv_X6_36_3 rfl rfl (t_47 hB) rfl rfl hI1 (fun I2 L2 hI2 => sm_aload_n (z := 44) hx dX6_add_24 rfl (sm_getR hx dX6_add_25 fl_X6_23_6 (t_44 hB) rfl (sm_aload_n (z := 44) hx dX6_add_28 rfl (sm_getI hx dX6_add_29 fl_X6_29_6 (t_44 hB) rfl (sm_iload_n (z := a3) hx dX6_add_32 rfl (sm_callVV (args := [.int (I2 44 4), .int a3]) (st := []) hx dX6_add_33 lv_X6_36_3 rfl rfl (t_49 hB) rfl rfl hI2 (fun I3 L3 hI3 => sm_aload_n (z := 44) hx dX6_add_36 rfl (sm_getR hx dX6_add_37 fl_X6_26_6 (t_44 hB) rfl (sm_aload_n (z := 44) hx dX6_add_40 rfl (sm_getI hx dX6_add_41 fl_X6_29_6 (t_44 hB) rfl (sm_iload (z := (sm_z b4)) hx dX6_add_44 rfl (sm_ifeqZ (b := b4) hx dX6_add_46 (tgt := 53) (by decide) (fun q1 => sm_iconst (v := 0) hx dX6_add_53 sm_kc_0 (sm_callVV (args := [.int (I3 44 4), .int 0]) (st := []) hx dX6_add_54 lv_X6_36_3 rfl rfl (t_51 hB) rfl rfl (hI3.1 q1) (fun I4 L4 hI4 => sm_aload_n (z := 44) hx dX6_add_57 rfl (sm_dup hx dX6_add_58 rfl (sm_getI hx dX6_add_59 fl_X6_29_6 (t_44 hB) rfl (sm_iconst (v := 1) hx dX6_add_62 sm_kc_1 (sm_iadd (a := (I4 44 4)) (b := 1) hx dX6_add_63 (sm_putI hx dX6_add_64 fl_X6_29_6 (t_44 hB) rfl (sm_aload_n (z := 44) hx dX6_add_67 rfl (sm_aload_n (z := 44) hx dX6_add_68 rfl (sm_getI hx dX6_add_69 fl_X6_33_6 (t_44 hB) rfl (sm_iload_n (z := a2) hx dX6_add_72 rfl (sm_mmax (a := ((sm_uI I4 44 4 ((I4 44 4) + 1)) 44 5)) (b := a2) hx dX6_add_73 ml_X6_40 mm_max1 mm_2 mm_max3 rfl (sm_putI hx dX6_add_76 fl_X6_33_6 (t_44 hB) rfl (sm_vretV hx dX6_add_79 rfl (hI4 _ rfl)))))))))))))))) (fun q1 => sm_iconst (v := 1) hx dX6_add_49 sm_kc_1 (sm_goto hx dX6_add_50 (tgt := 54) (by decide) (sm_callVV (args := [.int (I3 44 4), .int 1]) (st := []) hx dX6_add_54 lv_X6_36_3 rfl rfl (t_51 hB) rfl rfl (hI3.2 q1) (fun I6 L6 hI6 => sm_aload_n (z := 44) hx dX6_add_57 rfl (sm_dup hx dX6_add_58 rfl (sm_getI hx dX6_add_59 fl_X6_29_6 (t_44 hB) rfl (sm_iconst (v := 1) hx dX6_add_62 sm_kc_1 (sm_iadd (a := (I6 44 4)) (b := 1) hx dX6_add_63 (sm_putI hx dX6_add_64 fl_X6_29_6 (t_44 hB) rfl (sm_aload_n (z := 44) hx dX6_add_67 rfl (sm_aload_n (z := 44) hx dX6_add_68 rfl (sm_getI hx dX6_add_69 fl_X6_33_6 (t_44 hB) rfl (sm_iload_n (z := a2) hx dX6_add_72 rfl (sm_mmax (a := ((sm_uI I6 44 4 ((I6 44 4) + 1)) 44 5)) (b := a2) hx dX6_add_73 ml_X6_40 mm_max1 mm_2 mm_max3 rfl (sm_putI hx dX6_add_76 fl_X6_33_6 (t_44 hB) rfl (sm_vretV hx dX6_add_79 rfl (hI6 _ rfl)))))))))))))))))))))))))))))))))))))))))
theorem dX6_allows_0 : decode cX6_allows 0 = .ok (.iconst 0, 1) := by decide +kernel
theorem dX6_allows_1 : decode cX6_allows 1 = .ok (.istore_n 3, 1) := by decide +kernel
theorem dX6_allows_2 : decode cX6_allows 2 = .ok (.iload_n 3, 1) := by decide +kernel
theorem dX6_allows_3 : decode cX6_allows 3 = .ok (.aload_n 0, 1) := by decide +kernel
theorem dX6_allows_4 : decode cX6_allows 4 = .ok (.getfield 29, 3) := by decide +kernel
theorem dX6_allows_7 : decode cX6_allows 7 = .ok (.if_icmp .ge 75, 3) := by decide +kernel
theorem dX6_allows_10 : decode cX6_allows 10 = .ok (.iload_n 2, 1) := by decide +kernel
theorem dX6_allows_11 : decode cX6_allows 11 = .ok (.aload_n 0, 1) := by decide +kernel
theorem dX6_allows_12 : decode cX6_allows 12 = .ok (.getfield 14, 3) := by decide +kernel
theorem dX6_allows_15 : decode cX6_allows 15 = .ok (.iload_n 3, 1) := by decide +kernel
theorem dX6_allows_16 : decode cX6_allows 16 = .ok (.invokevirtual 46, 3) := by decide +kernel
theorem dX6_allows_19 : decode cX6_allows 19 = .ok (.invokestatic 50, 3) := by decide +kernel
theorem dX6_allows_22 : decode cX6_allows 22 = .ok (.aload_n 0, 1) := by decide +kernel
theorem dX6_allows_23 : decode cX6_allows 23 = .ok (.getfield 23, 3) := by decide +kernel
theorem dX6_allows_26 : decode cX6_allows 26 = .ok (.iload_n 3, 1) := by decide +kernel
theorem dX6_allows_27 : decode cX6_allows 27 = .ok (.invokevirtual 46, 3) := by decide +kernel
theorem dX6_allows_30 : decode cX6_allows 30 = .ok (.if_icmp .ne 7, 3) := by decide +kernel
theorem dX6_allows_33 : decode cX6_allows 33 = .ok (.iconst 1, 1) := by decide +kernel
theorem dX6_allows_34 : decode cX6_allows 34 = .ok (.goto 4, 3) := by decide +kernel
theorem dX6_allows_37 : decode cX6_allows 37 = .ok (.iconst 0, 1) := by decide +kernel
theorem dX6_allows_38 : decode cX6_allows 38 = .ok (.istore 4, 2) := by decide +kernel
theorem dX6_allows_40 : decode cX6_allows 40 = .ok (.aload_n 0, 1) := by decide +kernel
theorem dX6_allows_41 : decode cX6_allows 41 = .ok (.getfield 20, 3) := by decide +kernel
theorem dX6_allows_44 : decode cX6_allows 44 = .ok (.iload_n 3, 1) := by decide +kernel
theorem dX6_allows_45 : decode cX6_allows 45 = .ok (.invokevirtual 46, 3) := by decide +kernel
theorem dX6_allows_48 : decode cX6_allows 48 = .ok (.iload_n 1, 1) := by decide +kernel
theorem dX6_allows_49 : decode cX6_allows 49 = .ok (.if_icmp .ne 27, 3) := by decide +kernel
theorem dX6_allows_52 : decode cX6_allows 52 = .ok (.iload 4, 2) := by decide +kernel
theorem dX6_allows_54 : decode cX6_allows 54 = .ok (.aload_n 0, 1) := by decide +kernel
theorem dX6_allows_55 : decode cX6_allows 55 = .ok (.getfield 26, 3) := by decide +kernel
theorem dX6_allows_58 : decode cX6_allows 58 = .ok (.iload_n 3, 1) := by decide +kernel
theorem dX6_allows_59 : decode cX6_allows 59 = .ok (.invokevirtual 46, 3) := by decide +kernel
theorem dX6_allows_62 : decode cX6_allows 62 = .ok (.iconst 1, 1) := by decide +kernel
theorem dX6_allows_63 : decode cX6_allows 63 = .ok (.if_icmp .ne 7, 3) := by decide +kernel
theorem dX6_allows_66 : decode cX6_allows 66 = .ok (.iconst 1, 1) := by decide +kernel
theorem dX6_allows_67 : decode cX6_allows 67 = .ok (.goto 4, 3) := by decide +kernel
theorem dX6_allows_70 : decode cX6_allows 70 = .ok (.iconst 0, 1) := by decide +kernel
theorem dX6_allows_71 : decode cX6_allows 71 = .ok (.if_icmp .eq 5, 3) := by decide +kernel
theorem dX6_allows_74 : decode cX6_allows 74 = .ok (.iconst 0, 1) := by decide +kernel
theorem dX6_allows_75 : decode cX6_allows 75 = .ok (.ireturn, 1) := by decide +kernel
theorem dX6_allows_76 : decode cX6_allows 76 = .ok (.iinc 3 1, 3) := by decide +kernel
theorem dX6_allows_79 : decode cX6_allows 79 = .ok (.goto (-77), 3) := by decide +kernel
theorem dX6_allows_82 : decode cX6_allows 82 = .ok (.iconst 1, 1) := by decide +kernel
theorem dX6_allows_83 : decode cX6_allows 83 = .ok (.ireturn, 1) := by decide +kernel
set_option maxRecDepth 100000 in
theorem u_X6_allows_2 {x : sm_Cx} {n : Nat} {F : Bool → sm_MI → sm_ML → Prop} {T : List sm_Sh} {I : sm_MI} {L : sm_ML} {a1 : Int32} {a2 : Int32} {a3 : Int32} {u4 : Option Value} (hB : sm_Bs T) (hx : sm_Ok x mX6_allows (n + 1) (sm_KZ T F))
    (h : ((I 44 4) ≤ a3 → F true I L) ∧ (¬ (I 44 4) ≤ a3 → sm_CI n mX3_at T I L [.ref 45, .int a3] (fun r2 I1 L1 => sm_CI n mX11_placeIn T I1 L1 [.int a2, .int r2] (fun r4 I3 L3 => sm_CI n mX3_at T I3 L3 [.ref 49, .int a3] (fun r6 I5 L5 => (¬ r4 = r6 → sm_CI n mX3_at T I5 L5 [.ref 47, .int a3] (fun r8 I7 L7 => (¬ r8 = a1 → sm_V x 0 0 T I7 L7 2 [some (.ref 44), some (.int a1), some (.int a2), some (.int (a3 + 1)), some (.int 0)] []) ∧ (r8 = a1 → sm_CI n mX3_at T I7 L7 [.ref 51, .int a3] (fun r10 I9 L9 => (¬ r10 = 1 → sm_V x 0 0 T I9 L9 2 [some (.ref 44), some (.int a1), some (.int a2), some (.int (a3 + 1)), some (.int 0)] []) ∧ (r10 = 1 → F false I9 L9))))) ∧ (r4 = r6 → sm_CI n mX3_at T I5 L5 [.ref 47, .int a3] (fun r12 I11 L11 => (¬ r12 = a1 → sm_V x 0 0 T I11 L11 2 [some (.ref 44), some (.int a1), some (.int a2), some (.int (a3 + 1)), some (.int 1)] []) ∧ (r12 = a1 → sm_CI n mX3_at T I11 L11 [.ref 51, .int a3] (fun r14 I13 L13 => (¬ r14 = 1 → F false I13 L13) ∧ (r14 = 1 → sm_V x 0 0 T I13 L13 2 [some (.ref 44), some (.int a1), some (.int a2), some (.int (a3 + 1)), some (.int 1)] [])))))))))) :
    sm_V x 0 0 T I L 2 [some (.ref 44), some (.int a1), some (.int a2), some (.int a3), u4] [] :=
  sm_iload_n (z := a3) hx dX6_allows_2 rfl (sm_aload_n (z := 44) hx dX6_allows_3 rfl (sm_getI hx dX6_allows_4 fl_X6_29_6 (t_44 hB) rfl (sm_icmpge (a := a3) (b := (I 44 4)) hx dX6_allows_7 (tgt := 82) (by decide) (fun q10 => sm_iconst (v := 1) hx dX6_allows_82 sm_kc_1 (sm_iretZ (z := true) hx dX6_allows_83 rfl (h.1 q10))) (fun q10 => sm_iload_n (z := a2) hx dX6_allows_10 rfl (sm_aload_n (z := 44) hx dX6_allows_11 rfl (sm_getR hx dX6_allows_12 fl_X6_14_6 (t_44 hB) rfl (sm_iload_n (z := a3) hx dX6_allows_15 rfl (sm_callVI (args := [.int a3]) (st := [.int a2]) hx dX6_allows_16 lv_X6_46_3 rfl rfl (t_45 hB) rfl rfl (h.2 q10) (fun r2 I1 L1 hI1 => sm_callSI (args := [.int a2, .int r2]) (st := []) hx dX6_allows_19 ls_X6_50 rfl rfl rfl hI1 (fun r4 I3 L3 hI3 => sm_aload_n (z := 44) hx dX6_allows_22 rfl (sm_getR hx dX6_allows_23 fl_X6_23_6 (t_44 hB) rfl (sm_iload_n (z := a3) hx dX6_allows_26 rfl (sm_callVI (args := [.int a3]) (st := [.int r4]) hx dX6_allows_27 lv_X6_46_3 rfl rfl (t_49 hB) rfl rfl hI3 (fun r6 I5 L5 hI5 => sm_icmpne (a := r4) (b := r6) hx dX6_allows_30 (tgt := 37) (by decide) (fun q9 => sm_iconst (v := 0) hx dX6_allows_37 sm_kc_0 (sm_istore (ls' := [some (.ref 44), some (.int a1), some (.int a2), some (.int a3), some (.int 0)]) hx dX6_allows_38 (by decide) rfl (sm_aload_n (z := 44) hx dX6_allows_40 rfl (sm_getR hx dX6_allows_41 fl_X6_20_6 (t_44 hB) rfl (sm_iload_n (z := a3) hx dX6_allows_44 rfl (sm_callVI (args := [.int a3]) (st := []) hx dX6_allows_45 lv_X6_46_3 rfl rfl (t_47 hB) rfl rfl (hI5.1 q9) (fun r8 I7 L7 hI7 => sm_iload_n (z := a1) hx dX6_allows_48 rfl (sm_icmpne (a := r8) (b := a1) hx dX6_allows_49 (tgt := 76) (by decide) (fun q4 => sm_iinc (ls' := [some (.ref 44), some (.int a1), some (.int a2), some (.int (a3 + 1)), some (.int 0)]) (z := a3) (v := (a3 + 1)) hx dX6_allows_76 rfl (sm_kii_1 _) (by decide) rfl (sm_goto hx dX6_allows_79 (tgt := 2) (by decide) ((hI7.1 q4)))) (fun q4 => sm_iload (z := 0) hx dX6_allows_52 rfl (sm_aload_n (z := 44) hx dX6_allows_54 rfl (sm_getR hx dX6_allows_55 fl_X6_26_6 (t_44 hB) rfl (sm_iload_n (z := a3) hx dX6_allows_58 rfl (sm_callVI (args := [.int a3]) (st := [.int 0]) hx dX6_allows_59 lv_X6_46_3 rfl rfl (t_51 hB) rfl rfl (hI7.2 q4) (fun r10 I9 L9 hI9 => sm_iconst (v := 1) hx dX6_allows_62 sm_kc_1 (sm_icmpne (a := r10) (b := 1) hx dX6_allows_63 (tgt := 70) (by decide) (fun q3 => sm_iconst (v := 0) hx dX6_allows_70 sm_kc_0 (sm_icmpeq (a := 0) (b := 0) hx dX6_allows_71 (tgt := 76) (by decide) (fun q1 => sm_iinc (ls' := [some (.ref 44), some (.int a1), some (.int a2), some (.int (a3 + 1)), some (.int 0)]) (z := a3) (v := (a3 + 1)) hx dX6_allows_76 rfl (sm_kii_1 _) (by decide) rfl (sm_goto hx dX6_allows_79 (tgt := 2) (by decide) ((hI9.1 q3)))) (fun q1 => absurd q1 (by decide)))) (fun q3 => sm_iconst (v := 1) hx dX6_allows_66 sm_kc_1 (sm_goto hx dX6_allows_67 (tgt := 71) (by decide) (sm_icmpeq (a := 0) (b := 1) hx dX6_allows_71 (tgt := 76) (by decide) (fun q2 => absurd q2 (by decide)) (fun q2 => sm_iconst (v := 0) hx dX6_allows_74 sm_kc_0 (sm_iretZ (z := false) hx dX6_allows_75 rfl (hI9.2 q3))))))))))))))))))))) (fun q9 => sm_iconst (v := 1) hx dX6_allows_33 sm_kc_1 (sm_goto hx dX6_allows_34 (tgt := 38) (by decide) (sm_istore (ls' := [some (.ref 44), some (.int a1), some (.int a2), some (.int a3), some (.int 1)]) hx dX6_allows_38 (by decide) rfl (sm_aload_n (z := 44) hx dX6_allows_40 rfl (sm_getR hx dX6_allows_41 fl_X6_20_6 (t_44 hB) rfl (sm_iload_n (z := a3) hx dX6_allows_44 rfl (sm_callVI (args := [.int a3]) (st := []) hx dX6_allows_45 lv_X6_46_3 rfl rfl (t_47 hB) rfl rfl (hI5.2 q9) (fun r12 I11 L11 hI11 => sm_iload_n (z := a1) hx dX6_allows_48 rfl (sm_icmpne (a := r12) (b := a1) hx dX6_allows_49 (tgt := 76) (by decide) (fun q8 => sm_iinc (ls' := [some (.ref 44), some (.int a1), some (.int a2), some (.int (a3 + 1)), some (.int 1)]) (z := a3) (v := (a3 + 1)) hx dX6_allows_76 rfl (sm_kii_1 _) (by decide) rfl (sm_goto hx dX6_allows_79 (tgt := 2) (by decide) ((hI11.1 q8)))) (fun q8 => sm_iload (z := 1) hx dX6_allows_52 rfl (sm_aload_n (z := 44) hx dX6_allows_54 rfl (sm_getR hx dX6_allows_55 fl_X6_26_6 (t_44 hB) rfl (sm_iload_n (z := a3) hx dX6_allows_58 rfl (sm_callVI (args := [.int a3]) (st := [.int 1]) hx dX6_allows_59 lv_X6_46_3 rfl rfl (t_51 hB) rfl rfl (hI11.2 q8) (fun r14 I13 L13 hI13 => sm_iconst (v := 1) hx dX6_allows_62 sm_kc_1 (sm_icmpne (a := r14) (b := 1) hx dX6_allows_63 (tgt := 70) (by decide) (fun q7 => sm_iconst (v := 0) hx dX6_allows_70 sm_kc_0 (sm_icmpeq (a := 1) (b := 0) hx dX6_allows_71 (tgt := 76) (by decide) (fun q5 => absurd q5 (by decide)) (fun q5 => sm_iconst (v := 0) hx dX6_allows_74 sm_kc_0 (sm_iretZ (z := false) hx dX6_allows_75 rfl (hI13.1 q7))))) (fun q7 => sm_iconst (v := 1) hx dX6_allows_66 sm_kc_1 (sm_goto hx dX6_allows_67 (tgt := 71) (by decide) (sm_icmpeq (a := 1) (b := 1) hx dX6_allows_71 (tgt := 76) (by decide) (fun q6 => sm_iinc (ls' := [some (.ref 44), some (.int a1), some (.int a2), some (.int (a3 + 1)), some (.int 1)]) (z := a3) (v := (a3 + 1)) hx dX6_allows_76 rfl (sm_kii_1 _) (by decide) rfl (sm_goto hx dX6_allows_79 (tgt := 2) (by decide) ((hI13.2 q7)))) (fun q6 => absurd q6 (by decide)))))))))))))))))))))))))))))))))))
set_option maxRecDepth 100000 in
theorem c_X6_allows {n : Nat} {F : Bool → sm_MI → sm_ML → Prop} {T : List sm_Sh} {I : sm_MI} {L : sm_ML} {a1 : Int32} {a2 : Int32} (hB : sm_Bs T)
    (h : ∀ x : sm_Cx, sm_Ok x mX6_allows (n + 1) (sm_KZ T F) → sm_V x 0 0 T I L 2 [some (.ref 44), some (.int a1), some (.int a2), some (.int 0), none] []) :
    sm_CZ (n + 1) mX6_allows T I L [.ref 44, .int a1, .int a2] F :=
  sm_CZ.of (by decide +kernel) rfl (fun x hx => show sm_V x 0 0 T I L 0 [some (.ref 44), some (.int a1), some (.int a2), none, none] [] from
  sm_iconst (v := 0) hx dX6_allows_0 sm_kc_0 (sm_istore_n (ls' := [some (.ref 44), some (.int a1), some (.int a2), some (.int 0), none]) hx dX6_allows_1 (by decide) rfl ((h x hx))))
theorem dX7_copy_0 : decode cX7_copy 0 = .ok (.aload_n 0, 1) := by decide +kernel
theorem dX7_copy_1 : decode cX7_copy 1 = .ok (.aload_n 1, 1) := by decide +kernel
theorem dX7_copy_2 : decode cX7_copy 2 = .ok (.getfield 7, 3) := by decide +kernel
theorem dX7_copy_5 : decode cX7_copy 5 = .ok (.putfield 7, 3) := by decide +kernel
theorem dX7_copy_8 : decode cX7_copy 8 = .ok (.aload_n 0, 1) := by decide +kernel
theorem dX7_copy_9 : decode cX7_copy 9 = .ok (.aload_n 1, 1) := by decide +kernel
theorem dX7_copy_10 : decode cX7_copy 10 = .ok (.getfield 13, 3) := by decide +kernel
theorem dX7_copy_13 : decode cX7_copy 13 = .ok (.putfield 13, 3) := by decide +kernel
theorem dX7_copy_16 : decode cX7_copy 16 = .ok (.aload_n 0, 1) := by decide +kernel
theorem dX7_copy_17 : decode cX7_copy 17 = .ok (.aload_n 1, 1) := by decide +kernel
theorem dX7_copy_18 : decode cX7_copy 18 = .ok (.getfield 16, 3) := by decide +kernel
theorem dX7_copy_21 : decode cX7_copy 21 = .ok (.putfield 16, 3) := by decide +kernel
theorem dX7_copy_24 : decode cX7_copy 24 = .ok (.aload_n 0, 1) := by decide +kernel
theorem dX7_copy_25 : decode cX7_copy 25 = .ok (.aload_n 1, 1) := by decide +kernel
theorem dX7_copy_26 : decode cX7_copy 26 = .ok (.getfield 19, 3) := by decide +kernel
theorem dX7_copy_29 : decode cX7_copy 29 = .ok (.putfield 19, 3) := by decide +kernel
theorem dX7_copy_32 : decode cX7_copy 32 = .ok (.return_, 1) := by decide +kernel
set_option maxRecDepth 100000 in
theorem c_X7_copy_dn {n : Nat} {F : sm_MI → sm_ML → Prop} {T : List sm_Sh} {I : sm_MI} {L : sm_ML}  (hB : sm_Bs T)
    (h : ∀ I1 : sm_MI, I1 = (sm_uI I 53 0 (I 35 0)) → ∀ I2 : sm_MI, I2 = (sm_uI I1 53 1 (I1 35 1)) → F (sm_uI I2 53 2 (I2 35 2)) (sm_uL L 53 3 (L 35 3))) :
    sm_CV n mX7_copy T I L [.ref 53, .ref 35] F :=
  sm_CV.of (by decide +kernel) rfl (fun x hx => show sm_V x 0 0 T I L 0 [some (.ref 53), some (.ref 35)] [] from
  sm_aload_n (z := 53) hx dX7_copy_0 rfl (sm_aload_n (z := 35) hx dX7_copy_1 rfl (sm_getI hx dX7_copy_2 fl_X7_7_7 (t_35 hB) rfl (sm_putI hx dX7_copy_5 fl_X7_7_1 (t_53 hB) rfl (sm_aload_n (z := 53) hx dX7_copy_8 rfl (sm_aload_n (z := 35) hx dX7_copy_9 rfl (sm_getI hx dX7_copy_10 fl_X7_13_7 (t_35 hB) rfl (sm_putI hx dX7_copy_13 fl_X7_13_1 (t_53 hB) rfl (sm_aload_n (z := 53) hx dX7_copy_16 rfl (sm_aload_n (z := 35) hx dX7_copy_17 rfl (sm_getI hx dX7_copy_18 fl_X7_16_7 (t_35 hB) rfl (sm_putI hx dX7_copy_21 fl_X7_16_1 (t_53 hB) rfl (sm_aload_n (z := 53) hx dX7_copy_24 rfl (sm_aload_n (z := 35) hx dX7_copy_25 rfl (sm_getL hx dX7_copy_26 fl_X7_19_7 (t_35 hB) rfl (sm_putL hx dX7_copy_29 fl_X7_19_1 (t_53 hB) rfl (sm_vretV hx dX7_copy_32 rfl ((h _ rfl) _ rfl))))))))))))))))))
set_option maxRecDepth 100000 in
theorem c_X7_copy_nd {n : Nat} {F : sm_MI → sm_ML → Prop} {T : List sm_Sh} {I : sm_MI} {L : sm_ML}  (hB : sm_Bs T)
    (h : ∀ I1 : sm_MI, I1 = (sm_uI I 35 0 (I 53 0)) → ∀ I2 : sm_MI, I2 = (sm_uI I1 35 1 (I1 53 1)) → F (sm_uI I2 35 2 (I2 53 2)) (sm_uL L 35 3 (L 53 3))) :
    sm_CV n mX7_copy T I L [.ref 35, .ref 53] F :=
  sm_CV.of (by decide +kernel) rfl (fun x hx => show sm_V x 0 0 T I L 0 [some (.ref 35), some (.ref 53)] [] from
  sm_aload_n (z := 35) hx dX7_copy_0 rfl (sm_aload_n (z := 53) hx dX7_copy_1 rfl (sm_getI hx dX7_copy_2 fl_X7_7_1 (t_53 hB) rfl (sm_putI hx dX7_copy_5 fl_X7_7_7 (t_35 hB) rfl (sm_aload_n (z := 35) hx dX7_copy_8 rfl (sm_aload_n (z := 53) hx dX7_copy_9 rfl (sm_getI hx dX7_copy_10 fl_X7_13_1 (t_53 hB) rfl (sm_putI hx dX7_copy_13 fl_X7_13_7 (t_35 hB) rfl (sm_aload_n (z := 35) hx dX7_copy_16 rfl (sm_aload_n (z := 53) hx dX7_copy_17 rfl (sm_getI hx dX7_copy_18 fl_X7_16_1 (t_53 hB) rfl (sm_putI hx dX7_copy_21 fl_X7_16_7 (t_35 hB) rfl (sm_aload_n (z := 35) hx dX7_copy_24 rfl (sm_aload_n (z := 53) hx dX7_copy_25 rfl (sm_getL hx dX7_copy_26 fl_X7_19_1 (t_53 hB) rfl (sm_putL hx dX7_copy_29 fl_X7_19_7 (t_35 hB) rfl (sm_vretV hx dX7_copy_32 rfl ((h _ rfl) _ rfl))))))))))))))))))
set_option maxRecDepth 100000 in
theorem c_X7_copy_kn {n : Nat} {F : sm_MI → sm_ML → Prop} {T : List sm_Sh} {I : sm_MI} {L : sm_ML}  (hB : sm_Bs T)
    (h : ∀ I1 : sm_MI, I1 = (sm_uI I 36 0 (I 35 0)) → ∀ I2 : sm_MI, I2 = (sm_uI I1 36 1 (I1 35 1)) → F (sm_uI I2 36 2 (I2 35 2)) (sm_uL L 36 3 (L 35 3))) :
    sm_CV n mX7_copy T I L [.ref 36, .ref 35] F :=
  sm_CV.of (by decide +kernel) rfl (fun x hx => show sm_V x 0 0 T I L 0 [some (.ref 36), some (.ref 35)] [] from
  sm_aload_n (z := 36) hx dX7_copy_0 rfl (sm_aload_n (z := 35) hx dX7_copy_1 rfl (sm_getI hx dX7_copy_2 fl_X7_7_7 (t_35 hB) rfl (sm_putI hx dX7_copy_5 fl_X7_7_7 (t_36 hB) rfl (sm_aload_n (z := 36) hx dX7_copy_8 rfl (sm_aload_n (z := 35) hx dX7_copy_9 rfl (sm_getI hx dX7_copy_10 fl_X7_13_7 (t_35 hB) rfl (sm_putI hx dX7_copy_13 fl_X7_13_7 (t_36 hB) rfl (sm_aload_n (z := 36) hx dX7_copy_16 rfl (sm_aload_n (z := 35) hx dX7_copy_17 rfl (sm_getI hx dX7_copy_18 fl_X7_16_7 (t_35 hB) rfl (sm_putI hx dX7_copy_21 fl_X7_16_7 (t_36 hB) rfl (sm_aload_n (z := 36) hx dX7_copy_24 rfl (sm_aload_n (z := 35) hx dX7_copy_25 rfl (sm_getL hx dX7_copy_26 fl_X7_19_7 (t_35 hB) rfl (sm_putL hx dX7_copy_29 fl_X7_19_7 (t_36 hB) rfl (sm_vretV hx dX7_copy_32 rfl ((h _ rfl) _ rfl))))))))))))))))))
set_option maxRecDepth 100000 in
theorem c_X7_copy_nk {n : Nat} {F : sm_MI → sm_ML → Prop} {T : List sm_Sh} {I : sm_MI} {L : sm_ML}  (hB : sm_Bs T)
    (h : ∀ I1 : sm_MI, I1 = (sm_uI I 35 0 (I 36 0)) → ∀ I2 : sm_MI, I2 = (sm_uI I1 35 1 (I1 36 1)) → F (sm_uI I2 35 2 (I2 36 2)) (sm_uL L 35 3 (L 36 3))) :
    sm_CV n mX7_copy T I L [.ref 35, .ref 36] F :=
  sm_CV.of (by decide +kernel) rfl (fun x hx => show sm_V x 0 0 T I L 0 [some (.ref 35), some (.ref 36)] [] from
  sm_aload_n (z := 35) hx dX7_copy_0 rfl (sm_aload_n (z := 36) hx dX7_copy_1 rfl (sm_getI hx dX7_copy_2 fl_X7_7_7 (t_36 hB) rfl (sm_putI hx dX7_copy_5 fl_X7_7_7 (t_35 hB) rfl (sm_aload_n (z := 35) hx dX7_copy_8 rfl (sm_aload_n (z := 36) hx dX7_copy_9 rfl (sm_getI hx dX7_copy_10 fl_X7_13_7 (t_36 hB) rfl (sm_putI hx dX7_copy_13 fl_X7_13_7 (t_35 hB) rfl (sm_aload_n (z := 35) hx dX7_copy_16 rfl (sm_aload_n (z := 36) hx dX7_copy_17 rfl (sm_getI hx dX7_copy_18 fl_X7_16_7 (t_36 hB) rfl (sm_putI hx dX7_copy_21 fl_X7_16_7 (t_35 hB) rfl (sm_aload_n (z := 35) hx dX7_copy_24 rfl (sm_aload_n (z := 36) hx dX7_copy_25 rfl (sm_getL hx dX7_copy_26 fl_X7_19_7 (t_36 hB) rfl (sm_putL hx dX7_copy_29 fl_X7_19_7 (t_35 hB) rfl (sm_vretV hx dX7_copy_32 rfl ((h _ rfl) _ rfl))))))))))))))))))
theorem dX8_clear_0 : decode cX8_clear 0 = .ok (.aload_n 0, 1) := by decide +kernel
theorem dX8_clear_1 : decode cX8_clear 1 = .ok (.iconst 0, 1) := by decide +kernel
theorem dX8_clear_2 : decode cX8_clear 2 = .ok (.putfield 9, 3) := by decide +kernel
theorem dX8_clear_5 : decode cX8_clear 5 = .ok (.aload_n 0, 1) := by decide +kernel
theorem dX8_clear_6 : decode cX8_clear 6 = .ok (.iconst 0, 1) := by decide +kernel
theorem dX8_clear_7 : decode cX8_clear 7 = .ok (.putfield 15, 3) := by decide +kernel
theorem dX8_clear_10 : decode cX8_clear 10 = .ok (.aload_n 0, 1) := by decide +kernel
theorem dX8_clear_11 : decode cX8_clear 11 = .ok (.iconst 0, 1) := by decide +kernel
theorem dX8_clear_12 : decode cX8_clear 12 = .ok (.putfield 18, 3) := by decide +kernel
theorem dX8_clear_15 : decode cX8_clear 15 = .ok (.aload_n 0, 1) := by decide +kernel
theorem dX8_clear_16 : decode cX8_clear 16 = .ok (.iconst 0, 1) := by decide +kernel
theorem dX8_clear_17 : decode cX8_clear 17 = .ok (.putfield 21, 3) := by decide +kernel
theorem dX8_clear_20 : decode cX8_clear 20 = .ok (.aload_n 0, 1) := by decide +kernel
theorem dX8_clear_21 : decode cX8_clear 21 = .ok (.iconst 0, 1) := by decide +kernel
theorem dX8_clear_22 : decode cX8_clear 22 = .ok (.putfield 24, 3) := by decide +kernel
theorem dX8_clear_25 : decode cX8_clear 25 = .ok (.aload_n 0, 1) := by decide +kernel
theorem dX8_clear_26 : decode cX8_clear 26 = .ok (.iconst 0, 1) := by decide +kernel
theorem dX8_clear_27 : decode cX8_clear 27 = .ok (.putfield 27, 3) := by decide +kernel
theorem dX8_clear_30 : decode cX8_clear 30 = .ok (.aload_n 0, 1) := by decide +kernel
theorem dX8_clear_31 : decode cX8_clear 31 = .ok (.getfield 48, 3) := by decide +kernel
theorem dX8_clear_34 : decode cX8_clear 34 = .ok (.iconst (-1), 1) := by decide +kernel
theorem dX8_clear_35 : decode cX8_clear 35 = .ok (.invokevirtual 51, 3) := by decide +kernel
theorem dX8_clear_38 : decode cX8_clear 38 = .ok (.return_, 1) := by decide +kernel
set_option maxRecDepth 100000 in
theorem c_X8_clear {n : Nat} {F : sm_MI → sm_ML → Prop} {T : List sm_Sh} {I : sm_MI} {L : sm_ML}  (hB : sm_Bs T)
    (h : sm_CV n mX3_fill T (sm_uI (sm_uI (sm_uI (sm_uI (sm_uI (sm_uI I 5 0 0) 5 1 0) 5 2 0) 5 3 0) 5 4 0) 5 5 0) L [.ref 14, .int (-1)] (fun I1 L1 => F I1 L1)) :
    sm_CV (n + 1) mX8_clear T I L [.ref 5] F :=
  sm_CV.of (by decide +kernel) rfl (fun x hx => show sm_V x 0 0 T I L 0 [some (.ref 5)] [] from
  sm_aload_n (z := 5) hx dX8_clear_0 rfl (sm_iconst (v := 0) hx dX8_clear_1 sm_kc_0 (sm_putI hx dX8_clear_2 fl_X8_9_8 (t_5 hB) rfl (sm_aload_n (z := 5) hx dX8_clear_5 rfl (sm_iconst (v := 0) hx dX8_clear_6 sm_kc_0 (sm_putI hx dX8_clear_7 fl_X8_15_8 (t_5 hB) rfl (sm_aload_n (z := 5) hx dX8_clear_10 rfl (sm_iconst (v := 0) hx dX8_clear_11 sm_kc_0 (sm_putI hx dX8_clear_12 fl_X8_18_8 (t_5 hB) rfl (sm_aload_n (z := 5) hx dX8_clear_15 rfl (sm_iconst (v := 0) hx dX8_clear_16 sm_kc_0 (sm_putI hx dX8_clear_17 fl_X8_21_8 (t_5 hB) rfl (sm_aload_n (z := 5) hx dX8_clear_20 rfl (sm_iconst (v := 0) hx dX8_clear_21 sm_kc_0 (sm_putI hx dX8_clear_22 fl_X8_24_8 (t_5 hB) rfl (sm_aload_n (z := 5) hx dX8_clear_25 rfl (sm_iconst (v := 0) hx dX8_clear_26 sm_kc_0 (sm_putI hx dX8_clear_27 fl_X8_27_8 (t_5 hB) rfl (sm_aload_n (z := 5) hx dX8_clear_30 rfl (sm_getR hx dX8_clear_31 fl_X8_48_8 (t_5 hB) rfl (sm_iconst (v := (-1)) hx dX8_clear_34 sm_kc_m1 (sm_callVV (args := [.int (-1)]) (st := []) hx dX8_clear_35 lv_X8_51_3 rfl rfl (t_14 hB) rfl rfl h (fun I1 L1 hI1 => sm_vretV hx dX8_clear_38 rfl hI1)))))))))))))))))))))))
theorem dX8_copy_0 : decode cX8_copy 0 = .ok (.aload_n 0, 1) := by decide +kernel
theorem dX8_copy_1 : decode cX8_copy 1 = .ok (.aload_n 1, 1) := by decide +kernel
theorem dX8_copy_2 : decode cX8_copy 2 = .ok (.getfield 9, 3) := by decide +kernel
theorem dX8_copy_5 : decode cX8_copy 5 = .ok (.putfield 9, 3) := by decide +kernel
theorem dX8_copy_8 : decode cX8_copy 8 = .ok (.aload_n 0, 1) := by decide +kernel
theorem dX8_copy_9 : decode cX8_copy 9 = .ok (.aload_n 1, 1) := by decide +kernel
theorem dX8_copy_10 : decode cX8_copy 10 = .ok (.getfield 15, 3) := by decide +kernel
theorem dX8_copy_13 : decode cX8_copy 13 = .ok (.putfield 15, 3) := by decide +kernel
theorem dX8_copy_16 : decode cX8_copy 16 = .ok (.aload_n 0, 1) := by decide +kernel
theorem dX8_copy_17 : decode cX8_copy 17 = .ok (.aload_n 1, 1) := by decide +kernel
theorem dX8_copy_18 : decode cX8_copy 18 = .ok (.getfield 18, 3) := by decide +kernel
theorem dX8_copy_21 : decode cX8_copy 21 = .ok (.putfield 18, 3) := by decide +kernel
theorem dX8_copy_24 : decode cX8_copy 24 = .ok (.aload_n 0, 1) := by decide +kernel
theorem dX8_copy_25 : decode cX8_copy 25 = .ok (.aload_n 1, 1) := by decide +kernel
theorem dX8_copy_26 : decode cX8_copy 26 = .ok (.getfield 21, 3) := by decide +kernel
theorem dX8_copy_29 : decode cX8_copy 29 = .ok (.putfield 21, 3) := by decide +kernel
theorem dX8_copy_32 : decode cX8_copy 32 = .ok (.aload_n 0, 1) := by decide +kernel
theorem dX8_copy_33 : decode cX8_copy 33 = .ok (.aload_n 1, 1) := by decide +kernel
theorem dX8_copy_34 : decode cX8_copy 34 = .ok (.getfield 24, 3) := by decide +kernel
theorem dX8_copy_37 : decode cX8_copy 37 = .ok (.putfield 24, 3) := by decide +kernel
theorem dX8_copy_40 : decode cX8_copy 40 = .ok (.aload_n 0, 1) := by decide +kernel
theorem dX8_copy_41 : decode cX8_copy 41 = .ok (.aload_n 1, 1) := by decide +kernel
theorem dX8_copy_42 : decode cX8_copy 42 = .ok (.getfield 27, 3) := by decide +kernel
theorem dX8_copy_45 : decode cX8_copy 45 = .ok (.putfield 27, 3) := by decide +kernel
theorem dX8_copy_48 : decode cX8_copy 48 = .ok (.aload_n 0, 1) := by decide +kernel
theorem dX8_copy_49 : decode cX8_copy 49 = .ok (.getfield 35, 3) := by decide +kernel
theorem dX8_copy_52 : decode cX8_copy 52 = .ok (.aload_n 1, 1) := by decide +kernel
theorem dX8_copy_53 : decode cX8_copy 53 = .ok (.getfield 35, 3) := by decide +kernel
theorem dX8_copy_56 : decode cX8_copy 56 = .ok (.invokevirtual 54, 3) := by decide +kernel
theorem dX8_copy_59 : decode cX8_copy 59 = .ok (.aload_n 0, 1) := by decide +kernel
theorem dX8_copy_60 : decode cX8_copy 60 = .ok (.getfield 39, 3) := by decide +kernel
theorem dX8_copy_63 : decode cX8_copy 63 = .ok (.aload_n 1, 1) := by decide +kernel
theorem dX8_copy_64 : decode cX8_copy 64 = .ok (.getfield 39, 3) := by decide +kernel
theorem dX8_copy_67 : decode cX8_copy 67 = .ok (.invokevirtual 54, 3) := by decide +kernel
theorem dX8_copy_70 : decode cX8_copy 70 = .ok (.aload_n 0, 1) := by decide +kernel
theorem dX8_copy_71 : decode cX8_copy 71 = .ok (.getfield 42, 3) := by decide +kernel
theorem dX8_copy_74 : decode cX8_copy 74 = .ok (.aload_n 1, 1) := by decide +kernel
theorem dX8_copy_75 : decode cX8_copy 75 = .ok (.getfield 42, 3) := by decide +kernel
theorem dX8_copy_78 : decode cX8_copy 78 = .ok (.invokevirtual 54, 3) := by decide +kernel
theorem dX8_copy_81 : decode cX8_copy 81 = .ok (.aload_n 0, 1) := by decide +kernel
theorem dX8_copy_82 : decode cX8_copy 82 = .ok (.getfield 45, 3) := by decide +kernel
theorem dX8_copy_85 : decode cX8_copy 85 = .ok (.aload_n 1, 1) := by decide +kernel
theorem dX8_copy_86 : decode cX8_copy 86 = .ok (.getfield 45, 3) := by decide +kernel
theorem dX8_copy_89 : decode cX8_copy 89 = .ok (.invokevirtual 54, 3) := by decide +kernel
theorem dX8_copy_92 : decode cX8_copy 92 = .ok (.aload_n 0, 1) := by decide +kernel
theorem dX8_copy_93 : decode cX8_copy 93 = .ok (.getfield 48, 3) := by decide +kernel
theorem dX8_copy_96 : decode cX8_copy 96 = .ok (.aload_n 1, 1) := by decide +kernel
theorem dX8_copy_97 : decode cX8_copy 97 = .ok (.getfield 48, 3) := by decide +kernel
theorem dX8_copy_100 : decode cX8_copy 100 = .ok (.invokevirtual 54, 3) := by decide +kernel
theorem dX8_copy_103 : decode cX8_copy 103 = .ok (.return_, 1) := by decide +kernel
set_option maxRecDepth 100000 in
theorem c_X8_copy {n : Nat} {F : sm_MI → sm_ML → Prop} {T : List sm_Sh} {I : sm_MI} {L : sm_ML}  (hB : sm_Bs T)
    (h : ∀ I1 : sm_MI, I1 = (sm_uI I 24 0 (I 5 0)) → ∀ I2 : sm_MI, I2 = (sm_uI I1 24 1 (I1 5 1)) → ∀ I3 : sm_MI, I3 = (sm_uI I2 24 2 (I2 5 2)) → ∀ I4 : sm_MI, I4 = (sm_uI I3 24 3 (I3 5 3)) → ∀ I5 : sm_MI, I5 = (sm_uI I4 24 4 (I4 5 4)) → sm_CV n mX3_copy T (sm_uI I5 24 5 (I5 5 5)) L [.ref 25, .ref 6] (fun I6 L6 => sm_CV n mX3_copy T I6 L6 [.ref 27, .ref 8] (fun I7 L7 => sm_CV n mX3_copy T I7 L7 [.ref 29, .ref 10] (fun I8 L8 => sm_CV n mX3_copy T I8 L8 [.ref 31, .ref 12] (fun I9 L9 => sm_CV n mX3_copy T I9 L9 [.ref 33, .ref 14] (fun I10 L10 => F I10 L10)))))) :
    sm_CV (n + 1) mX8_copy T I L [.ref 24, .ref 5] F :=
  sm_CV.of (by decide +kernel) rfl (fun x hx => show sm_V x 0 0 T I L 0 [some (.ref 24), some (.ref 5)] [] from
  sm_aload_n (z := 24) hx dX8_copy_0 rfl (sm_aload_n (z := 5) hx dX8_copy_1 rfl (sm_getI hx dX8_copy_2 fl_X8_9_8 (t_5 hB) rfl (sm_putI hx dX8_copy_5 fl_X8_9_8 (t_24 hB) rfl (sm_aload_n (z := 24) hx dX8_copy_8 rfl (sm_aload_n (z := 5) hx dX8_copy_9 rfl (sm_getI hx dX8_copy_10 fl_X8_15_8 (t_5 hB) rfl (sm_putI hx dX8_copy_13 fl_X8_15_8 (t_24 hB) rfl (sm_aload_n (z := 24) hx dX8_copy_16 rfl (sm_aload_n (z := 5) hx dX8_copy_17 rfl (sm_getI hx dX8_copy_18 fl_X8_18_8 (t_5 hB) rfl (sm_putI hx dX8_copy_21 fl_X8_18_8 (t_24 hB) rfl (sm_aload_n (z := 24) hx dX8_copy_24 rfl (sm_aload_n (z := 5) hx dX8_copy_25 rfl (sm_getI hx dX8_copy_26 fl_X8_21_8 (t_5 hB) rfl (sm_putI hx dX8_copy_29 fl_X8_21_8 (t_24 hB) rfl (sm_aload_n (z := 24) hx dX8_copy_32 rfl (sm_aload_n (z := 5) hx dX8_copy_33 rfl (sm_getI hx dX8_copy_34 fl_X8_24_8 (t_5 hB) rfl (sm_putI hx dX8_copy_37 fl_X8_24_8 (t_24 hB) rfl (sm_aload_n (z := 24) hx dX8_copy_40 rfl (sm_aload_n (z := 5) hx dX8_copy_41 rfl (sm_getI hx dX8_copy_42 fl_X8_27_8 (t_5 hB) rfl (sm_putI hx dX8_copy_45 fl_X8_27_8 (t_24 hB) rfl (sm_aload_n (z := 24) hx dX8_copy_48 rfl (sm_getR hx dX8_copy_49 fl_X8_35_8 (t_24 hB) rfl (sm_aload_n (z := 5) hx dX8_copy_52 rfl (sm_getR hx dX8_copy_53 fl_X8_35_8 (t_5 hB) rfl (sm_callVV (args := [.ref 6]) (st := []) hx dX8_copy_56 lv_X8_54_3 rfl rfl (t_25 hB) rfl rfl (((((h _ rfl) _ rfl) _ rfl) _ rfl) _ rfl) (fun I6 L6 hI6 => sm_aload_n (z := 24) hx dX8_copy_59 rfl (sm_getR hx dX8_copy_60 fl_X8_39_8 (t_24 hB) rfl (sm_aload_n (z := 5) hx dX8_copy_63 rfl (sm_getR hx dX8_copy_64 fl_X8_39_8 (t_5 hB) rfl (sm_callVV (args := [.ref 8]) (st := []) hx dX8_copy_67 lv_X8_54_3 rfl rfl (t_27 hB) rfl rfl hI6 (fun I7 L7 hI7 => sm_aload_n (z := 24) hx dX8_copy_70 rfl (sm_getR hx dX8_copy_71 fl_X8_42_8 (t_24 hB) rfl (sm_aload_n (z := 5) hx dX8_copy_74 rfl (sm_getR hx dX8_copy_75 fl_X8_42_8 (t_5 hB) rfl (sm_callVV (args := [.ref 10]) (st := []) hx dX8_copy_78 lv_X8_54_3 rfl rfl (t_29 hB) rfl rfl hI7 (fun I8 L8 hI8 => sm_aload_n (z := 24) hx dX8_copy_81 rfl (sm_getR hx dX8_copy_82 fl_X8_45_8 (t_24 hB) rfl (sm_aload_n (z := 5) hx dX8_copy_85 rfl (sm_getR hx dX8_copy_86 fl_X8_45_8 (t_5 hB) rfl (sm_callVV (args := [.ref 12]) (st := []) hx dX8_copy_89 lv_X8_54_3 rfl rfl (t_31 hB) rfl rfl hI8 (fun I9 L9 hI9 => sm_aload_n (z := 24) hx dX8_copy_92 rfl (sm_getR hx dX8_copy_93 fl_X8_48_8 (t_24 hB) rfl (sm_aload_n (z := 5) hx dX8_copy_96 rfl (sm_getR hx dX8_copy_97 fl_X8_48_8 (t_5 hB) rfl (sm_callVV (args := [.ref 14]) (st := []) hx dX8_copy_100 lv_X8_54_3 rfl rfl (t_33 hB) rfl rfl hI9 (fun I10 L10 hI10 => sm_vretV hx dX8_copy_103 rfl hI10))))))))))))))))))))))))))))))))))))))))))))))))))
theorem dX8_addSleeper_0 : decode cX8_addSleeper 0 = .ok (.aload_n 0, 1) := by decide +kernel
theorem dX8_addSleeper_1 : decode cX8_addSleeper 1 = .ok (.getfield 35, 3) := by decide +kernel
theorem dX8_addSleeper_4 : decode cX8_addSleeper 4 = .ok (.aload_n 0, 1) := by decide +kernel
theorem dX8_addSleeper_5 : decode cX8_addSleeper 5 = .ok (.getfield 15, 3) := by decide +kernel
theorem dX8_addSleeper_8 : decode cX8_addSleeper 8 = .ok (.aload_n 1, 1) := by decide +kernel
theorem dX8_addSleeper_9 : decode cX8_addSleeper 9 = .ok (.iconst 0, 1) := by decide +kernel
theorem dX8_addSleeper_10 : decode cX8_addSleeper 10 = .ok (.invokevirtual 58, 3) := by decide +kernel
theorem dX8_addSleeper_13 : decode cX8_addSleeper 13 = .ok (.invokevirtual 62, 3) := by decide +kernel
theorem dX8_addSleeper_16 : decode cX8_addSleeper 16 = .ok (.aload_n 0, 1) := by decide +kernel
theorem dX8_addSleeper_17 : decode cX8_addSleeper 17 = .ok (.getfield 39, 3) := by decide +kernel
theorem dX8_addSleeper_20 : decode cX8_addSleeper 20 = .ok (.aload_n 0, 1) := by decide +kernel
theorem dX8_addSleeper_21 : decode cX8_addSleeper 21 = .ok (.getfield 15, 3) := by decide +kernel
theorem dX8_addSleeper_24 : decode cX8_addSleeper 24 = .ok (.aload_n 1, 1) := by decide +kernel
theorem dX8_addSleeper_25 : decode cX8_addSleeper 25 = .ok (.iconst 1, 1) := by decide +kernel
theorem dX8_addSleeper_26 : decode cX8_addSleeper 26 = .ok (.invokevirtual 58, 3) := by decide +kernel
theorem dX8_addSleeper_29 : decode cX8_addSleeper 29 = .ok (.invokevirtual 62, 3) := by decide +kernel
theorem dX8_addSleeper_32 : decode cX8_addSleeper 32 = .ok (.aload_n 0, 1) := by decide +kernel
theorem dX8_addSleeper_33 : decode cX8_addSleeper 33 = .ok (.getfield 42, 3) := by decide +kernel
theorem dX8_addSleeper_36 : decode cX8_addSleeper 36 = .ok (.aload_n 0, 1) := by decide +kernel
theorem dX8_addSleeper_37 : decode cX8_addSleeper 37 = .ok (.getfield 15, 3) := by decide +kernel
theorem dX8_addSleeper_40 : decode cX8_addSleeper 40 = .ok (.aload_n 1, 1) := by decide +kernel
theorem dX8_addSleeper_41 : decode cX8_addSleeper 41 = .ok (.iconst 2, 1) := by decide +kernel
theorem dX8_addSleeper_42 : decode cX8_addSleeper 42 = .ok (.invokevirtual 58, 3) := by decide +kernel
theorem dX8_addSleeper_45 : decode cX8_addSleeper 45 = .ok (.invokevirtual 62, 3) := by decide +kernel
theorem dX8_addSleeper_48 : decode cX8_addSleeper 48 = .ok (.aload_n 0, 1) := by decide +kernel
theorem dX8_addSleeper_49 : decode cX8_addSleeper 49 = .ok (.getfield 45, 3) := by decide +kernel
theorem dX8_addSleeper_52 : decode cX8_addSleeper 52 = .ok (.aload_n 0, 1) := by decide +kernel
theorem dX8_addSleeper_53 : decode cX8_addSleeper 53 = .ok (.getfield 15, 3) := by decide +kernel
theorem dX8_addSleeper_56 : decode cX8_addSleeper 56 = .ok (.aload_n 1, 1) := by decide +kernel
theorem dX8_addSleeper_57 : decode cX8_addSleeper 57 = .ok (.iconst 3, 1) := by decide +kernel
theorem dX8_addSleeper_58 : decode cX8_addSleeper 58 = .ok (.invokevirtual 58, 3) := by decide +kernel
theorem dX8_addSleeper_61 : decode cX8_addSleeper 61 = .ok (.invokevirtual 62, 3) := by decide +kernel
theorem dX8_addSleeper_64 : decode cX8_addSleeper 64 = .ok (.aload_n 0, 1) := by decide +kernel
theorem dX8_addSleeper_65 : decode cX8_addSleeper 65 = .ok (.dup, 1) := by decide +kernel
theorem dX8_addSleeper_66 : decode cX8_addSleeper 66 = .ok (.getfield 15, 3) := by decide +kernel
theorem dX8_addSleeper_69 : decode cX8_addSleeper 69 = .ok (.iconst 1, 1) := by decide +kernel
theorem dX8_addSleeper_70 : decode cX8_addSleeper 70 = .ok (.iadd, 1) := by decide +kernel
theorem dX8_addSleeper_71 : decode cX8_addSleeper 71 = .ok (.putfield 15, 3) := by decide +kernel
theorem dX8_addSleeper_74 : decode cX8_addSleeper 74 = .ok (.iconst 1, 1) := by decide +kernel
theorem dX8_addSleeper_75 : decode cX8_addSleeper 75 = .ok (.ireturn, 1) := by decide +kernel
set_option maxRecDepth 100000 in
theorem c_X8_addSleeper {n : Nat} {F : Bool → sm_MI → sm_ML → Prop} {T : List sm_Sh} {I : sm_MI} {L : sm_ML}  (hB : sm_Bs T)
    (h : sm_CI n mX3_at T I L [.ref 16, .int 0] (fun r2 I1 L1 => sm_CV n mX3_set T I1 L1 [.ref 6, .int (I 5 1), .int r2] (fun I3 L3 => sm_CI n mX3_at T I3 L3 [.ref 16, .int 1] (fun r5 I4 L4 => sm_CV n mX3_set T I4 L4 [.ref 8, .int (I3 5 1), .int r5] (fun I6 L6 => sm_CI n mX3_at T I6 L6 [.ref 16, .int 2] (fun r8 I7 L7 => sm_CV n mX3_set T I7 L7 [.ref 10, .int (I6 5 1), .int r8] (fun I9 L9 => sm_CI n mX3_at T I9 L9 [.ref 16, .int 3] (fun r11 I10 L10 => sm_CV n mX3_set T I10 L10 [.ref 12, .int (I9 5 1), .int r11] (fun I12 L12 => F true (sm_uI I12 5 1 ((I12 5 1) + 1)) L12))))))))) :
    sm_CZ (n + 1) mX8_addSleeper T I L [.ref 5, .ref 16] F :=
  sm_CZ.of (by decide +kernel) rfl (fun x hx => show sm_V x 0 0 T I L 0 [some (.ref 5), some (.ref 16)] [] from
  sm_aload_n (z := 5) hx dX8_addSleeper_0 rfl (sm_getR hx dX8_addSleeper_1 fl_X8_35_8 (t_5 hB) rfl (sm_aload_n (z := 5) hx dX8_addSleeper_4 rfl (sm_getI hx dX8_addSleeper_5 fl_X8_15_8 (t_5 hB) rfl (sm_aload_n (z := 16) hx dX8_addSleeper_8 rfl (sm_iconst (v := 0) hx dX8_addSleeper_9 sm_kc_0 (sm_callVI (args := [.int 0]) (st := [.int (I 5 1), .ref 6]) hx dX8_addSleeper_10 lv_X8_58_3 rfl rfl (t_16 hB) rfl rfl h (fun r2 I1 L1 hI1 => sm_callVV (args := [.int (I 5 1), .int r2]) (st := []) hx dX8_addSleeper_13 lv_X8_62_3 rfl rfl (t_6 hB) rfl rfl hI1 (fun I3 L3 hI3 => sm_aload_n (z := 5) hx dX8_addSleeper_16 rfl (sm_getR hx dX8_addSleeper_17 fl_X8_39_8 (t_5 hB) rfl (sm_aload_n (z := 5) hx dX8_addSleeper_20 rfl (sm_getI hx dX8_addSleeper_21 fl_X8_15_8 (t_5 hB) rfl (sm_aload_n (z := 16) hx dX8_addSleeper_24 rfl (sm_iconst (v := 1) hx dX8_addSleeper_25 sm_kc_1 (sm_callVI (args := [.int 1]) (st := [.int (I3 5 1), .ref 8]) hx dX8_addSleeper_26 lv_X8_58_3 rfl rfl (t_16 hB) rfl rfl hI3 (fun r5 I4 L4 hI4 => sm_callVV (args := [.int (I3 5 1), .int r5]) (st := []) hx dX8_addSleeper_29 lv_X8_62_3 rfl rfl (t_8 hB) rfl rfl hI4 (fun I6 L6 hI6 => sm_aload_n (z := 5) hx dX8_addSleeper_32 rfl (sm_getR hx dX8_addSleeper_33 fl_X8_42_8 (t_5 hB) rfl (sm_aload_n (z := 5) hx dX8_addSleeper_36 rfl (sm_getI hx dX8_addSleeper_37 fl_X8_15_8 (t_5 hB) rfl (sm_aload_n (z := 16) hx dX8_addSleeper_40 rfl (sm_iconst (v := 2) hx dX8_addSleeper_41 sm_kc_2 (sm_callVI (args := [.int 2]) (st := [.int (I6 5 1), .ref 10]) hx dX8_addSleeper_42 lv_X8_58_3 rfl rfl (t_16 hB) rfl rfl hI6 (fun r8 I7 L7 hI7 => sm_callVV (args := [.int (I6 5 1), .int r8]) (st := []) hx dX8_addSleeper_45 lv_X8_62_3 rfl rfl (t_10 hB) rfl rfl hI7 (fun I9 L9 hI9 => sm_aload_n (z := 5) hx dX8_addSleeper_48 rfl (sm_getR hx dX8_addSleeper_49 fl_X8_45_8 (t_5 hB) rfl (sm_aload_n (z := 5) hx dX8_addSleeper_52 rfl (sm_getI hx dX8_addSleeper_53 fl_X8_15_8 (t_5 hB) rfl (sm_aload_n (z := 16) hx dX8_addSleeper_56 rfl (sm_iconst (v := 3) hx dX8_addSleeper_57 sm_kc_3 (sm_callVI (args := [.int 3]) (st := [.int (I9 5 1), .ref 12]) hx dX8_addSleeper_58 lv_X8_58_3 rfl rfl (t_16 hB) rfl rfl hI9 (fun r11 I10 L10 hI10 => sm_callVV (args := [.int (I9 5 1), .int r11]) (st := []) hx dX8_addSleeper_61 lv_X8_62_3 rfl rfl (t_12 hB) rfl rfl hI10 (fun I12 L12 hI12 => sm_aload_n (z := 5) hx dX8_addSleeper_64 rfl (sm_dup hx dX8_addSleeper_65 rfl (sm_getI hx dX8_addSleeper_66 fl_X8_15_8 (t_5 hB) rfl (sm_iconst (v := 1) hx dX8_addSleeper_69 sm_kc_1 (sm_iadd (a := (I12 5 1)) (b := 1) hx dX8_addSleeper_70 (sm_putI hx dX8_addSleeper_71 fl_X8_15_8 (t_5 hB) rfl (sm_iconst (v := 1) hx dX8_addSleeper_74 sm_kc_1 (sm_iretZ (z := true) hx dX8_addSleeper_75 rfl hI12))))))))))))))))))))))))))))))))))))))))
theorem dX8_addThing_0 : decode cX8_addThing 0 = .ok (.aload_n 0, 1) := by decide +kernel
theorem dX8_addThing_1 : decode cX8_addThing 1 = .ok (.aload_n 0, 1) := by decide +kernel
theorem dX8_addThing_2 : decode cX8_addThing 2 = .ok (.getfield 21, 3) := by decide +kernel
theorem dX8_addThing_5 : decode cX8_addThing 5 = .ok (.aload_n 0, 1) := by decide +kernel
theorem dX8_addThing_6 : decode cX8_addThing 6 = .ok (.getfield 18, 3) := by decide +kernel
theorem dX8_addThing_9 : decode cX8_addThing 9 = .ok (.aload_n 1, 1) := by decide +kernel
theorem dX8_addThing_10 : decode cX8_addThing 10 = .ok (.iconst 0, 1) := by decide +kernel
theorem dX8_addThing_11 : decode cX8_addThing 11 = .ok (.invokevirtual 58, 3) := by decide +kernel
theorem dX8_addThing_14 : decode cX8_addThing 14 = .ok (.invokestatic 66, 3) := by decide +kernel
theorem dX8_addThing_17 : decode cX8_addThing 17 = .ok (.putfield 21, 3) := by decide +kernel
theorem dX8_addThing_20 : decode cX8_addThing 20 = .ok (.aload_n 0, 1) := by decide +kernel
theorem dX8_addThing_21 : decode cX8_addThing 21 = .ok (.dup, 1) := by decide +kernel
theorem dX8_addThing_22 : decode cX8_addThing 22 = .ok (.getfield 18, 3) := by decide +kernel
theorem dX8_addThing_25 : decode cX8_addThing 25 = .ok (.iconst 1, 1) := by decide +kernel
theorem dX8_addThing_26 : decode cX8_addThing 26 = .ok (.iadd, 1) := by decide +kernel
theorem dX8_addThing_27 : decode cX8_addThing 27 = .ok (.putfield 18, 3) := by decide +kernel
theorem dX8_addThing_30 : decode cX8_addThing 30 = .ok (.iconst 1, 1) := by decide +kernel
theorem dX8_addThing_31 : decode cX8_addThing 31 = .ok (.ireturn, 1) := by decide +kernel
set_option maxRecDepth 100000 in
theorem c_X8_addThing {n : Nat} {F : Bool → sm_MI → sm_ML → Prop} {T : List sm_Sh} {I : sm_MI} {L : sm_ML}  (hB : sm_Bs T)
    (h : sm_CI n mX3_at T I L [.ref 16, .int 0] (fun r2 I1 L1 => sm_CI n mX11_placed T I1 L1 [.int (I 5 3), .int (I 5 2), .int r2] (fun r4 I3 L3 => ∀ I5 : sm_MI, I5 = (sm_uI I3 5 3 r4) → F true (sm_uI I5 5 2 ((I5 5 2) + 1)) L3))) :
    sm_CZ (n + 1) mX8_addThing T I L [.ref 5, .ref 16] F :=
  sm_CZ.of (by decide +kernel) rfl (fun x hx => show sm_V x 0 0 T I L 0 [some (.ref 5), some (.ref 16)] [] from
  sm_aload_n (z := 5) hx dX8_addThing_0 rfl (sm_aload_n (z := 5) hx dX8_addThing_1 rfl (sm_getI hx dX8_addThing_2 fl_X8_21_8 (t_5 hB) rfl (sm_aload_n (z := 5) hx dX8_addThing_5 rfl (sm_getI hx dX8_addThing_6 fl_X8_18_8 (t_5 hB) rfl (sm_aload_n (z := 16) hx dX8_addThing_9 rfl (sm_iconst (v := 0) hx dX8_addThing_10 sm_kc_0 (sm_callVI (args := [.int 0]) (st := [.int (I 5 2), .int (I 5 3), .ref 5]) hx dX8_addThing_11 lv_X8_58_3 rfl rfl (t_16 hB) rfl rfl h (fun r2 I1 L1 hI1 => sm_callSI (args := [.int (I 5 3), .int (I 5 2), .int r2]) (st := [.ref 5]) hx dX8_addThing_14 ls_X8_66 rfl rfl rfl hI1 (fun r4 I3 L3 hI3 => sm_putI hx dX8_addThing_17 fl_X8_21_8 (t_5 hB) rfl (sm_aload_n (z := 5) hx dX8_addThing_20 rfl (sm_dup hx dX8_addThing_21 rfl (sm_getI hx dX8_addThing_22 fl_X8_18_8 (t_5 hB) rfl (sm_iconst (v := 1) hx dX8_addThing_25 sm_kc_1 (sm_iadd (a := ((sm_uI I3 5 3 r4) 5 2)) (b := 1) hx dX8_addThing_26 (sm_putI hx dX8_addThing_27 fl_X8_18_8 (t_5 hB) rfl (sm_iconst (v := 1) hx dX8_addThing_30 sm_kc_1 (sm_iretZ (z := true) hx dX8_addThing_31 rfl (hI3 _ rfl)))))))))))))))))))
theorem dX8_addMoon_0 : decode cX8_addMoon 0 = .ok (.aload_n 0, 1) := by decide +kernel
theorem dX8_addMoon_1 : decode cX8_addMoon 1 = .ok (.aload_n 1, 1) := by decide +kernel
theorem dX8_addMoon_2 : decode cX8_addMoon 2 = .ok (.iconst 0, 1) := by decide +kernel
theorem dX8_addMoon_3 : decode cX8_addMoon 3 = .ok (.invokevirtual 58, 3) := by decide +kernel
theorem dX8_addMoon_6 : decode cX8_addMoon 6 = .ok (.putfield 24, 3) := by decide +kernel
theorem dX8_addMoon_9 : decode cX8_addMoon 9 = .ok (.aload_n 0, 1) := by decide +kernel
theorem dX8_addMoon_10 : decode cX8_addMoon 10 = .ok (.aload_n 1, 1) := by decide +kernel
theorem dX8_addMoon_11 : decode cX8_addMoon 11 = .ok (.iconst 1, 1) := by decide +kernel
theorem dX8_addMoon_12 : decode cX8_addMoon 12 = .ok (.invokevirtual 58, 3) := by decide +kernel
theorem dX8_addMoon_15 : decode cX8_addMoon 15 = .ok (.putfield 27, 3) := by decide +kernel
theorem dX8_addMoon_18 : decode cX8_addMoon 18 = .ok (.iconst 1, 1) := by decide +kernel
theorem dX8_addMoon_19 : decode cX8_addMoon 19 = .ok (.ireturn, 1) := by decide +kernel
set_option maxRecDepth 100000 in
theorem c_X8_addMoon {n : Nat} {F : Bool → sm_MI → sm_ML → Prop} {T : List sm_Sh} {I : sm_MI} {L : sm_ML}  (hB : sm_Bs T)
    (h : sm_CI n mX3_at T I L [.ref 16, .int 0] (fun r2 I1 L1 => sm_CI n mX3_at T (sm_uI I1 5 4 r2) L1 [.ref 16, .int 1] (fun r4 I3 L3 => F true (sm_uI I3 5 5 r4) L3))) :
    sm_CZ (n + 1) mX8_addMoon T I L [.ref 5, .ref 16] F :=
  sm_CZ.of (by decide +kernel) rfl (fun x hx => show sm_V x 0 0 T I L 0 [some (.ref 5), some (.ref 16)] [] from
  sm_aload_n (z := 5) hx dX8_addMoon_0 rfl (sm_aload_n (z := 16) hx dX8_addMoon_1 rfl (sm_iconst (v := 0) hx dX8_addMoon_2 sm_kc_0 (sm_callVI (args := [.int 0]) (st := [.ref 5]) hx dX8_addMoon_3 lv_X8_58_3 rfl rfl (t_16 hB) rfl rfl h (fun r2 I1 L1 hI1 => sm_putI hx dX8_addMoon_6 fl_X8_24_8 (t_5 hB) rfl (sm_aload_n (z := 5) hx dX8_addMoon_9 rfl (sm_aload_n (z := 16) hx dX8_addMoon_10 rfl (sm_iconst (v := 1) hx dX8_addMoon_11 sm_kc_1 (sm_callVI (args := [.int 1]) (st := [.ref 5]) hx dX8_addMoon_12 lv_X8_58_3 rfl rfl (t_16 hB) rfl rfl hI1 (fun r4 I3 L3 hI3 => sm_putI hx dX8_addMoon_15 fl_X8_27_8 (t_5 hB) rfl (sm_iconst (v := 1) hx dX8_addMoon_18 sm_kc_1 (sm_iretZ (z := true) hx dX8_addMoon_19 rfl hI3))))))))))))
theorem dX8_isTold_0 : decode cX8_isTold 0 = .ok (.aload_n 0, 1) := by decide +kernel
theorem dX8_isTold_1 : decode cX8_isTold 1 = .ok (.getfield 9, 3) := by decide +kernel
theorem dX8_isTold_4 : decode cX8_isTold 4 = .ok (.ifCond .le 7, 3) := by decide +kernel
theorem dX8_isTold_7 : decode cX8_isTold 7 = .ok (.iconst 1, 1) := by decide +kernel
theorem dX8_isTold_8 : decode cX8_isTold 8 = .ok (.goto 4, 3) := by decide +kernel
theorem dX8_isTold_11 : decode cX8_isTold 11 = .ok (.iconst 0, 1) := by decide +kernel
theorem dX8_isTold_12 : decode cX8_isTold 12 = .ok (.ireturn, 1) := by decide +kernel
set_option maxRecDepth 100000 in
theorem c_X8_isTold {n : Nat} {F : Bool → sm_MI → sm_ML → Prop} {T : List sm_Sh} {I : sm_MI} {L : sm_ML}  (hB : sm_Bs T)
    (h : ((I 24 0) ≤ 0 → F false I L) ∧ (¬ (I 24 0) ≤ 0 → F true I L)) :
    sm_CZ n mX8_isTold T I L [.ref 24] F :=
  sm_CZ.of (by decide +kernel) rfl (fun x hx => show sm_V x 0 0 T I L 0 [some (.ref 24)] [] from
  sm_aload_n (z := 24) hx dX8_isTold_0 rfl (sm_getI hx dX8_isTold_1 fl_X8_9_8 (t_24 hB) rfl (sm_ifle (a := (I 24 0)) hx dX8_isTold_4 (tgt := 11) (by decide) (fun q1 => sm_iconst (v := 0) hx dX8_isTold_11 sm_kc_0 (sm_iretZ (z := false) hx dX8_isTold_12 rfl (h.1 q1))) (fun q1 => sm_iconst (v := 1) hx dX8_isTold_7 sm_kc_1 (sm_goto hx dX8_isTold_8 (tgt := 12) (by decide) (sm_iretZ (z := true) hx dX8_isTold_12 rfl (h.2 q1)))))))
theorem dX8_hasHouse_0 : decode cX8_hasHouse 0 = .ok (.iload_n 1, 1) := by decide +kernel
theorem dX8_hasHouse_1 : decode cX8_hasHouse 1 = .ok (.iconst 0, 1) := by decide +kernel
theorem dX8_hasHouse_2 : decode cX8_hasHouse 2 = .ok (.aload_n 0, 1) := by decide +kernel
theorem dX8_hasHouse_3 : decode cX8_hasHouse 3 = .ok (.getfield 9, 3) := by decide +kernel
theorem dX8_hasHouse_6 : decode cX8_hasHouse 6 = .ok (.iconst 1, 1) := by decide +kernel
theorem dX8_hasHouse_7 : decode cX8_hasHouse 7 = .ok (.isub, 1) := by decide +kernel
theorem dX8_hasHouse_8 : decode cX8_hasHouse 8 = .ok (.invokestatic 70, 3) := by decide +kernel
theorem dX8_hasHouse_11 : decode cX8_hasHouse 11 = .ok (.ireturn, 1) := by decide +kernel
set_option maxRecDepth 100000 in
theorem c_X8_hasHouse {n : Nat} {F : Bool → sm_MI → sm_ML → Prop} {T : List sm_Sh} {I : sm_MI} {L : sm_ML} {a1 : Int32} (hB : sm_Bs T)
    (h : sm_CZ n mX11_within T I L [.int a1, .int 0, .int ((I 24 0) - 1)] (fun r2 I1 L1 => F r2 I1 L1)) :
    sm_CZ (n + 1) mX8_hasHouse T I L [.ref 24, .int a1] F :=
  sm_CZ.of (by decide +kernel) rfl (fun x hx => show sm_V x 0 0 T I L 0 [some (.ref 24), some (.int a1)] [] from
  sm_iload_n (z := a1) hx dX8_hasHouse_0 rfl (sm_iconst (v := 0) hx dX8_hasHouse_1 sm_kc_0 (sm_aload_n (z := 24) hx dX8_hasHouse_2 rfl (sm_getI hx dX8_hasHouse_3 fl_X8_9_8 (t_24 hB) rfl (sm_iconst (v := 1) hx dX8_hasHouse_6 sm_kc_1 (sm_isub (a := (I 24 0)) (b := 1) hx dX8_hasHouse_7 (sm_callSZ (args := [.int a1, .int 0, .int ((I 24 0) - 1)]) (st := []) hx dX8_hasHouse_8 ls_X8_70 rfl rfl rfl h (fun r2 I1 L1 hI1 => sm_iretZ (z := r2) hx dX8_hasHouse_11 rfl hI1))))))))
theorem dX8_hasSleeper_0 : decode cX8_hasSleeper 0 = .ok (.iload_n 1, 1) := by decide +kernel
theorem dX8_hasSleeper_1 : decode cX8_hasSleeper 1 = .ok (.iconst 0, 1) := by decide +kernel
theorem dX8_hasSleeper_2 : decode cX8_hasSleeper 2 = .ok (.aload_n 0, 1) := by decide +kernel
theorem dX8_hasSleeper_3 : decode cX8_hasSleeper 3 = .ok (.getfield 15, 3) := by decide +kernel
theorem dX8_hasSleeper_6 : decode cX8_hasSleeper 6 = .ok (.iconst 1, 1) := by decide +kernel
theorem dX8_hasSleeper_7 : decode cX8_hasSleeper 7 = .ok (.isub, 1) := by decide +kernel
theorem dX8_hasSleeper_8 : decode cX8_hasSleeper 8 = .ok (.invokestatic 70, 3) := by decide +kernel
theorem dX8_hasSleeper_11 : decode cX8_hasSleeper 11 = .ok (.ireturn, 1) := by decide +kernel
set_option maxRecDepth 100000 in
theorem c_X8_hasSleeper {n : Nat} {F : Bool → sm_MI → sm_ML → Prop} {T : List sm_Sh} {I : sm_MI} {L : sm_ML} {a1 : Int32} (hB : sm_Bs T)
    (h : sm_CZ n mX11_within T I L [.int a1, .int 0, .int ((I 24 1) - 1)] (fun r2 I1 L1 => F r2 I1 L1)) :
    sm_CZ (n + 1) mX8_hasSleeper T I L [.ref 24, .int a1] F :=
  sm_CZ.of (by decide +kernel) rfl (fun x hx => show sm_V x 0 0 T I L 0 [some (.ref 24), some (.int a1)] [] from
  sm_iload_n (z := a1) hx dX8_hasSleeper_0 rfl (sm_iconst (v := 0) hx dX8_hasSleeper_1 sm_kc_0 (sm_aload_n (z := 24) hx dX8_hasSleeper_2 rfl (sm_getI hx dX8_hasSleeper_3 fl_X8_15_8 (t_24 hB) rfl (sm_iconst (v := 1) hx dX8_hasSleeper_6 sm_kc_1 (sm_isub (a := (I 24 1)) (b := 1) hx dX8_hasSleeper_7 (sm_callSZ (args := [.int a1, .int 0, .int ((I 24 1) - 1)]) (st := []) hx dX8_hasSleeper_8 ls_X8_70 rfl rfl rfl h (fun r2 I1 L1 hI1 => sm_iretZ (z := r2) hx dX8_hasSleeper_11 rfl hI1))))))))
theorem dX8_hasThing_0 : decode cX8_hasThing 0 = .ok (.iload_n 1, 1) := by decide +kernel
theorem dX8_hasThing_1 : decode cX8_hasThing 1 = .ok (.iconst 0, 1) := by decide +kernel
theorem dX8_hasThing_2 : decode cX8_hasThing 2 = .ok (.aload_n 0, 1) := by decide +kernel
theorem dX8_hasThing_3 : decode cX8_hasThing 3 = .ok (.getfield 18, 3) := by decide +kernel
theorem dX8_hasThing_6 : decode cX8_hasThing 6 = .ok (.iconst 1, 1) := by decide +kernel
theorem dX8_hasThing_7 : decode cX8_hasThing 7 = .ok (.isub, 1) := by decide +kernel
theorem dX8_hasThing_8 : decode cX8_hasThing 8 = .ok (.invokestatic 70, 3) := by decide +kernel
theorem dX8_hasThing_11 : decode cX8_hasThing 11 = .ok (.ireturn, 1) := by decide +kernel
set_option maxRecDepth 100000 in
theorem c_X8_hasThing {n : Nat} {F : Bool → sm_MI → sm_ML → Prop} {T : List sm_Sh} {I : sm_MI} {L : sm_ML} {a1 : Int32} (hB : sm_Bs T)
    (h : sm_CZ n mX11_within T I L [.int a1, .int 0, .int ((I 24 2) - 1)] (fun r2 I1 L1 => F r2 I1 L1)) :
    sm_CZ (n + 1) mX8_hasThing T I L [.ref 24, .int a1] F :=
  sm_CZ.of (by decide +kernel) rfl (fun x hx => show sm_V x 0 0 T I L 0 [some (.ref 24), some (.int a1)] [] from
  sm_iload_n (z := a1) hx dX8_hasThing_0 rfl (sm_iconst (v := 0) hx dX8_hasThing_1 sm_kc_0 (sm_aload_n (z := 24) hx dX8_hasThing_2 rfl (sm_getI hx dX8_hasThing_3 fl_X8_18_8 (t_24 hB) rfl (sm_iconst (v := 1) hx dX8_hasThing_6 sm_kc_1 (sm_isub (a := (I 24 2)) (b := 1) hx dX8_hasThing_7 (sm_callSZ (args := [.int a1, .int 0, .int ((I 24 2) - 1)]) (st := []) hx dX8_hasThing_8 ls_X8_70 rfl rfl rfl h (fun r2 I1 L1 hI1 => sm_iretZ (z := r2) hx dX8_hasThing_11 rfl hI1))))))))
theorem dX8_feverish_0 : decode cX8_feverish 0 = .ok (.iconst 0, 1) := by decide +kernel
theorem dX8_feverish_1 : decode cX8_feverish 1 = .ok (.istore_n 1, 1) := by decide +kernel
theorem dX8_feverish_2 : decode cX8_feverish 2 = .ok (.iconst 0, 1) := by decide +kernel
theorem dX8_feverish_3 : decode cX8_feverish 3 = .ok (.istore_n 2, 1) := by decide +kernel
theorem dX8_feverish_4 : decode cX8_feverish 4 = .ok (.iload_n 2, 1) := by decide +kernel
theorem dX8_feverish_5 : decode cX8_feverish 5 = .ok (.aload_n 0, 1) := by decide +kernel
theorem dX8_feverish_6 : decode cX8_feverish 6 = .ok (.getfield 15, 3) := by decide +kernel
theorem dX8_feverish_9 : decode cX8_feverish 9 = .ok (.if_icmp .ge 24, 3) := by decide +kernel
theorem dX8_feverish_12 : decode cX8_feverish 12 = .ok (.aload_n 0, 1) := by decide +kernel
theorem dX8_feverish_13 : decode cX8_feverish 13 = .ok (.getfield 42, 3) := by decide +kernel
theorem dX8_feverish_16 : decode cX8_feverish 16 = .ok (.iload_n 2, 1) := by decide +kernel
theorem dX8_feverish_17 : decode cX8_feverish 17 = .ok (.invokevirtual 58, 3) := by decide +kernel
theorem dX8_feverish_20 : decode cX8_feverish 20 = .ok (.iconst 3, 1) := by decide +kernel
theorem dX8_feverish_21 : decode cX8_feverish 21 = .ok (.if_icmp .ne 6, 3) := by decide +kernel
theorem dX8_feverish_24 : decode cX8_feverish 24 = .ok (.iinc 1 1, 3) := by decide +kernel
theorem dX8_feverish_27 : decode cX8_feverish 27 = .ok (.iinc 2 1, 3) := by decide +kernel
theorem dX8_feverish_30 : decode cX8_feverish 30 = .ok (.goto (-26), 3) := by decide +kernel
theorem dX8_feverish_33 : decode cX8_feverish 33 = .ok (.iload_n 1, 1) := by decide +kernel
theorem dX8_feverish_34 : decode cX8_feverish 34 = .ok (.ireturn, 1) := by decide +kernel
set_option maxRecDepth 100000 in
theorem u_X8_feverish_4 {x : sm_Cx} {n : Nat} {F : Int32 → sm_MI → sm_ML → Prop} {T : List sm_Sh} {I : sm_MI} {L : sm_ML} {a1 : Int32} {a2 : Int32} (hB : sm_Bs T) (hx : sm_Ok x mX8_feverish (n + 1) (sm_KI T F))
    (h : ((I 24 1) ≤ a2 → F a1 I L) ∧ (¬ (I 24 1) ≤ a2 → sm_CI n mX3_at T I L [.ref 29, .int a2] (fun r2 I1 L1 => (¬ r2 = 3 → sm_V x 0 0 T I1 L1 4 [some (.ref 24), some (.int a1), some (.int (a2 + 1))] []) ∧ (r2 = 3 → sm_V x 0 0 T I1 L1 4 [some (.ref 24), some (.int (a1 + 1)), some (.int (a2 + 1))] [])))) :
    sm_V x 0 0 T I L 4 [some (.ref 24), some (.int a1), some (.int a2)] [] :=
  sm_iload_n (z := a2) hx dX8_feverish_4 rfl (sm_aload_n (z := 24) hx dX8_feverish_5 rfl (sm_getI hx dX8_feverish_6 fl_X8_15_8 (t_24 hB) rfl (sm_icmpge (a := a2) (b := (I 24 1)) hx dX8_feverish_9 (tgt := 33) (by decide) (fun q2 => sm_iload_n (z := a1) hx dX8_feverish_33 rfl (sm_iretI hx dX8_feverish_34 rfl (h.1 q2))) (fun q2 => sm_aload_n (z := 24) hx dX8_feverish_12 rfl (sm_getR hx dX8_feverish_13 fl_X8_42_8 (t_24 hB) rfl (sm_iload_n (z := a2) hx dX8_feverish_16 rfl (sm_callVI (args := [.int a2]) (st := []) hx dX8_feverish_17 lv_X8_58_3 rfl rfl (t_29 hB) rfl rfl (h.2 q2) (fun r2 I1 L1 hI1 => sm_iconst (v := 3) hx dX8_feverish_20 sm_kc_3 (sm_icmpne (a := r2) (b := 3) hx dX8_feverish_21 (tgt := 27) (by decide) (fun q1 => sm_iinc (ls' := [some (.ref 24), some (.int a1), some (.int (a2 + 1))]) (z := a2) (v := (a2 + 1)) hx dX8_feverish_27 rfl (sm_kii_1 _) (by decide) rfl (sm_goto hx dX8_feverish_30 (tgt := 4) (by decide) ((hI1.1 q1)))) (fun q1 => sm_iinc (ls' := [some (.ref 24), some (.int (a1 + 1)), some (.int a2)]) (z := a1) (v := (a1 + 1)) hx dX8_feverish_24 rfl (sm_kii_1 _) (by decide) rfl (sm_iinc (ls' := [some (.ref 24), some (.int (a1 + 1)), some (.int (a2 + 1))]) (z := a2) (v := (a2 + 1)) hx dX8_feverish_27 rfl (sm_kii_1 _) (by decide) rfl (sm_goto hx dX8_feverish_30 (tgt := 4) (by decide) ((hI1.2 q1))))))))))))))
set_option maxRecDepth 100000 in
theorem c_X8_feverish {n : Nat} {F : Int32 → sm_MI → sm_ML → Prop} {T : List sm_Sh} {I : sm_MI} {L : sm_ML}  (hB : sm_Bs T)
    (h : ∀ x : sm_Cx, sm_Ok x mX8_feverish (n + 1) (sm_KI T F) → sm_V x 0 0 T I L 4 [some (.ref 24), some (.int 0), some (.int 0)] []) :
    sm_CI (n + 1) mX8_feverish T I L [.ref 24] F :=
  sm_CI.of (by decide +kernel) rfl (fun x hx => show sm_V x 0 0 T I L 0 [some (.ref 24), none, none] [] from
  sm_iconst (v := 0) hx dX8_feverish_0 sm_kc_0 (sm_istore_n (ls' := [some (.ref 24), some (.int 0), none]) hx dX8_feverish_1 (by decide) rfl (sm_iconst (v := 0) hx dX8_feverish_2 sm_kc_0 (sm_istore_n (ls' := [some (.ref 24), some (.int 0), some (.int 0)]) hx dX8_feverish_3 (by decide) rfl ((h x hx))))))
theorem dX8_isFull_0 : decode cX8_isFull 0 = .ok (.aload_n 0, 1) := by decide +kernel
theorem dX8_isFull_1 : decode cX8_isFull 1 = .ok (.getfield 24, 3) := by decide +kernel
theorem dX8_isFull_4 : decode cX8_isFull 4 = .ok (.ifCond .le 29, 3) := by decide +kernel
theorem dX8_isFull_7 : decode cX8_isFull 7 = .ok (.iload_n 1, 1) := by decide +kernel
theorem dX8_isFull_8 : decode cX8_isFull 8 = .ok (.aload_n 0, 1) := by decide +kernel
theorem dX8_isFull_9 : decode cX8_isFull 9 = .ok (.getfield 27, 3) := by decide +kernel
theorem dX8_isFull_12 : decode cX8_isFull 12 = .ok (.if_icmp .lt 21, 3) := by decide +kernel
theorem dX8_isFull_15 : decode cX8_isFull 15 = .ok (.iload_n 1, 1) := by decide +kernel
theorem dX8_isFull_16 : decode cX8_isFull 16 = .ok (.aload_n 0, 1) := by decide +kernel
theorem dX8_isFull_17 : decode cX8_isFull 17 = .ok (.getfield 27, 3) := by decide +kernel
theorem dX8_isFull_20 : decode cX8_isFull 20 = .ok (.isub, 1) := by decide +kernel
theorem dX8_isFull_21 : decode cX8_isFull 21 = .ok (.aload_n 0, 1) := by decide +kernel
theorem dX8_isFull_22 : decode cX8_isFull 22 = .ok (.getfield 24, 3) := by decide +kernel
theorem dX8_isFull_25 : decode cX8_isFull 25 = .ok (.irem, 1) := by decide +kernel
theorem dX8_isFull_26 : decode cX8_isFull 26 = .ok (.ifCond .ne 7, 3) := by decide +kernel
theorem dX8_isFull_29 : decode cX8_isFull 29 = .ok (.iconst 1, 1) := by decide +kernel
theorem dX8_isFull_30 : decode cX8_isFull 30 = .ok (.goto 4, 3) := by decide +kernel
theorem dX8_isFull_33 : decode cX8_isFull 33 = .ok (.iconst 0, 1) := by decide +kernel
theorem dX8_isFull_34 : decode cX8_isFull 34 = .ok (.ireturn, 1) := by decide +kernel
set_option maxRecDepth 100000 in
theorem c_X8_isFull {n : Nat} {F : Bool → sm_MI → sm_ML → Prop} {T : List sm_Sh} {I : sm_MI} {L : sm_ML} {a1 : Int32} (hB : sm_Bs T)
    (h : ((I 24 4) ≤ 0 → F false I L) ∧ (¬ (I 24 4) ≤ 0 → (a1 < (I 24 5) → F false I L) ∧ (¬ a1 < (I 24 5) → ¬ (I 24 4) = 0 ∧ ((¬ ((a1 - (I 24 5)) - (a1 - (I 24 5)) / (I 24 4) * (I 24 4)) = 0 → F false I L) ∧ (((a1 - (I 24 5)) - (a1 - (I 24 5)) / (I 24 4) * (I 24 4)) = 0 → F true I L))))) :
    sm_CZ n mX8_isFull T I L [.ref 24, .int a1] F :=
  sm_CZ.of (by decide +kernel) rfl (fun x hx => show sm_V x 0 0 T I L 0 [some (.ref 24), some (.int a1)] [] from
  sm_aload_n (z := 24) hx dX8_isFull_0 rfl (sm_getI hx dX8_isFull_1 fl_X8_24_8 (t_24 hB) rfl (sm_ifle (a := (I 24 4)) hx dX8_isFull_4 (tgt := 33) (by decide) (fun q3 => sm_iconst (v := 0) hx dX8_isFull_33 sm_kc_0 (sm_iretZ (z := false) hx dX8_isFull_34 rfl (h.1 q3))) (fun q3 => sm_iload_n (z := a1) hx dX8_isFull_7 rfl (sm_aload_n (z := 24) hx dX8_isFull_8 rfl (sm_getI hx dX8_isFull_9 fl_X8_27_8 (t_24 hB) rfl (sm_icmplt (a := a1) (b := (I 24 5)) hx dX8_isFull_12 (tgt := 33) (by decide) (fun q2 => sm_iconst (v := 0) hx dX8_isFull_33 sm_kc_0 (sm_iretZ (z := false) hx dX8_isFull_34 rfl ((h.2 q3).1 q2))) (fun q2 => sm_iload_n (z := a1) hx dX8_isFull_15 rfl (sm_aload_n (z := 24) hx dX8_isFull_16 rfl (sm_getI hx dX8_isFull_17 fl_X8_27_8 (t_24 hB) rfl (sm_isub (a := a1) (b := (I 24 5)) hx dX8_isFull_20 (sm_aload_n (z := 24) hx dX8_isFull_21 rfl (sm_getI hx dX8_isFull_22 fl_X8_24_8 (t_24 hB) rfl (sm_irem (a := (a1 - (I 24 5))) (b := (I 24 4)) hx dX8_isFull_25 ((h.2 q3).2 q2).1 (sm_ifne (a := ((a1 - (I 24 5)) - (a1 - (I 24 5)) / (I 24 4) * (I 24 4))) hx dX8_isFull_26 (tgt := 33) (by decide) (fun q1 => sm_iconst (v := 0) hx dX8_isFull_33 sm_kc_0 (sm_iretZ (z := false) hx dX8_isFull_34 rfl (((h.2 q3).2 q2).2.1 q1))) (fun q1 => sm_iconst (v := 1) hx dX8_isFull_29 sm_kc_1 (sm_goto hx dX8_isFull_30 (tgt := 34) (by decide) (sm_iretZ (z := true) hx dX8_isFull_34 rfl (((h.2 q3).2 q2).2.2 q1)))))))))))))))))))
theorem dX8_moonStand_0 : decode cX8_moonStand 0 = .ok (.aload_n 0, 1) := by decide +kernel
theorem dX8_moonStand_1 : decode cX8_moonStand 1 = .ok (.getfield 24, 3) := by decide +kernel
theorem dX8_moonStand_4 : decode cX8_moonStand 4 = .ok (.ifCond .le 19, 3) := by decide +kernel
theorem dX8_moonStand_7 : decode cX8_moonStand 7 = .ok (.iload_n 1, 1) := by decide +kernel
theorem dX8_moonStand_8 : decode cX8_moonStand 8 = .ok (.aload_n 0, 1) := by decide +kernel
theorem dX8_moonStand_9 : decode cX8_moonStand 9 = .ok (.getfield 27, 3) := by decide +kernel
theorem dX8_moonStand_12 : decode cX8_moonStand 12 = .ok (.isub, 1) := by decide +kernel
theorem dX8_moonStand_13 : decode cX8_moonStand 13 = .ok (.aload_n 0, 1) := by decide +kernel
theorem dX8_moonStand_14 : decode cX8_moonStand 14 = .ok (.getfield 24, 3) := by decide +kernel
theorem dX8_moonStand_17 : decode cX8_moonStand 17 = .ok (.invokestatic 74, 3) := by decide +kernel
theorem dX8_moonStand_20 : decode cX8_moonStand 20 = .ok (.goto 4, 3) := by decide +kernel
theorem dX8_moonStand_23 : decode cX8_moonStand 23 = .ok (.iconst 0, 1) := by decide +kernel
theorem dX8_moonStand_24 : decode cX8_moonStand 24 = .ok (.ireturn, 1) := by decide +kernel
set_option maxRecDepth 100000 in
theorem c_X8_moonStand {n : Nat} {F : Int32 → sm_MI → sm_ML → Prop} {T : List sm_Sh} {I : sm_MI} {L : sm_ML} {a1 : Int32} (hB : sm_Bs T)
    (h : ((I 24 4) ≤ 0 → F 0 I L) ∧ (¬ (I 24 4) ≤ 0 → sm_CI n mJ9_floorMod_7cf53 T I L [.int (a1 - (I 24 5)), .int (I 24 4)] (fun r2 I1 L1 => F r2 I1 L1))) :
    sm_CI (n + 1) mX8_moonStand T I L [.ref 24, .int a1] F :=
  sm_CI.of (by decide +kernel) rfl (fun x hx => show sm_V x 0 0 T I L 0 [some (.ref 24), some (.int a1)] [] from
  sm_aload_n (z := 24) hx dX8_moonStand_0 rfl (sm_getI hx dX8_moonStand_1 fl_X8_24_8 (t_24 hB) rfl (sm_ifle (a := (I 24 4)) hx dX8_moonStand_4 (tgt := 23) (by decide) (fun q1 => sm_iconst (v := 0) hx dX8_moonStand_23 sm_kc_0 (sm_iretI hx dX8_moonStand_24 rfl (h.1 q1))) (fun q1 => sm_iload_n (z := a1) hx dX8_moonStand_7 rfl (sm_aload_n (z := 24) hx dX8_moonStand_8 rfl (sm_getI hx dX8_moonStand_9 fl_X8_27_8 (t_24 hB) rfl (sm_isub (a := a1) (b := (I 24 5)) hx dX8_moonStand_12 (sm_aload_n (z := 24) hx dX8_moonStand_13 rfl (sm_getI hx dX8_moonStand_14 fl_X8_24_8 (t_24 hB) rfl (sm_callSI (args := [.int (a1 - (I 24 5)), .int (I 24 4)]) (st := []) hx dX8_moonStand_17 ls_X8_74 rfl rfl rfl (h.2 q1) (fun r2 I1 L1 hI1 => sm_goto hx dX8_moonStand_20 (tgt := 24) (by decide) (sm_iretI hx dX8_moonStand_24 rfl hI1))))))))))))
theorem dX8_around_0 : decode cX8_around 0 = .ok (.aload_n 0, 1) := by decide +kernel
theorem dX8_around_1 : decode cX8_around 1 = .ok (.getfield 9, 3) := by decide +kernel
theorem dX8_around_4 : decode cX8_around 4 = .ok (.ifCond .le 16, 3) := by decide +kernel
theorem dX8_around_7 : decode cX8_around 7 = .ok (.iload_n 1, 1) := by decide +kernel
theorem dX8_around_8 : decode cX8_around 8 = .ok (.iload_n 2, 1) := by decide +kernel
theorem dX8_around_9 : decode cX8_around 9 = .ok (.iadd, 1) := by decide +kernel
theorem dX8_around_10 : decode cX8_around 10 = .ok (.aload_n 0, 1) := by decide +kernel
theorem dX8_around_11 : decode cX8_around 11 = .ok (.getfield 9, 3) := by decide +kernel
theorem dX8_around_14 : decode cX8_around 14 = .ok (.invokestatic 74, 3) := by decide +kernel
theorem dX8_around_17 : decode cX8_around 17 = .ok (.goto 4, 3) := by decide +kernel
theorem dX8_around_20 : decode cX8_around 20 = .ok (.iconst 0, 1) := by decide +kernel
theorem dX8_around_21 : decode cX8_around 21 = .ok (.ireturn, 1) := by decide +kernel
set_option maxRecDepth 100000 in
theorem c_X8_around {n : Nat} {F : Int32 → sm_MI → sm_ML → Prop} {T : List sm_Sh} {I : sm_MI} {L : sm_ML} {a1 : Int32} {a2 : Int32} (hB : sm_Bs T)
    (h : ((I 24 0) ≤ 0 → F 0 I L) ∧ (¬ (I 24 0) ≤ 0 → sm_CI n mJ9_floorMod_7cf53 T I L [.int (a1 + a2), .int (I 24 0)] (fun r2 I1 L1 => F r2 I1 L1))) :
    sm_CI (n + 1) mX8_around T I L [.ref 24, .int a1, .int a2] F :=
  sm_CI.of (by decide +kernel) rfl (fun x hx => show sm_V x 0 0 T I L 0 [some (.ref 24), some (.int a1), some (.int a2)] [] from
  sm_aload_n (z := 24) hx dX8_around_0 rfl (sm_getI hx dX8_around_1 fl_X8_9_8 (t_24 hB) rfl (sm_ifle (a := (I 24 0)) hx dX8_around_4 (tgt := 20) (by decide) (fun q1 => sm_iconst (v := 0) hx dX8_around_20 sm_kc_0 (sm_iretI hx dX8_around_21 rfl (h.1 q1))) (fun q1 => sm_iload_n (z := a1) hx dX8_around_7 rfl (sm_iload_n (z := a2) hx dX8_around_8 rfl (sm_iadd (a := a1) (b := a2) hx dX8_around_9 (sm_aload_n (z := 24) hx dX8_around_10 rfl (sm_getI hx dX8_around_11 fl_X8_9_8 (t_24 hB) rfl (sm_callSI (args := [.int (a1 + a2), .int (I 24 0)]) (st := []) hx dX8_around_14 ls_X8_74 rfl rfl rfl (h.2 q1) (fun r2 I1 L1 hI1 => sm_goto hx dX8_around_17 (tgt := 21) (by decide) (sm_iretI hx dX8_around_21 rfl hI1)))))))))))
theorem dX8_thingsIn_0 : decode cX8_thingsIn 0 = .ok (.iconst 0, 1) := by decide +kernel
theorem dX8_thingsIn_1 : decode cX8_thingsIn 1 = .ok (.istore_n 3, 1) := by decide +kernel
theorem dX8_thingsIn_2 : decode cX8_thingsIn 2 = .ok (.iconst 0, 1) := by decide +kernel
theorem dX8_thingsIn_3 : decode cX8_thingsIn 3 = .ok (.istore 4, 2) := by decide +kernel
theorem dX8_thingsIn_5 : decode cX8_thingsIn 5 = .ok (.iload 4, 2) := by decide +kernel
theorem dX8_thingsIn_7 : decode cX8_thingsIn 7 = .ok (.aload_n 0, 1) := by decide +kernel
theorem dX8_thingsIn_8 : decode cX8_thingsIn 8 = .ok (.getfield 18, 3) := by decide +kernel
theorem dX8_thingsIn_11 : decode cX8_thingsIn 11 = .ok (.if_icmp .ge 26, 3) := by decide +kernel
theorem dX8_thingsIn_14 : decode cX8_thingsIn 14 = .ok (.iload_n 1, 1) := by decide +kernel
theorem dX8_thingsIn_15 : decode cX8_thingsIn 15 = .ok (.iload 4, 2) := by decide +kernel
theorem dX8_thingsIn_17 : decode cX8_thingsIn 17 = .ok (.invokestatic 80, 3) := by decide +kernel
theorem dX8_thingsIn_20 : decode cX8_thingsIn 20 = .ok (.iload_n 2, 1) := by decide +kernel
theorem dX8_thingsIn_21 : decode cX8_thingsIn 21 = .ok (.if_icmp .ne 10, 3) := by decide +kernel
theorem dX8_thingsIn_24 : decode cX8_thingsIn 24 = .ok (.iload_n 3, 1) := by decide +kernel
theorem dX8_thingsIn_25 : decode cX8_thingsIn 25 = .ok (.iconst 1, 1) := by decide +kernel
theorem dX8_thingsIn_26 : decode cX8_thingsIn 26 = .ok (.iload 4, 2) := by decide +kernel
theorem dX8_thingsIn_28 : decode cX8_thingsIn 28 = .ok (.ishl, 1) := by decide +kernel
theorem dX8_thingsIn_29 : decode cX8_thingsIn 29 = .ok (.ior, 1) := by decide +kernel
theorem dX8_thingsIn_30 : decode cX8_thingsIn 30 = .ok (.istore_n 3, 1) := by decide +kernel
theorem dX8_thingsIn_31 : decode cX8_thingsIn 31 = .ok (.iinc 4 1, 3) := by decide +kernel
theorem dX8_thingsIn_34 : decode cX8_thingsIn 34 = .ok (.goto (-29), 3) := by decide +kernel
theorem dX8_thingsIn_37 : decode cX8_thingsIn 37 = .ok (.iload_n 3, 1) := by decide +kernel
theorem dX8_thingsIn_38 : decode cX8_thingsIn 38 = .ok (.ireturn, 1) := by decide +kernel
set_option maxRecDepth 100000 in
theorem u_X8_thingsIn_5 {x : sm_Cx} {n : Nat} {F : Int32 → sm_MI → sm_ML → Prop} {T : List sm_Sh} {I : sm_MI} {L : sm_ML} {a1 : Int32} {a2 : Int32} {a3 : Int32} {a4 : Int32} (hB : sm_Bs T) (hx : sm_Ok x mX8_thingsIn (n + 1) (sm_KI T F))
    (h : ((I 24 2) ≤ a4 → F a3 I L) ∧ (¬ (I 24 2) ≤ a4 → sm_CI n mX11_placeIn T I L [.int a1, .int a4] (fun r2 I1 L1 => (¬ r2 = a2 → sm_V x 0 0 T I1 L1 5 [some (.ref 24), some (.int a1), some (.int a2), some (.int a3), some (.int (a4 + 1))] []) ∧ (r2 = a2 → sm_V x 0 0 T I1 L1 5 [some (.ref 24), some (.int a1), some (.int a2), some (.int (a3 ||| (1 <<< (a4 &&& 31)))), some (.int (a4 + 1))] [])))) :
    sm_V x 0 0 T I L 5 [some (.ref 24), some (.int a1), some (.int a2), some (.int a3), some (.int a4)] [] :=
  sm_iload (z := a4) hx dX8_thingsIn_5 rfl (sm_aload_n (z := 24) hx dX8_thingsIn_7 rfl (sm_getI hx dX8_thingsIn_8 fl_X8_18_8 (t_24 hB) rfl (sm_icmpge (a := a4) (b := (I 24 2)) hx dX8_thingsIn_11 (tgt := 37) (by decide) (fun q2 => sm_iload_n (z := a3) hx dX8_thingsIn_37 rfl (sm_iretI hx dX8_thingsIn_38 rfl (h.1 q2))) (fun q2 => sm_iload_n (z := a1) hx dX8_thingsIn_14 rfl (sm_iload (z := a4) hx dX8_thingsIn_15 rfl (sm_callSI (args := [.int a1, .int a4]) (st := []) hx dX8_thingsIn_17 ls_X8_80 rfl rfl rfl (h.2 q2) (fun r2 I1 L1 hI1 => sm_iload_n (z := a2) hx dX8_thingsIn_20 rfl (sm_icmpne (a := r2) (b := a2) hx dX8_thingsIn_21 (tgt := 31) (by decide) (fun q1 => sm_iinc (ls' := [some (.ref 24), some (.int a1), some (.int a2), some (.int a3), some (.int (a4 + 1))]) (z := a4) (v := (a4 + 1)) hx dX8_thingsIn_31 rfl (sm_kii_1 _) (by decide) rfl (sm_goto hx dX8_thingsIn_34 (tgt := 5) (by decide) ((hI1.1 q1)))) (fun q1 => sm_iload_n (z := a3) hx dX8_thingsIn_24 rfl (sm_iconst (v := 1) hx dX8_thingsIn_25 sm_kc_1 (sm_iload (z := a4) hx dX8_thingsIn_26 rfl (sm_ishl (a := 1) (b := a4) hx dX8_thingsIn_28 (sm_ior (a := a3) (b := (1 <<< (a4 &&& 31))) hx dX8_thingsIn_29 (sm_istore_n (ls' := [some (.ref 24), some (.int a1), some (.int a2), some (.int (a3 ||| (1 <<< (a4 &&& 31)))), some (.int a4)]) hx dX8_thingsIn_30 (by decide) rfl (sm_iinc (ls' := [some (.ref 24), some (.int a1), some (.int a2), some (.int (a3 ||| (1 <<< (a4 &&& 31)))), some (.int (a4 + 1))]) (z := a4) (v := (a4 + 1)) hx dX8_thingsIn_31 rfl (sm_kii_1 _) (by decide) rfl (sm_goto hx dX8_thingsIn_34 (tgt := 5) (by decide) ((hI1.2 q1))))))))))))))))))
set_option maxRecDepth 100000 in
theorem c_X8_thingsIn {n : Nat} {F : Int32 → sm_MI → sm_ML → Prop} {T : List sm_Sh} {I : sm_MI} {L : sm_ML} {a1 : Int32} {a2 : Int32} (hB : sm_Bs T)
    (h : ∀ x : sm_Cx, sm_Ok x mX8_thingsIn (n + 1) (sm_KI T F) → sm_V x 0 0 T I L 5 [some (.ref 24), some (.int a1), some (.int a2), some (.int 0), some (.int 0)] []) :
    sm_CI (n + 1) mX8_thingsIn T I L [.ref 24, .int a1, .int a2] F :=
  sm_CI.of (by decide +kernel) rfl (fun x hx => show sm_V x 0 0 T I L 0 [some (.ref 24), some (.int a1), some (.int a2), none, none] [] from
  sm_iconst (v := 0) hx dX8_thingsIn_0 sm_kc_0 (sm_istore_n (ls' := [some (.ref 24), some (.int a1), some (.int a2), some (.int 0), none]) hx dX8_thingsIn_1 (by decide) rfl (sm_iconst (v := 0) hx dX8_thingsIn_2 sm_kc_0 (sm_istore (ls' := [some (.ref 24), some (.int a1), some (.int a2), some (.int 0), some (.int 0)]) hx dX8_thingsIn_3 (by decide) rfl ((h x hx))))))
theorem dX8_fullestHouse_0 : decode cX8_fullestHouse 0 = .ok (.iconst (-1), 1) := by decide +kernel
theorem dX8_fullestHouse_1 : decode cX8_fullestHouse 1 = .ok (.istore_n 2, 1) := by decide +kernel
theorem dX8_fullestHouse_2 : decode cX8_fullestHouse 2 = .ok (.iconst (-1), 1) := by decide +kernel
theorem dX8_fullestHouse_3 : decode cX8_fullestHouse 3 = .ok (.istore_n 3, 1) := by decide +kernel
theorem dX8_fullestHouse_4 : decode cX8_fullestHouse 4 = .ok (.iconst 0, 1) := by decide +kernel
theorem dX8_fullestHouse_5 : decode cX8_fullestHouse 5 = .ok (.istore 4, 2) := by decide +kernel
theorem dX8_fullestHouse_7 : decode cX8_fullestHouse 7 = .ok (.iload 4, 2) := by decide +kernel
theorem dX8_fullestHouse_9 : decode cX8_fullestHouse 9 = .ok (.aload_n 0, 1) := by decide +kernel
theorem dX8_fullestHouse_10 : decode cX8_fullestHouse 10 = .ok (.getfield 9, 3) := by decide +kernel
theorem dX8_fullestHouse_13 : decode cX8_fullestHouse 13 = .ok (.if_icmp .ge 33, 3) := by decide +kernel
theorem dX8_fullestHouse_16 : decode cX8_fullestHouse 16 = .ok (.aload_n 0, 1) := by decide +kernel
theorem dX8_fullestHouse_17 : decode cX8_fullestHouse 17 = .ok (.iload_n 1, 1) := by decide +kernel
theorem dX8_fullestHouse_18 : decode cX8_fullestHouse 18 = .ok (.iload 4, 2) := by decide +kernel
theorem dX8_fullestHouse_20 : decode cX8_fullestHouse 20 = .ok (.invokevirtual 83, 3) := by decide +kernel
theorem dX8_fullestHouse_23 : decode cX8_fullestHouse 23 = .ok (.invokestatic 86, 3) := by decide +kernel
theorem dX8_fullestHouse_26 : decode cX8_fullestHouse 26 = .ok (.istore 5, 2) := by decide +kernel
theorem dX8_fullestHouse_28 : decode cX8_fullestHouse 28 = .ok (.iload 5, 2) := by decide +kernel
theorem dX8_fullestHouse_30 : decode cX8_fullestHouse 30 = .ok (.iload_n 2, 1) := by decide +kernel
theorem dX8_fullestHouse_31 : decode cX8_fullestHouse 31 = .ok (.if_icmp .le 9, 3) := by decide +kernel
theorem dX8_fullestHouse_34 : decode cX8_fullestHouse 34 = .ok (.iload 5, 2) := by decide +kernel
theorem dX8_fullestHouse_36 : decode cX8_fullestHouse 36 = .ok (.istore_n 2, 1) := by decide +kernel
theorem dX8_fullestHouse_37 : decode cX8_fullestHouse 37 = .ok (.iload 4, 2) := by decide +kernel
theorem dX8_fullestHouse_39 : decode cX8_fullestHouse 39 = .ok (.istore_n 3, 1) := by decide +kernel
theorem dX8_fullestHouse_40 : decode cX8_fullestHouse 40 = .ok (.iinc 4 1, 3) := by decide +kernel
theorem dX8_fullestHouse_43 : decode cX8_fullestHouse 43 = .ok (.goto (-36), 3) := by decide +kernel
theorem dX8_fullestHouse_46 : decode cX8_fullestHouse 46 = .ok (.iload_n 3, 1) := by decide +kernel
theorem dX8_fullestHouse_47 : decode cX8_fullestHouse 47 = .ok (.ireturn, 1) := by decide +kernel
set_option maxRecDepth 100000 in
theorem u_X8_fullestHouse_7 {x : sm_Cx} {n : Nat} {F : Int32 → sm_MI → sm_ML → Prop} {T : List sm_Sh} {I : sm_MI} {L : sm_ML} {a1 : Int32} {a2 : Int32} {a3 : Int32} {a4 : Int32} {u5 : Option Value} (hB : sm_Bs T) (hx : sm_Ok x mX8_fullestHouse (n + 1) (sm_KI T F))
    (h : ((I 24 0) ≤ a4 → F a3 I L) ∧ (¬ (I 24 0) ≤ a4 → sm_CI n mX8_thingsIn T I L [.ref 24, .int a1, .int a4] (fun r2 I1 L1 => sm_CI n mJ6_bitCount_0f7a4 T I1 L1 [.int r2] (fun r4 I3 L3 => (r4 ≤ a2 → sm_V x 0 0 T I3 L3 7 [some (.ref 24), some (.int a1), some (.int a2), some (.int a3), some (.int (a4 + 1)), some (.int r4)] []) ∧ (¬ r4 ≤ a2 → sm_V x 0 0 T I3 L3 7 [some (.ref 24), some (.int a1), some (.int r4), some (.int a4), some (.int (a4 + 1)), some (.int r4)] []))))) :
    sm_V x 0 0 T I L 7 [some (.ref 24), some (.int a1), some (.int a2), some (.int a3), some (.int a4), u5] [] :=
  sm_iload (z := a4) hx dX8_fullestHouse_7 rfl (sm_aload_n (z := 24) hx dX8_fullestHouse_9 rfl (sm_getI hx dX8_fullestHouse_10 fl_X8_9_8 (t_24 hB) rfl (sm_icmpge (a := a4) (b := (I 24 0)) hx dX8_fullestHouse_13 (tgt := 46) (by decide) (fun q2 => sm_iload_n (z := a3) hx dX8_fullestHouse_46 rfl (sm_iretI hx dX8_fullestHouse_47 rfl (h.1 q2))) (fun q2 => sm_aload_n (z := 24) hx dX8_fullestHouse_16 rfl (sm_iload_n (z := a1) hx dX8_fullestHouse_17 rfl (sm_iload (z := a4) hx dX8_fullestHouse_18 rfl (sm_callVI (args := [.int a1, .int a4]) (st := []) hx dX8_fullestHouse_20 lv_X8_83_8 rfl rfl (t_24 hB) rfl rfl (h.2 q2) (fun r2 I1 L1 hI1 => sm_callSI (args := [.int r2]) (st := []) hx dX8_fullestHouse_23 ls_X8_86 rfl rfl rfl hI1 (fun r4 I3 L3 hI3 => sm_istore (ls' := [some (.ref 24), some (.int a1), some (.int a2), some (.int a3), some (.int a4), some (.int r4)]) hx dX8_fullestHouse_26 (by decide) rfl (sm_iload (z := r4) hx dX8_fullestHouse_28 rfl (sm_iload_n (z := a2) hx dX8_fullestHouse_30 rfl (sm_icmple (a := r4) (b := a2) hx dX8_fullestHouse_31 (tgt := 40) (by decide) (fun q1 => sm_iinc (ls' := [some (.ref 24), some (.int a1), some (.int a2), some (.int a3), some (.int (a4 + 1)), some (.int r4)]) (z := a4) (v := (a4 + 1)) hx dX8_fullestHouse_40 rfl (sm_kii_1 _) (by decide) rfl (sm_goto hx dX8_fullestHouse_43 (tgt := 7) (by decide) ((hI3.1 q1)))) (fun q1 => sm_iload (z := r4) hx dX8_fullestHouse_34 rfl (sm_istore_n (ls' := [some (.ref 24), some (.int a1), some (.int r4), some (.int a3), some (.int a4), some (.int r4)]) hx dX8_fullestHouse_36 (by decide) rfl (sm_iload (z := a4) hx dX8_fullestHouse_37 rfl (sm_istore_n (ls' := [some (.ref 24), some (.int a1), some (.int r4), some (.int a4), some (.int a4), some (.int r4)]) hx dX8_fullestHouse_39 (by decide) rfl (sm_iinc (ls' := [some (.ref 24), some (.int a1), some (.int r4), some (.int a4), some (.int (a4 + 1)), some (.int r4)]) (z := a4) (v := (a4 + 1)) hx dX8_fullestHouse_40 rfl (sm_kii_1 _) (by decide) rfl (sm_goto hx dX8_fullestHouse_43 (tgt := 7) (by decide) ((hI3.2 q1))))))))))))))))))))
set_option maxRecDepth 100000 in
theorem c_X8_fullestHouse {n : Nat} {F : Int32 → sm_MI → sm_ML → Prop} {T : List sm_Sh} {I : sm_MI} {L : sm_ML} {a1 : Int32} (hB : sm_Bs T)
    (h : ∀ x : sm_Cx, sm_Ok x mX8_fullestHouse (n + 1) (sm_KI T F) → sm_V x 0 0 T I L 7 [some (.ref 24), some (.int a1), some (.int (-1)), some (.int (-1)), some (.int 0), none] []) :
    sm_CI (n + 1) mX8_fullestHouse T I L [.ref 24, .int a1] F :=
  sm_CI.of (by decide +kernel) rfl (fun x hx => show sm_V x 0 0 T I L 0 [some (.ref 24), some (.int a1), none, none, none, none] [] from
  sm_iconst (v := (-1)) hx dX8_fullestHouse_0 sm_kc_m1 (sm_istore_n (ls' := [some (.ref 24), some (.int a1), some (.int (-1)), none, none, none]) hx dX8_fullestHouse_1 (by decide) rfl (sm_iconst (v := (-1)) hx dX8_fullestHouse_2 sm_kc_m1 (sm_istore_n (ls' := [some (.ref 24), some (.int a1), some (.int (-1)), some (.int (-1)), none, none]) hx dX8_fullestHouse_3 (by decide) rfl (sm_iconst (v := 0) hx dX8_fullestHouse_4 sm_kc_0 (sm_istore (ls' := [some (.ref 24), some (.int a1), some (.int (-1)), some (.int (-1)), some (.int 0), none]) hx dX8_fullestHouse_5 (by decide) rfl ((h x hx))))))))
theorem dX8_elsewhere_0 : decode cX8_elsewhere 0 = .ok (.iconst 0, 1) := by decide +kernel
theorem dX8_elsewhere_1 : decode cX8_elsewhere 1 = .ok (.istore_n 3, 1) := by decide +kernel
theorem dX8_elsewhere_2 : decode cX8_elsewhere 2 = .ok (.iconst 0, 1) := by decide +kernel
theorem dX8_elsewhere_3 : decode cX8_elsewhere 3 = .ok (.istore 4, 2) := by decide +kernel
theorem dX8_elsewhere_5 : decode cX8_elsewhere 5 = .ok (.iload 4, 2) := by decide +kernel
theorem dX8_elsewhere_7 : decode cX8_elsewhere 7 = .ok (.aload_n 0, 1) := by decide +kernel
theorem dX8_elsewhere_8 : decode cX8_elsewhere 8 = .ok (.getfield 18, 3) := by decide +kernel
theorem dX8_elsewhere_11 : decode cX8_elsewhere 11 = .ok (.if_icmp .ge 31, 3) := by decide +kernel
theorem dX8_elsewhere_14 : decode cX8_elsewhere 14 = .ok (.iload_n 1, 1) := by decide +kernel
theorem dX8_elsewhere_15 : decode cX8_elsewhere 15 = .ok (.iload 4, 2) := by decide +kernel
theorem dX8_elsewhere_17 : decode cX8_elsewhere 17 = .ok (.invokestatic 80, 3) := by decide +kernel
theorem dX8_elsewhere_20 : decode cX8_elsewhere 20 = .ok (.iload_n 2, 1) := by decide +kernel
theorem dX8_elsewhere_21 : decode cX8_elsewhere 21 = .ok (.iload 4, 2) := by decide +kernel
theorem dX8_elsewhere_23 : decode cX8_elsewhere 23 = .ok (.invokestatic 80, 3) := by decide +kernel
theorem dX8_elsewhere_26 : decode cX8_elsewhere 26 = .ok (.if_icmp .eq 10, 3) := by decide +kernel
theorem dX8_elsewhere_29 : decode cX8_elsewhere 29 = .ok (.iload_n 3, 1) := by decide +kernel
theorem dX8_elsewhere_30 : decode cX8_elsewhere 30 = .ok (.iconst 1, 1) := by decide +kernel
theorem dX8_elsewhere_31 : decode cX8_elsewhere 31 = .ok (.iload 4, 2) := by decide +kernel
theorem dX8_elsewhere_33 : decode cX8_elsewhere 33 = .ok (.ishl, 1) := by decide +kernel
theorem dX8_elsewhere_34 : decode cX8_elsewhere 34 = .ok (.ior, 1) := by decide +kernel
theorem dX8_elsewhere_35 : decode cX8_elsewhere 35 = .ok (.istore_n 3, 1) := by decide +kernel
theorem dX8_elsewhere_36 : decode cX8_elsewhere 36 = .ok (.iinc 4 1, 3) := by decide +kernel
theorem dX8_elsewhere_39 : decode cX8_elsewhere 39 = .ok (.goto (-34), 3) := by decide +kernel
theorem dX8_elsewhere_42 : decode cX8_elsewhere 42 = .ok (.iload_n 3, 1) := by decide +kernel
theorem dX8_elsewhere_43 : decode cX8_elsewhere 43 = .ok (.ireturn, 1) := by decide +kernel
set_option maxRecDepth 100000 in
theorem u_X8_elsewhere_5 {x : sm_Cx} {n : Nat} {F : Int32 → sm_MI → sm_ML → Prop} {T : List sm_Sh} {I : sm_MI} {L : sm_ML} {a1 : Int32} {a2 : Int32} {a3 : Int32} {a4 : Int32} (hB : sm_Bs T) (hx : sm_Ok x mX8_elsewhere (n + 1) (sm_KI T F))
    (h : ((I 24 2) ≤ a4 → F a3 I L) ∧ (¬ (I 24 2) ≤ a4 → sm_CI n mX11_placeIn T I L [.int a1, .int a4] (fun r2 I1 L1 => sm_CI n mX11_placeIn T I1 L1 [.int a2, .int a4] (fun r4 I3 L3 => (r2 = r4 → sm_V x 0 0 T I3 L3 5 [some (.ref 24), some (.int a1), some (.int a2), some (.int a3), some (.int (a4 + 1))] []) ∧ (¬ r2 = r4 → sm_V x 0 0 T I3 L3 5 [some (.ref 24), some (.int a1), some (.int a2), some (.int (a3 ||| (1 <<< (a4 &&& 31)))), some (.int (a4 + 1))] []))))) :
    sm_V x 0 0 T I L 5 [some (.ref 24), some (.int a1), some (.int a2), some (.int a3), some (.int a4)] [] :=
  sm_iload (z := a4) hx dX8_elsewhere_5 rfl (sm_aload_n (z := 24) hx dX8_elsewhere_7 rfl (sm_getI hx dX8_elsewhere_8 fl_X8_18_8 (t_24 hB) rfl (sm_icmpge (a := a4) (b := (I 24 2)) hx dX8_elsewhere_11 (tgt := 42) (by decide) (fun q2 => sm_iload_n (z := a3) hx dX8_elsewhere_42 rfl (sm_iretI hx dX8_elsewhere_43 rfl (h.1 q2))) (fun q2 => sm_iload_n (z := a1) hx dX8_elsewhere_14 rfl (sm_iload (z := a4) hx dX8_elsewhere_15 rfl (sm_callSI (args := [.int a1, .int a4]) (st := []) hx dX8_elsewhere_17 ls_X8_80 rfl rfl rfl (h.2 q2) (fun r2 I1 L1 hI1 => sm_iload_n (z := a2) hx dX8_elsewhere_20 rfl (sm_iload (z := a4) hx dX8_elsewhere_21 rfl (sm_callSI (args := [.int a2, .int a4]) (st := [.int r2]) hx dX8_elsewhere_23 ls_X8_80 rfl rfl rfl hI1 (fun r4 I3 L3 hI3 => sm_icmpeq (a := r2) (b := r4) hx dX8_elsewhere_26 (tgt := 36) (by decide) (fun q1 => sm_iinc (ls' := [some (.ref 24), some (.int a1), some (.int a2), some (.int a3), some (.int (a4 + 1))]) (z := a4) (v := (a4 + 1)) hx dX8_elsewhere_36 rfl (sm_kii_1 _) (by decide) rfl (sm_goto hx dX8_elsewhere_39 (tgt := 5) (by decide) ((hI3.1 q1)))) (fun q1 => sm_iload_n (z := a3) hx dX8_elsewhere_29 rfl (sm_iconst (v := 1) hx dX8_elsewhere_30 sm_kc_1 (sm_iload (z := a4) hx dX8_elsewhere_31 rfl (sm_ishl (a := 1) (b := a4) hx dX8_elsewhere_33 (sm_ior (a := a3) (b := (1 <<< (a4 &&& 31))) hx dX8_elsewhere_34 (sm_istore_n (ls' := [some (.ref 24), some (.int a1), some (.int a2), some (.int (a3 ||| (1 <<< (a4 &&& 31)))), some (.int a4)]) hx dX8_elsewhere_35 (by decide) rfl (sm_iinc (ls' := [some (.ref 24), some (.int a1), some (.int a2), some (.int (a3 ||| (1 <<< (a4 &&& 31)))), some (.int (a4 + 1))]) (z := a4) (v := (a4 + 1)) hx dX8_elsewhere_36 rfl (sm_kii_1 _) (by decide) rfl (sm_goto hx dX8_elsewhere_39 (tgt := 5) (by decide) ((hI3.2 q1))))))))))))))))))))
set_option maxRecDepth 100000 in
theorem c_X8_elsewhere {n : Nat} {F : Int32 → sm_MI → sm_ML → Prop} {T : List sm_Sh} {I : sm_MI} {L : sm_ML} {a1 : Int32} {a2 : Int32} (hB : sm_Bs T)
    (h : ∀ x : sm_Cx, sm_Ok x mX8_elsewhere (n + 1) (sm_KI T F) → sm_V x 0 0 T I L 5 [some (.ref 24), some (.int a1), some (.int a2), some (.int 0), some (.int 0)] []) :
    sm_CI (n + 1) mX8_elsewhere T I L [.ref 24, .int a1, .int a2] F :=
  sm_CI.of (by decide +kernel) rfl (fun x hx => show sm_V x 0 0 T I L 0 [some (.ref 24), some (.int a1), some (.int a2), none, none] [] from
  sm_iconst (v := 0) hx dX8_elsewhere_0 sm_kc_0 (sm_istore_n (ls' := [some (.ref 24), some (.int a1), some (.int a2), some (.int 0), none]) hx dX8_elsewhere_1 (by decide) rfl (sm_iconst (v := 0) hx dX8_elsewhere_2 sm_kc_0 (sm_istore (ls' := [some (.ref 24), some (.int a1), some (.int a2), some (.int 0), some (.int 0)]) hx dX8_elsewhere_3 (by decide) rfl ((h x hx))))))
theorem dX8_starts_0 : decode cX8_starts 0 = .ok (.iconst 1, 1) := by decide +kernel
theorem dX8_starts_1 : decode cX8_starts 1 = .ok (.istore_n 1, 1) := by decide +kernel
theorem dX8_starts_2 : decode cX8_starts 2 = .ok (.iconst 0, 1) := by decide +kernel
theorem dX8_starts_3 : decode cX8_starts 3 = .ok (.istore_n 2, 1) := by decide +kernel
theorem dX8_starts_4 : decode cX8_starts 4 = .ok (.iload_n 2, 1) := by decide +kernel
theorem dX8_starts_5 : decode cX8_starts 5 = .ok (.aload_n 0, 1) := by decide +kernel
theorem dX8_starts_6 : decode cX8_starts 6 = .ok (.getfield 18, 3) := by decide +kernel
theorem dX8_starts_9 : decode cX8_starts 9 = .ok (.if_icmp .ge 16, 3) := by decide +kernel
theorem dX8_starts_12 : decode cX8_starts 12 = .ok (.iload_n 1, 1) := by decide +kernel
theorem dX8_starts_13 : decode cX8_starts 13 = .ok (.aload_n 0, 1) := by decide +kernel
theorem dX8_starts_14 : decode cX8_starts 14 = .ok (.getfield 9, 3) := by decide +kernel
theorem dX8_starts_17 : decode cX8_starts 17 = .ok (.imul, 1) := by decide +kernel
theorem dX8_starts_18 : decode cX8_starts 18 = .ok (.istore_n 1, 1) := by decide +kernel
theorem dX8_starts_19 : decode cX8_starts 19 = .ok (.iinc 2 1, 3) := by decide +kernel
theorem dX8_starts_22 : decode cX8_starts 22 = .ok (.goto (-18), 3) := by decide +kernel
theorem dX8_starts_25 : decode cX8_starts 25 = .ok (.iload_n 1, 1) := by decide +kernel
theorem dX8_starts_26 : decode cX8_starts 26 = .ok (.ireturn, 1) := by decide +kernel
set_option maxRecDepth 100000 in
theorem u_X8_starts_4 {x : sm_Cx} {n : Nat} {F : Int32 → sm_MI → sm_ML → Prop} {T : List sm_Sh} {I : sm_MI} {L : sm_ML} {a1 : Int32} {a2 : Int32} (hB : sm_Bs T) (hx : sm_Ok x mX8_starts n (sm_KI T F))
    (h : ((I 24 2) ≤ a2 → F a1 I L) ∧ (¬ (I 24 2) ≤ a2 → sm_V x 0 0 T I L 4 [some (.ref 24), some (.int (a1 * (I 24 0))), some (.int (a2 + 1))] [])) :
    sm_V x 0 0 T I L 4 [some (.ref 24), some (.int a1), some (.int a2)] [] :=
  sm_iload_n (z := a2) hx dX8_starts_4 rfl (sm_aload_n (z := 24) hx dX8_starts_5 rfl (sm_getI hx dX8_starts_6 fl_X8_18_8 (t_24 hB) rfl (sm_icmpge (a := a2) (b := (I 24 2)) hx dX8_starts_9 (tgt := 25) (by decide) (fun q1 => sm_iload_n (z := a1) hx dX8_starts_25 rfl (sm_iretI hx dX8_starts_26 rfl (h.1 q1))) (fun q1 => sm_iload_n (z := a1) hx dX8_starts_12 rfl (sm_aload_n (z := 24) hx dX8_starts_13 rfl (sm_getI hx dX8_starts_14 fl_X8_9_8 (t_24 hB) rfl (sm_imul (a := a1) (b := (I 24 0)) hx dX8_starts_17 (sm_istore_n (ls' := [some (.ref 24), some (.int (a1 * (I 24 0))), some (.int a2)]) hx dX8_starts_18 (by decide) rfl (sm_iinc (ls' := [some (.ref 24), some (.int (a1 * (I 24 0))), some (.int (a2 + 1))]) (z := a2) (v := (a2 + 1)) hx dX8_starts_19 rfl (sm_kii_1 _) (by decide) rfl (sm_goto hx dX8_starts_22 (tgt := 4) (by decide) ((h.2 q1))))))))))))
set_option maxRecDepth 100000 in
theorem c_X8_starts {n : Nat} {F : Int32 → sm_MI → sm_ML → Prop} {T : List sm_Sh} {I : sm_MI} {L : sm_ML}  (hB : sm_Bs T)
    (h : ∀ x : sm_Cx, sm_Ok x mX8_starts n (sm_KI T F) → sm_V x 0 0 T I L 4 [some (.ref 24), some (.int 1), some (.int 0)] []) :
    sm_CI n mX8_starts T I L [.ref 24] F :=
  sm_CI.of (by decide +kernel) rfl (fun x hx => show sm_V x 0 0 T I L 0 [some (.ref 24), none, none] [] from
  sm_iconst (v := 1) hx dX8_starts_0 sm_kc_1 (sm_istore_n (ls' := [some (.ref 24), some (.int 1), none]) hx dX8_starts_1 (by decide) rfl (sm_iconst (v := 0) hx dX8_starts_2 sm_kc_0 (sm_istore_n (ls' := [some (.ref 24), some (.int 1), some (.int 0)]) hx dX8_starts_3 (by decide) rfl ((h x hx))))))
theorem dX8_startOf_0 : decode cX8_startOf 0 = .ok (.iconst 0, 1) := by decide +kernel
theorem dX8_startOf_1 : decode cX8_startOf 1 = .ok (.istore_n 2, 1) := by decide +kernel
theorem dX8_startOf_2 : decode cX8_startOf 2 = .ok (.iconst 0, 1) := by decide +kernel
theorem dX8_startOf_3 : decode cX8_startOf 3 = .ok (.istore_n 3, 1) := by decide +kernel
theorem dX8_startOf_4 : decode cX8_startOf 4 = .ok (.iload_n 3, 1) := by decide +kernel
theorem dX8_startOf_5 : decode cX8_startOf 5 = .ok (.aload_n 0, 1) := by decide +kernel
theorem dX8_startOf_6 : decode cX8_startOf 6 = .ok (.getfield 18, 3) := by decide +kernel
theorem dX8_startOf_9 : decode cX8_startOf 9 = .ok (.if_icmp .ge 22, 3) := by decide +kernel
theorem dX8_startOf_12 : decode cX8_startOf 12 = .ok (.iload_n 2, 1) := by decide +kernel
theorem dX8_startOf_13 : decode cX8_startOf 13 = .ok (.aload_n 0, 1) := by decide +kernel
theorem dX8_startOf_14 : decode cX8_startOf 14 = .ok (.getfield 9, 3) := by decide +kernel
theorem dX8_startOf_17 : decode cX8_startOf 17 = .ok (.imul, 1) := by decide +kernel
theorem dX8_startOf_18 : decode cX8_startOf 18 = .ok (.iload_n 1, 1) := by decide +kernel
theorem dX8_startOf_19 : decode cX8_startOf 19 = .ok (.iload_n 3, 1) := by decide +kernel
theorem dX8_startOf_20 : decode cX8_startOf 20 = .ok (.invokestatic 80, 3) := by decide +kernel
theorem dX8_startOf_23 : decode cX8_startOf 23 = .ok (.iadd, 1) := by decide +kernel
theorem dX8_startOf_24 : decode cX8_startOf 24 = .ok (.istore_n 2, 1) := by decide +kernel
theorem dX8_startOf_25 : decode cX8_startOf 25 = .ok (.iinc 3 1, 3) := by decide +kernel
theorem dX8_startOf_28 : decode cX8_startOf 28 = .ok (.goto (-24), 3) := by decide +kernel
theorem dX8_startOf_31 : decode cX8_startOf 31 = .ok (.iload_n 2, 1) := by decide +kernel
theorem dX8_startOf_32 : decode cX8_startOf 32 = .ok (.ireturn, 1) := by decide +kernel
set_option maxRecDepth 100000 in
theorem u_X8_startOf_4 {x : sm_Cx} {n : Nat} {F : Int32 → sm_MI → sm_ML → Prop} {T : List sm_Sh} {I : sm_MI} {L : sm_ML} {a1 : Int32} {a2 : Int32} {a3 : Int32} (hB : sm_Bs T) (hx : sm_Ok x mX8_startOf (n + 1) (sm_KI T F))
    (h : ((I 24 2) ≤ a3 → F a2 I L) ∧ (¬ (I 24 2) ≤ a3 → sm_CI n mX11_placeIn T I L [.int a1, .int a3] (fun r2 I1 L1 => sm_V x 0 0 T I1 L1 4 [some (.ref 24), some (.int a1), some (.int ((a2 * (I 24 0)) + r2)), some (.int (a3 + 1))] []))) :
    sm_V x 0 0 T I L 4 [some (.ref 24), some (.int a1), some (.int a2), some (.int a3)] [] :=
  sm_iload_n (z := a3) hx dX8_startOf_4 rfl (sm_aload_n (z := 24) hx dX8_startOf_5 rfl (sm_getI hx dX8_startOf_6 fl_X8_18_8 (t_24 hB) rfl (sm_icmpge (a := a3) (b := (I 24 2)) hx dX8_startOf_9 (tgt := 31) (by decide) (fun q1 => sm_iload_n (z := a2) hx dX8_startOf_31 rfl (sm_iretI hx dX8_startOf_32 rfl (h.1 q1))) (fun q1 => sm_iload_n (z := a2) hx dX8_startOf_12 rfl (sm_aload_n (z := 24) hx dX8_startOf_13 rfl (sm_getI hx dX8_startOf_14 fl_X8_9_8 (t_24 hB) rfl (sm_imul (a := a2) (b := (I 24 0)) hx dX8_startOf_17 (sm_iload_n (z := a1) hx dX8_startOf_18 rfl (sm_iload_n (z := a3) hx dX8_startOf_19 rfl (sm_callSI (args := [.int a1, .int a3]) (st := [.int (a2 * (I 24 0))]) hx dX8_startOf_20 ls_X8_80 rfl rfl rfl (h.2 q1) (fun r2 I1 L1 hI1 => sm_iadd (a := (a2 * (I 24 0))) (b := r2) hx dX8_startOf_23 (sm_istore_n (ls' := [some (.ref 24), some (.int a1), some (.int ((a2 * (I 24 0)) + r2)), some (.int a3)]) hx dX8_startOf_24 (by decide) rfl (sm_iinc (ls' := [some (.ref 24), some (.int a1), some (.int ((a2 * (I 24 0)) + r2)), some (.int (a3 + 1))]) (z := a3) (v := (a3 + 1)) hx dX8_startOf_25 rfl (sm_kii_1 _) (by decide) rfl (sm_goto hx dX8_startOf_28 (tgt := 4) (by decide) (hI1)))))))))))))))
set_option maxRecDepth 100000 in
theorem c_X8_startOf {n : Nat} {F : Int32 → sm_MI → sm_ML → Prop} {T : List sm_Sh} {I : sm_MI} {L : sm_ML} {a1 : Int32} (hB : sm_Bs T)
    (h : ∀ x : sm_Cx, sm_Ok x mX8_startOf (n + 1) (sm_KI T F) → sm_V x 0 0 T I L 4 [some (.ref 24), some (.int a1), some (.int 0), some (.int 0)] []) :
    sm_CI (n + 1) mX8_startOf T I L [.ref 24, .int a1] F :=
  sm_CI.of (by decide +kernel) rfl (fun x hx => show sm_V x 0 0 T I L 0 [some (.ref 24), some (.int a1), none, none] [] from
  sm_iconst (v := 0) hx dX8_startOf_0 sm_kc_0 (sm_istore_n (ls' := [some (.ref 24), some (.int a1), some (.int 0), none]) hx dX8_startOf_1 (by decide) rfl (sm_iconst (v := 0) hx dX8_startOf_2 sm_kc_0 (sm_istore_n (ls' := [some (.ref 24), some (.int a1), some (.int 0), some (.int 0)]) hx dX8_startOf_3 (by decide) rfl ((h x hx))))))
theorem dX8_placesOf_0 : decode cX8_placesOf 0 = .ok (.iconst 0, 1) := by decide +kernel
theorem dX8_placesOf_1 : decode cX8_placesOf 1 = .ok (.istore_n 2, 1) := by decide +kernel
theorem dX8_placesOf_2 : decode cX8_placesOf 2 = .ok (.iload_n 1, 1) := by decide +kernel
theorem dX8_placesOf_3 : decode cX8_placesOf 3 = .ok (.istore_n 3, 1) := by decide +kernel
theorem dX8_placesOf_4 : decode cX8_placesOf 4 = .ok (.aload_n 0, 1) := by decide +kernel
theorem dX8_placesOf_5 : decode cX8_placesOf 5 = .ok (.getfield 18, 3) := by decide +kernel
theorem dX8_placesOf_8 : decode cX8_placesOf 8 = .ok (.iconst 1, 1) := by decide +kernel
theorem dX8_placesOf_9 : decode cX8_placesOf 9 = .ok (.isub, 1) := by decide +kernel
theorem dX8_placesOf_10 : decode cX8_placesOf 10 = .ok (.istore 4, 2) := by decide +kernel
theorem dX8_placesOf_12 : decode cX8_placesOf 12 = .ok (.iload 4, 2) := by decide +kernel
theorem dX8_placesOf_14 : decode cX8_placesOf 14 = .ok (.ifCond .lt 36, 3) := by decide +kernel
theorem dX8_placesOf_17 : decode cX8_placesOf 17 = .ok (.aload_n 0, 1) := by decide +kernel
theorem dX8_placesOf_18 : decode cX8_placesOf 18 = .ok (.getfield 9, 3) := by decide +kernel
theorem dX8_placesOf_21 : decode cX8_placesOf 21 = .ok (.ifCond .le 29, 3) := by decide +kernel
theorem dX8_placesOf_24 : decode cX8_placesOf 24 = .ok (.iload_n 2, 1) := by decide +kernel
theorem dX8_placesOf_25 : decode cX8_placesOf 25 = .ok (.iload 4, 2) := by decide +kernel
theorem dX8_placesOf_27 : decode cX8_placesOf 27 = .ok (.iload_n 3, 1) := by decide +kernel
theorem dX8_placesOf_28 : decode cX8_placesOf 28 = .ok (.aload_n 0, 1) := by decide +kernel
theorem dX8_placesOf_29 : decode cX8_placesOf 29 = .ok (.getfield 9, 3) := by decide +kernel
theorem dX8_placesOf_32 : decode cX8_placesOf 32 = .ok (.irem, 1) := by decide +kernel
theorem dX8_placesOf_33 : decode cX8_placesOf 33 = .ok (.invokestatic 66, 3) := by decide +kernel
theorem dX8_placesOf_36 : decode cX8_placesOf 36 = .ok (.istore_n 2, 1) := by decide +kernel
theorem dX8_placesOf_37 : decode cX8_placesOf 37 = .ok (.iload_n 3, 1) := by decide +kernel
theorem dX8_placesOf_38 : decode cX8_placesOf 38 = .ok (.aload_n 0, 1) := by decide +kernel
theorem dX8_placesOf_39 : decode cX8_placesOf 39 = .ok (.getfield 9, 3) := by decide +kernel
theorem dX8_placesOf_42 : decode cX8_placesOf 42 = .ok (.idiv, 1) := by decide +kernel
theorem dX8_placesOf_43 : decode cX8_placesOf 43 = .ok (.istore_n 3, 1) := by decide +kernel
theorem dX8_placesOf_44 : decode cX8_placesOf 44 = .ok (.iinc 4 (-1), 3) := by decide +kernel
theorem dX8_placesOf_47 : decode cX8_placesOf 47 = .ok (.goto (-35), 3) := by decide +kernel
theorem dX8_placesOf_50 : decode cX8_placesOf 50 = .ok (.iload_n 2, 1) := by decide +kernel
theorem dX8_placesOf_51 : decode cX8_placesOf 51 = .ok (.ireturn, 1) := by decide +kernel
set_option maxRecDepth 100000 in
theorem u_X8_placesOf_12 {x : sm_Cx} {n : Nat} {F : Int32 → sm_MI → sm_ML → Prop} {T : List sm_Sh} {I : sm_MI} {L : sm_ML} {a1 : Int32} {a2 : Int32} {a3 : Int32} {a4 : Int32} (hB : sm_Bs T) (hx : sm_Ok x mX8_placesOf (n + 1) (sm_KI T F))
    (h : (a4 < 0 → F a2 I L) ∧ (¬ a4 < 0 → ((I 24 0) ≤ 0 → F a2 I L) ∧ (¬ (I 24 0) ≤ 0 → ¬ (I 24 0) = 0 ∧ (sm_CI n mX11_placed T I L [.int a2, .int a4, .int (a3 - a3 / (I 24 0) * (I 24 0))] (fun r2 I1 L1 => ¬ (I1 24 0) = 0 ∧ (sm_V x 0 0 T I1 L1 12 [some (.ref 24), some (.int a1), some (.int r2), some (.int (a3 / (I1 24 0))), some (.int (a4 + (-1)))] [])))))) :
    sm_V x 0 0 T I L 12 [some (.ref 24), some (.int a1), some (.int a2), some (.int a3), some (.int a4)] [] :=
  sm_iload (z := a4) hx dX8_placesOf_12 rfl (sm_iflt (a := a4) hx dX8_placesOf_14 (tgt := 50) (by decide) (fun q2 => sm_iload_n (z := a2) hx dX8_placesOf_50 rfl (sm_iretI hx dX8_placesOf_51 rfl (h.1 q2))) (fun q2 => sm_aload_n (z := 24) hx dX8_placesOf_17 rfl (sm_getI hx dX8_placesOf_18 fl_X8_9_8 (t_24 hB) rfl (sm_ifle (a := (I 24 0)) hx dX8_placesOf_21 (tgt := 50) (by decide) (fun q1 => sm_iload_n (z := a2) hx dX8_placesOf_50 rfl (sm_iretI hx dX8_placesOf_51 rfl ((h.2 q2).1 q1))) (fun q1 => sm_iload_n (z := a2) hx dX8_placesOf_24 rfl (sm_iload (z := a4) hx dX8_placesOf_25 rfl (sm_iload_n (z := a3) hx dX8_placesOf_27 rfl (sm_aload_n (z := 24) hx dX8_placesOf_28 rfl (sm_getI hx dX8_placesOf_29 fl_X8_9_8 (t_24 hB) rfl (sm_irem (a := a3) (b := (I 24 0)) hx dX8_placesOf_32 ((h.2 q2).2 q1).1 (sm_callSI (args := [.int a2, .int a4, .int (a3 - a3 / (I 24 0) * (I 24 0))]) (st := []) hx dX8_placesOf_33 ls_X8_66 rfl rfl rfl ((h.2 q2).2 q1).2 (fun r2 I1 L1 hI1 => sm_istore_n (ls' := [some (.ref 24), some (.int a1), some (.int r2), some (.int a3), some (.int a4)]) hx dX8_placesOf_36 (by decide) rfl (sm_iload_n (z := a3) hx dX8_placesOf_37 rfl (sm_aload_n (z := 24) hx dX8_placesOf_38 rfl (sm_getI hx dX8_placesOf_39 fl_X8_9_8 (t_24 hB) rfl (sm_idiv (a := a3) (b := (I1 24 0)) hx dX8_placesOf_42 hI1.1 (sm_istore_n (ls' := [some (.ref 24), some (.int a1), some (.int r2), some (.int (a3 / (I1 24 0))), some (.int a4)]) hx dX8_placesOf_43 (by decide) rfl (sm_iinc (ls' := [some (.ref 24), some (.int a1), some (.int r2), some (.int (a3 / (I1 24 0))), some (.int (a4 + (-1)))]) (z := a4) (v := (a4 + (-1))) hx dX8_placesOf_44 rfl (sm_kii_m1 _) (by decide) rfl (sm_goto hx dX8_placesOf_47 (tgt := 12) (by decide) (hI1.2))))))))))))))))))))
set_option maxRecDepth 100000 in
theorem c_X8_placesOf {n : Nat} {F : Int32 → sm_MI → sm_ML → Prop} {T : List sm_Sh} {I : sm_MI} {L : sm_ML} {a1 : Int32} (hB : sm_Bs T)
    (h : ∀ x : sm_Cx, sm_Ok x mX8_placesOf (n + 1) (sm_KI T F) → sm_V x 0 0 T I L 12 [some (.ref 24), some (.int a1), some (.int 0), some (.int a1), some (.int ((I 24 2) - 1))] []) :
    sm_CI (n + 1) mX8_placesOf T I L [.ref 24, .int a1] F :=
  sm_CI.of (by decide +kernel) rfl (fun x hx => show sm_V x 0 0 T I L 0 [some (.ref 24), some (.int a1), none, none, none] [] from
  sm_iconst (v := 0) hx dX8_placesOf_0 sm_kc_0 (sm_istore_n (ls' := [some (.ref 24), some (.int a1), some (.int 0), none, none]) hx dX8_placesOf_1 (by decide) rfl (sm_iload_n (z := a1) hx dX8_placesOf_2 rfl (sm_istore_n (ls' := [some (.ref 24), some (.int a1), some (.int 0), some (.int a1), none]) hx dX8_placesOf_3 (by decide) rfl (sm_aload_n (z := 24) hx dX8_placesOf_4 rfl (sm_getI hx dX8_placesOf_5 fl_X8_18_8 (t_24 hB) rfl (sm_iconst (v := 1) hx dX8_placesOf_8 sm_kc_1 (sm_isub (a := (I 24 2)) (b := 1) hx dX8_placesOf_9 (sm_istore (ls' := [some (.ref 24), some (.int a1), some (.int 0), some (.int a1), some (.int ((I 24 2) - 1))]) hx dX8_placesOf_10 (by decide) rfl ((h x hx)))))))))))
theorem dX8_digitsOf_0 : decode cX8_digitsOf 0 = .ok (.iconst 0, 1) := by decide +kernel
theorem dX8_digitsOf_1 : decode cX8_digitsOf 1 = .ok (.istore_n 2, 1) := by decide +kernel
theorem dX8_digitsOf_2 : decode cX8_digitsOf 2 = .ok (.iconst 0, 1) := by decide +kernel
theorem dX8_digitsOf_3 : decode cX8_digitsOf 3 = .ok (.istore_n 3, 1) := by decide +kernel
theorem dX8_digitsOf_4 : decode cX8_digitsOf 4 = .ok (.iload_n 3, 1) := by decide +kernel
theorem dX8_digitsOf_5 : decode cX8_digitsOf 5 = .ok (.aload_n 0, 1) := by decide +kernel
theorem dX8_digitsOf_6 : decode cX8_digitsOf 6 = .ok (.getfield 18, 3) := by decide +kernel
theorem dX8_digitsOf_9 : decode cX8_digitsOf 9 = .ok (.if_icmp .ge 20, 3) := by decide +kernel
theorem dX8_digitsOf_12 : decode cX8_digitsOf 12 = .ok (.bipush 10, 2) := by decide +kernel
theorem dX8_digitsOf_14 : decode cX8_digitsOf 14 = .ok (.iload_n 2, 1) := by decide +kernel
theorem dX8_digitsOf_15 : decode cX8_digitsOf 15 = .ok (.imul, 1) := by decide +kernel
theorem dX8_digitsOf_16 : decode cX8_digitsOf 16 = .ok (.iload_n 1, 1) := by decide +kernel
theorem dX8_digitsOf_17 : decode cX8_digitsOf 17 = .ok (.iload_n 3, 1) := by decide +kernel
theorem dX8_digitsOf_18 : decode cX8_digitsOf 18 = .ok (.invokestatic 80, 3) := by decide +kernel
theorem dX8_digitsOf_21 : decode cX8_digitsOf 21 = .ok (.iadd, 1) := by decide +kernel
theorem dX8_digitsOf_22 : decode cX8_digitsOf 22 = .ok (.istore_n 2, 1) := by decide +kernel
theorem dX8_digitsOf_23 : decode cX8_digitsOf 23 = .ok (.iinc 3 1, 3) := by decide +kernel
theorem dX8_digitsOf_26 : decode cX8_digitsOf 26 = .ok (.goto (-22), 3) := by decide +kernel
theorem dX8_digitsOf_29 : decode cX8_digitsOf 29 = .ok (.iload_n 2, 1) := by decide +kernel
theorem dX8_digitsOf_30 : decode cX8_digitsOf 30 = .ok (.ireturn, 1) := by decide +kernel
set_option maxRecDepth 100000 in
theorem u_X8_digitsOf_4 {x : sm_Cx} {n : Nat} {F : Int32 → sm_MI → sm_ML → Prop} {T : List sm_Sh} {I : sm_MI} {L : sm_ML} {a1 : Int32} {a2 : Int32} {a3 : Int32} (hB : sm_Bs T) (hx : sm_Ok x mX8_digitsOf (n + 1) (sm_KI T F))
    (h : ((I 24 2) ≤ a3 → F a2 I L) ∧ (¬ (I 24 2) ≤ a3 → sm_CI n mX11_placeIn T I L [.int a1, .int a3] (fun r2 I1 L1 => sm_V x 0 0 T I1 L1 4 [some (.ref 24), some (.int a1), some (.int ((10 * a2) + r2)), some (.int (a3 + 1))] []))) :
    sm_V x 0 0 T I L 4 [some (.ref 24), some (.int a1), some (.int a2), some (.int a3)] [] :=
  sm_iload_n (z := a3) hx dX8_digitsOf_4 rfl (sm_aload_n (z := 24) hx dX8_digitsOf_5 rfl (sm_getI hx dX8_digitsOf_6 fl_X8_18_8 (t_24 hB) rfl (sm_icmpge (a := a3) (b := (I 24 2)) hx dX8_digitsOf_9 (tgt := 29) (by decide) (fun q1 => sm_iload_n (z := a2) hx dX8_digitsOf_29 rfl (sm_iretI hx dX8_digitsOf_30 rfl (h.1 q1))) (fun q1 => sm_bipush (v := 10) hx dX8_digitsOf_12 sm_kb_10 (sm_iload_n (z := a2) hx dX8_digitsOf_14 rfl (sm_imul (a := 10) (b := a2) hx dX8_digitsOf_15 (sm_iload_n (z := a1) hx dX8_digitsOf_16 rfl (sm_iload_n (z := a3) hx dX8_digitsOf_17 rfl (sm_callSI (args := [.int a1, .int a3]) (st := [.int (10 * a2)]) hx dX8_digitsOf_18 ls_X8_80 rfl rfl rfl (h.2 q1) (fun r2 I1 L1 hI1 => sm_iadd (a := (10 * a2)) (b := r2) hx dX8_digitsOf_21 (sm_istore_n (ls' := [some (.ref 24), some (.int a1), some (.int ((10 * a2) + r2)), some (.int a3)]) hx dX8_digitsOf_22 (by decide) rfl (sm_iinc (ls' := [some (.ref 24), some (.int a1), some (.int ((10 * a2) + r2)), some (.int (a3 + 1))]) (z := a3) (v := (a3 + 1)) hx dX8_digitsOf_23 rfl (sm_kii_1 _) (by decide) rfl (sm_goto hx dX8_digitsOf_26 (tgt := 4) (by decide) (hI1))))))))))))))
set_option maxRecDepth 100000 in
theorem c_X8_digitsOf {n : Nat} {F : Int32 → sm_MI → sm_ML → Prop} {T : List sm_Sh} {I : sm_MI} {L : sm_ML} {a1 : Int32} (hB : sm_Bs T)
    (h : ∀ x : sm_Cx, sm_Ok x mX8_digitsOf (n + 1) (sm_KI T F) → sm_V x 0 0 T I L 4 [some (.ref 24), some (.int a1), some (.int 0), some (.int 0)] []) :
    sm_CI (n + 1) mX8_digitsOf T I L [.ref 24, .int a1] F :=
  sm_CI.of (by decide +kernel) rfl (fun x hx => show sm_V x 0 0 T I L 0 [some (.ref 24), some (.int a1), none, none] [] from
  sm_iconst (v := 0) hx dX8_digitsOf_0 sm_kc_0 (sm_istore_n (ls' := [some (.ref 24), some (.int a1), some (.int 0), none]) hx dX8_digitsOf_1 (by decide) rfl (sm_iconst (v := 0) hx dX8_digitsOf_2 sm_kc_0 (sm_istore_n (ls' := [some (.ref 24), some (.int a1), some (.int 0), some (.int 0)]) hx dX8_digitsOf_3 (by decide) rfl ((h x hx))))))
theorem dX9_read_0 : decode cX9_read 0 = .ok (.aload_n 0, 1) := by decide +kernel
theorem dX9_read_1 : decode cX9_read 1 = .ok (.invokevirtual 41, 3) := by decide +kernel
theorem dX9_read_4 : decode cX9_read 4 = .ok (.aload_n 0, 1) := by decide +kernel
theorem dX9_read_5 : decode cX9_read 5 = .ok (.getfield 14, 3) := by decide +kernel
theorem dX9_read_8 : decode cX9_read 8 = .ok (.invokevirtual 44, 3) := by decide +kernel
theorem dX9_read_11 : decode cX9_read 11 = .ok (.aload_n 0, 1) := by decide +kernel
theorem dX9_read_12 : decode cX9_read 12 = .ok (.bipush 104, 2) := by decide +kernel
theorem dX9_read_14 : decode cX9_read 14 = .ok (.invokevirtual 47, 3) := by decide +kernel
theorem dX9_read_17 : decode cX9_read 17 = .ok (.ifCond .eq 13, 3) := by decide +kernel
theorem dX9_read_20 : decode cX9_read 20 = .ok (.aload_n 0, 1) := by decide +kernel
theorem dX9_read_21 : decode cX9_read 21 = .ok (.iconst 2, 1) := by decide +kernel
theorem dX9_read_22 : decode cX9_read 22 = .ok (.bipush 8, 2) := by decide +kernel
theorem dX9_read_24 : decode cX9_read 24 = .ok (.invokevirtual 51, 3) := by decide +kernel
theorem dX9_read_27 : decode cX9_read 27 = .ok (.ifCond .ne 8, 3) := by decide +kernel
theorem dX9_read_30 : decode cX9_read 30 = .ok (.aload_n 0, 1) := by decide +kernel
theorem dX9_read_31 : decode cX9_read 31 = .ok (.invokevirtual 55, 3) := by decide +kernel
theorem dX9_read_34 : decode cX9_read 34 = .ok (.ireturn, 1) := by decide +kernel
theorem dX9_read_35 : decode cX9_read 35 = .ok (.aload_n 0, 1) := by decide +kernel
theorem dX9_read_36 : decode cX9_read 36 = .ok (.getfield 14, 3) := by decide +kernel
theorem dX9_read_39 : decode cX9_read 39 = .ok (.aload_n 0, 1) := by decide +kernel
theorem dX9_read_40 : decode cX9_read 40 = .ok (.getfield 37, 3) := by decide +kernel
theorem dX9_read_43 : decode cX9_read 43 = .ok (.putfield 58, 3) := by decide +kernel
theorem dX9_read_46 : decode cX9_read 46 = .ok (.iconst 0, 1) := by decide +kernel
theorem dX9_read_47 : decode cX9_read 47 = .ok (.istore_n 1, 1) := by decide +kernel
theorem dX9_read_48 : decode cX9_read 48 = .ok (.iload_n 1, 1) := by decide +kernel
theorem dX9_read_49 : decode cX9_read 49 = .ok (.sipush 160, 3) := by decide +kernel
theorem dX9_read_52 : decode cX9_read 52 = .ok (.if_icmp .ge 30, 3) := by decide +kernel
theorem dX9_read_55 : decode cX9_read 55 = .ok (.aload_n 0, 1) := by decide +kernel
theorem dX9_read_56 : decode cX9_read 56 = .ok (.bipush 59, 2) := by decide +kernel
theorem dX9_read_58 : decode cX9_read 58 = .ok (.invokevirtual 47, 3) := by decide +kernel
theorem dX9_read_61 : decode cX9_read 61 = .ok (.ifCond .eq 21, 3) := by decide +kernel
theorem dX9_read_64 : decode cX9_read 64 = .ok (.aload_n 0, 1) := by decide +kernel
theorem dX9_read_65 : decode cX9_read 65 = .ok (.invokevirtual 61, 3) := by decide +kernel
theorem dX9_read_68 : decode cX9_read 68 = .ok (.ifCond .ne 8, 3) := by decide +kernel
theorem dX9_read_71 : decode cX9_read 71 = .ok (.aload_n 0, 1) := by decide +kernel
theorem dX9_read_72 : decode cX9_read 72 = .ok (.invokevirtual 55, 3) := by decide +kernel
theorem dX9_read_75 : decode cX9_read 75 = .ok (.ireturn, 1) := by decide +kernel
theorem dX9_read_76 : decode cX9_read 76 = .ok (.iinc 1 1, 3) := by decide +kernel
theorem dX9_read_79 : decode cX9_read 79 = .ok (.goto (-31), 3) := by decide +kernel
theorem dX9_read_82 : decode cX9_read 82 = .ok (.aload_n 0, 1) := by decide +kernel
theorem dX9_read_83 : decode cX9_read 83 = .ok (.invokevirtual 65, 3) := by decide +kernel
theorem dX9_read_86 : decode cX9_read 86 = .ok (.iconst (-1), 1) := by decide +kernel
theorem dX9_read_87 : decode cX9_read 87 = .ok (.if_icmp .ne 27, 3) := by decide +kernel
theorem dX9_read_90 : decode cX9_read 90 = .ok (.aload_n 0, 1) := by decide +kernel
theorem dX9_read_91 : decode cX9_read 91 = .ok (.getfield 14, 3) := by decide +kernel
theorem dX9_read_94 : decode cX9_read 94 = .ok (.getfield 68, 3) := by decide +kernel
theorem dX9_read_97 : decode cX9_read 97 = .ok (.ifCond .le 17, 3) := by decide +kernel
theorem dX9_read_100 : decode cX9_read 100 = .ok (.aload_n 0, 1) := by decide +kernel
theorem dX9_read_101 : decode cX9_read 101 = .ok (.getfield 14, 3) := by decide +kernel
theorem dX9_read_104 : decode cX9_read 104 = .ok (.getfield 71, 3) := by decide +kernel
theorem dX9_read_107 : decode cX9_read 107 = .ok (.ifCond .le 7, 3) := by decide +kernel
theorem dX9_read_110 : decode cX9_read 110 = .ok (.iconst 1, 1) := by decide +kernel
theorem dX9_read_111 : decode cX9_read 111 = .ok (.goto 4, 3) := by decide +kernel
theorem dX9_read_114 : decode cX9_read 114 = .ok (.iconst 0, 1) := by decide +kernel
theorem dX9_read_115 : decode cX9_read 115 = .ok (.istore_n 1, 1) := by decide +kernel
theorem dX9_read_116 : decode cX9_read 116 = .ok (.iload_n 1, 1) := by decide +kernel
theorem dX9_read_117 : decode cX9_read 117 = .ok (.ifCond .eq 7, 3) := by decide +kernel
theorem dX9_read_120 : decode cX9_read 120 = .ok (.iconst (-1), 1) := by decide +kernel
theorem dX9_read_121 : decode cX9_read 121 = .ok (.goto 7, 3) := by decide +kernel
theorem dX9_read_124 : decode cX9_read 124 = .ok (.aload_n 0, 1) := by decide +kernel
theorem dX9_read_125 : decode cX9_read 125 = .ok (.invokevirtual 55, 3) := by decide +kernel
theorem dX9_read_128 : decode cX9_read 128 = .ok (.ireturn, 1) := by decide +kernel
set_option maxRecDepth 100000 in
theorem u_X9_read_48 {x : sm_Cx} {n : Nat} {F : Int32 → sm_MI → sm_ML → Prop} {T : List sm_Sh} {I : sm_MI} {L : sm_ML} {a1 : Int32} (hB : sm_Bs T) (hx : sm_Ok x mX9_read (n + 1) (sm_KI T F))
    (h : (160 ≤ a1 → sm_CI n mX2_nextSign T I L [.ref 4] (fun r2 I1 L1 => (¬ r2 = (-1) → sm_V x 0 0 T I1 L1 115 [some (.ref 4), some (.int a1)] [.int (sm_z false)]) ∧ (r2 = (-1) → ((I1 5 1) ≤ 0 → sm_V x 0 0 T I1 L1 115 [some (.ref 4), some (.int a1)] [.int (sm_z false)]) ∧ (¬ (I1 5 1) ≤ 0 → ((I1 5 2) ≤ 0 → sm_V x 0 0 T I1 L1 115 [some (.ref 4), some (.int a1)] [.int (sm_z false)]) ∧ (¬ (I1 5 2) ≤ 0 → sm_V x 0 0 T I1 L1 115 [some (.ref 4), some (.int a1)] [.int (sm_z true)]))))) ∧ (¬ 160 ≤ a1 → sm_CZ n mX2_take T I L [.ref 4, .int 59] (fun r4 I3 L3 => (r4 = false → sm_CI n mX2_nextSign T I3 L3 [.ref 4] (fun r6 I5 L5 => (¬ r6 = (-1) → sm_V x 0 0 T I5 L5 115 [some (.ref 4), some (.int a1)] [.int (sm_z false)]) ∧ (r6 = (-1) → ((I5 5 1) ≤ 0 → sm_V x 0 0 T I5 L5 115 [some (.ref 4), some (.int a1)] [.int (sm_z false)]) ∧ (¬ (I5 5 1) ≤ 0 → ((I5 5 2) ≤ 0 → sm_V x 0 0 T I5 L5 115 [some (.ref 4), some (.int a1)] [.int (sm_z false)]) ∧ (¬ (I5 5 2) ≤ 0 → sm_V x 0 0 T I5 L5 115 [some (.ref 4), some (.int a1)] [.int (sm_z true)]))))) ∧ (r4 = true → sm_CZ n mX9_readClause T I3 L3 [.ref 4] (fun r8 I7 L7 => (r8 = true → sm_V x 0 0 T I7 L7 48 [some (.ref 4), some (.int (a1 + 1))] []) ∧ (r8 = false → sm_CI n mX2_faultHere T I7 L7 [.ref 4] (fun r10 I9 L9 => F r10 I9 L9))))))) :
    sm_V x 0 0 T I L 48 [some (.ref 4), some (.int a1)] [] :=
  sm_iload_n (z := a1) hx dX9_read_48 rfl (sm_sipush (v := 160) hx dX9_read_49 sm_ks_160 (sm_icmpge (a := a1) (b := 160) hx dX9_read_52 (tgt := 82) (by decide) (fun q9 => sm_aload_n (z := 4) hx dX9_read_82 rfl (sm_callUI (args := []) (st := []) hx dX9_read_83 lu_X9_65_9 rfl rfl (t_4 hB) rfl rfl (h.1 q9) (fun r2 I1 L1 hI1 => sm_iconst (v := (-1)) hx dX9_read_86 sm_kc_m1 (sm_icmpne (a := r2) (b := (-1)) hx dX9_read_87 (tgt := 114) (by decide) (fun q3 => sm_iconst (v := 0) hx dX9_read_114 sm_kc_0 ((hI1.1 q3))) (fun q3 => sm_aload_n (z := 4) hx dX9_read_90 rfl (sm_getR hx dX9_read_91 fl_X9_14_9 (t_4 hB) rfl (sm_getI hx dX9_read_94 fl_X9_68_8 (t_5 hB) rfl (sm_ifle (a := (I1 5 1)) hx dX9_read_97 (tgt := 114) (by decide) (fun q2 => sm_iconst (v := 0) hx dX9_read_114 sm_kc_0 (((hI1.2 q3).1 q2))) (fun q2 => sm_aload_n (z := 4) hx dX9_read_100 rfl (sm_getR hx dX9_read_101 fl_X9_14_9 (t_4 hB) rfl (sm_getI hx dX9_read_104 fl_X9_71_8 (t_5 hB) rfl (sm_ifle (a := (I1 5 2)) hx dX9_read_107 (tgt := 114) (by decide) (fun q1 => sm_iconst (v := 0) hx dX9_read_114 sm_kc_0 ((((hI1.2 q3).2 q2).1 q1))) (fun q1 => sm_iconst (v := 1) hx dX9_read_110 sm_kc_1 (sm_goto hx dX9_read_111 (tgt := 115) (by decide) ((((hI1.2 q3).2 q2).2 q1)))))))))))))))) (fun q9 => sm_aload_n (z := 4) hx dX9_read_55 rfl (sm_bipush (v := 59) hx dX9_read_56 sm_kb_59 (sm_callUZ (args := [.int 59]) (st := []) hx dX9_read_58 lu_X9_47_9 rfl rfl (t_4 hB) rfl rfl (h.2 q9) (fun r4 I3 L3 hI3 => sm_ifeqZ (b := r4) hx dX9_read_61 (tgt := 82) (by decide) (fun q8 => sm_aload_n (z := 4) hx dX9_read_82 rfl (sm_callUI (args := []) (st := []) hx dX9_read_83 lu_X9_65_9 rfl rfl (t_4 hB) rfl rfl (hI3.1 q8) (fun r6 I5 L5 hI5 => sm_iconst (v := (-1)) hx dX9_read_86 sm_kc_m1 (sm_icmpne (a := r6) (b := (-1)) hx dX9_read_87 (tgt := 114) (by decide) (fun q6 => sm_iconst (v := 0) hx dX9_read_114 sm_kc_0 ((hI5.1 q6))) (fun q6 => sm_aload_n (z := 4) hx dX9_read_90 rfl (sm_getR hx dX9_read_91 fl_X9_14_9 (t_4 hB) rfl (sm_getI hx dX9_read_94 fl_X9_68_8 (t_5 hB) rfl (sm_ifle (a := (I5 5 1)) hx dX9_read_97 (tgt := 114) (by decide) (fun q5 => sm_iconst (v := 0) hx dX9_read_114 sm_kc_0 (((hI5.2 q6).1 q5))) (fun q5 => sm_aload_n (z := 4) hx dX9_read_100 rfl (sm_getR hx dX9_read_101 fl_X9_14_9 (t_4 hB) rfl (sm_getI hx dX9_read_104 fl_X9_71_8 (t_5 hB) rfl (sm_ifle (a := (I5 5 2)) hx dX9_read_107 (tgt := 114) (by decide) (fun q4 => sm_iconst (v := 0) hx dX9_read_114 sm_kc_0 ((((hI5.2 q6).2 q5).1 q4))) (fun q4 => sm_iconst (v := 1) hx dX9_read_110 sm_kc_1 (sm_goto hx dX9_read_111 (tgt := 115) (by decide) ((((hI5.2 q6).2 q5).2 q4)))))))))))))))) (fun q8 => sm_aload_n (z := 4) hx dX9_read_64 rfl (sm_callVZ (args := []) (st := []) hx dX9_read_65 lv_X9_61_9 rfl rfl (t_4 hB) rfl rfl (hI3.2 q8) (fun r8 I7 L7 hI7 => sm_ifneZ (b := r8) hx dX9_read_68 (tgt := 76) (by decide) (fun q7 => sm_iinc (ls' := [some (.ref 4), some (.int (a1 + 1))]) (z := a1) (v := (a1 + 1)) hx dX9_read_76 rfl (sm_kii_1 _) (by decide) rfl (sm_goto hx dX9_read_79 (tgt := 48) (by decide) ((hI7.1 q7)))) (fun q7 => sm_aload_n (z := 4) hx dX9_read_71 rfl (sm_callUI (args := []) (st := []) hx dX9_read_72 lu_X9_55_9 rfl rfl (t_4 hB) rfl rfl (hI7.2 q7) (fun r10 I9 L9 hI9 => sm_iretI hx dX9_read_75 rfl hI9))))))))))))
set_option maxRecDepth 100000 in
theorem u_X9_read_115 {x : sm_Cx} {n : Nat} {F : Int32 → sm_MI → sm_ML → Prop} {T : List sm_Sh} {I : sm_MI} {L : sm_ML} {a1 : Int32} {bs0 : Bool} (hB : sm_Bs T) (hx : sm_Ok x mX9_read (n + 1) (sm_KI T F))
    (h : (bs0 = false → sm_CI n mX2_faultHere T I L [.ref 4] (fun r2 I1 L1 => F r2 I1 L1)) ∧ (bs0 = true → F (-1) I L)) :
    sm_V x 0 0 T I L 115 [some (.ref 4), some (.int a1)] [.int (sm_z bs0)] :=
  sm_istore_n (ls' := [some (.ref 4), some (.int (sm_z bs0))]) hx dX9_read_115 (by decide) rfl (sm_iload_n (z := (sm_z bs0)) hx dX9_read_116 rfl (sm_ifeqZ (b := bs0) hx dX9_read_117 (tgt := 124) (by decide) (fun q10 => sm_aload_n (z := 4) hx dX9_read_124 rfl (sm_callUI (args := []) (st := []) hx dX9_read_125 lu_X9_55_9 rfl rfl (t_4 hB) rfl rfl (h.1 q10) (fun r2 I1 L1 hI1 => sm_iretI hx dX9_read_128 rfl hI1))) (fun q10 => sm_iconst (v := (-1)) hx dX9_read_120 sm_kc_m1 (sm_goto hx dX9_read_121 (tgt := 128) (by decide) (sm_iretI hx dX9_read_128 rfl (h.2 q10))))))
set_option maxRecDepth 100000 in
theorem c_X9_read {n : Nat} {F : Int32 → sm_MI → sm_ML → Prop} {T : List sm_Sh} {I : sm_MI} {L : sm_ML}  (hB : sm_Bs T)
    (h : ∀ x : sm_Cx, sm_Ok x mX9_read (n + 1) (sm_KI T F) → sm_CV n mX2_begin T I L [.ref 4] (fun I1 L1 => sm_CV n mX8_clear T I1 L1 [.ref 5] (fun I2 L2 => sm_CZ n mX2_take T I2 L2 [.ref 4, .int 104] (fun r4 I3 L3 => (r4 = false → sm_CI n mX2_faultHere T I3 L3 [.ref 4] (fun r6 I5 L5 => F r6 I5 L5)) ∧ (r4 = true → sm_CZ n mX9_takeDigit T I3 L3 [.ref 4, .int 2, .int 8] (fun r8 I7 L7 => (r8 = true → sm_V x 0 0 T (sm_uI I7 5 0 (I7 4 4)) L7 48 [some (.ref 4), some (.int 0)] []) ∧ (r8 = false → sm_CI n mX2_faultHere T I7 L7 [.ref 4] (fun r10 I9 L9 => F r10 I9 L9)))))))) :
    sm_CI (n + 1) mX9_read T I L [.ref 4] F :=
  sm_CI.of (by decide +kernel) rfl (fun x hx => show sm_V x 0 0 T I L 0 [some (.ref 4), none] [] from
  sm_aload_n (z := 4) hx dX9_read_0 rfl (sm_callUV (args := []) (st := []) hx dX9_read_1 lu_X9_41_9 rfl rfl (t_4 hB) rfl rfl (h x hx) (fun I1 L1 hI1 => sm_aload_n (z := 4) hx dX9_read_4 rfl (sm_getR hx dX9_read_5 fl_X9_14_9 (t_4 hB) rfl (sm_callVV (args := []) (st := []) hx dX9_read_8 lv_X9_44_8 rfl rfl (t_5 hB) rfl rfl hI1 (fun I2 L2 hI2 => sm_aload_n (z := 4) hx dX9_read_11 rfl (sm_bipush (v := 104) hx dX9_read_12 sm_kb_104 (sm_callUZ (args := [.int 104]) (st := []) hx dX9_read_14 lu_X9_47_9 rfl rfl (t_4 hB) rfl rfl hI2 (fun r4 I3 L3 hI3 => sm_ifeqZ (b := r4) hx dX9_read_17 (tgt := 30) (by decide) (fun q12 => sm_aload_n (z := 4) hx dX9_read_30 rfl (sm_callUI (args := []) (st := []) hx dX9_read_31 lu_X9_55_9 rfl rfl (t_4 hB) rfl rfl (hI3.1 q12) (fun r6 I5 L5 hI5 => sm_iretI hx dX9_read_34 rfl hI5))) (fun q12 => sm_aload_n (z := 4) hx dX9_read_20 rfl (sm_iconst (v := 2) hx dX9_read_21 sm_kc_2 (sm_bipush (v := 8) hx dX9_read_22 sm_kb_8 (sm_callVZ (args := [.int 2, .int 8]) (st := []) hx dX9_read_24 lv_X9_51_9 rfl rfl (t_4 hB) rfl rfl (hI3.2 q12) (fun r8 I7 L7 hI7 => sm_ifneZ (b := r8) hx dX9_read_27 (tgt := 35) (by decide) (fun q11 => sm_aload_n (z := 4) hx dX9_read_35 rfl (sm_getR hx dX9_read_36 fl_X9_14_9 (t_4 hB) rfl (sm_aload_n (z := 4) hx dX9_read_39 rfl (sm_getI hx dX9_read_40 fl_X9_37_9 (t_4 hB) rfl (sm_putI hx dX9_read_43 fl_X9_58_8 (t_5 hB) rfl (sm_iconst (v := 0) hx dX9_read_46 sm_kc_0 (sm_istore_n (ls' := [some (.ref 4), some (.int 0)]) hx dX9_read_47 (by decide) rfl ((hI7.1 q11))))))))) (fun q11 => sm_aload_n (z := 4) hx dX9_read_30 rfl (sm_callUI (args := []) (st := []) hx dX9_read_31 lu_X9_55_9 rfl rfl (t_4 hB) rfl rfl (hI7.2 q11) (fun r10 I9 L9 hI9 => sm_iretI hx dX9_read_34 rfl hI9)))))))))))))))))
theorem dX9_readClause_0 : decode cX9_readClause 0 = .ok (.aload_n 0, 1) := by decide +kernel
theorem dX9_readClause_1 : decode cX9_readClause 1 = .ok (.invokevirtual 65, 3) := by decide +kernel
theorem dX9_readClause_4 : decode cX9_readClause 4 = .ok (.istore_n 1, 1) := by decide +kernel
theorem dX9_readClause_5 : decode cX9_readClause 5 = .ok (.aload_n 0, 1) := by decide +kernel
theorem dX9_readClause_6 : decode cX9_readClause 6 = .ok (.iload_n 1, 1) := by decide +kernel
theorem dX9_readClause_7 : decode cX9_readClause 7 = .ok (.invokevirtual 74, 3) := by decide +kernel
theorem dX9_readClause_10 : decode cX9_readClause 10 = .ok (.ifCond .ne 5, 3) := by decide +kernel
theorem dX9_readClause_13 : decode cX9_readClause 13 = .ok (.iconst 0, 1) := by decide +kernel
theorem dX9_readClause_14 : decode cX9_readClause 14 = .ok (.ireturn, 1) := by decide +kernel
theorem dX9_readClause_15 : decode cX9_readClause 15 = .ok (.aload_n 0, 1) := by decide +kernel
theorem dX9_readClause_16 : decode cX9_readClause 16 = .ok (.invokevirtual 77, 3) := by decide +kernel
theorem dX9_readClause_19 : decode cX9_readClause 19 = .ok (.aload_n 0, 1) := by decide +kernel
theorem dX9_readClause_20 : decode cX9_readClause 20 = .ok (.getfield 33, 3) := by decide +kernel
theorem dX9_readClause_23 : decode cX9_readClause 23 = .ok (.iconst 0, 1) := by decide +kernel
theorem dX9_readClause_24 : decode cX9_readClause 24 = .ok (.invokevirtual 80, 3) := by decide +kernel
theorem dX9_readClause_27 : decode cX9_readClause 27 = .ok (.iload_n 1, 1) := by decide +kernel
theorem dX9_readClause_28 : decode cX9_readClause 28 = .ok (.lookupswitch 101 #[(111, 72), (119, 28)], 28) := by decide +kernel
theorem dX9_readClause_56 : decode cX9_readClause 56 = .ok (.aload_n 0, 1) := by decide +kernel
theorem dX9_readClause_57 : decode cX9_readClause 57 = .ok (.getfield 33, 3) := by decide +kernel
theorem dX9_readClause_60 : decode cX9_readClause 60 = .ok (.ldc 22, 2) := by decide +kernel
theorem dX9_readClause_62 : decode cX9_readClause 62 = .ok (.bipush 115, 2) := by decide +kernel
theorem dX9_readClause_64 : decode cX9_readClause 64 = .ok (.invokevirtual 83, 3) := by decide +kernel
theorem dX9_readClause_67 : decode cX9_readClause 67 = .ok (.iconst 1, 1) := by decide +kernel
theorem dX9_readClause_68 : decode cX9_readClause 68 = .ok (.invokevirtual 87, 3) := by decide +kernel
theorem dX9_readClause_71 : decode cX9_readClause 71 = .ok (.aload_n 0, 1) := by decide +kernel
theorem dX9_readClause_72 : decode cX9_readClause 72 = .ok (.ldc 22, 2) := by decide +kernel
theorem dX9_readClause_74 : decode cX9_readClause 74 = .ok (.invokevirtual 91, 3) := by decide +kernel
theorem dX9_readClause_77 : decode cX9_readClause 77 = .ok (.ifCond .eq 21, 3) := by decide +kernel
theorem dX9_readClause_80 : decode cX9_readClause 80 = .ok (.aload_n 0, 1) := by decide +kernel
theorem dX9_readClause_81 : decode cX9_readClause 81 = .ok (.getfield 14, 3) := by decide +kernel
theorem dX9_readClause_84 : decode cX9_readClause 84 = .ok (.aload_n 0, 1) := by decide +kernel
theorem dX9_readClause_85 : decode cX9_readClause 85 = .ok (.getfield 33, 3) := by decide +kernel
theorem dX9_readClause_88 : decode cX9_readClause 88 = .ok (.invokevirtual 95, 3) := by decide +kernel
theorem dX9_readClause_91 : decode cX9_readClause 91 = .ok (.ifCond .eq 7, 3) := by decide +kernel
theorem dX9_readClause_94 : decode cX9_readClause 94 = .ok (.iconst 1, 1) := by decide +kernel
theorem dX9_readClause_95 : decode cX9_readClause 95 = .ok (.goto 4, 3) := by decide +kernel
theorem dX9_readClause_98 : decode cX9_readClause 98 = .ok (.iconst 0, 1) := by decide +kernel
theorem dX9_readClause_99 : decode cX9_readClause 99 = .ok (.ireturn, 1) := by decide +kernel
theorem dX9_readClause_100 : decode cX9_readClause 100 = .ok (.aload_n 0, 1) := by decide +kernel
theorem dX9_readClause_101 : decode cX9_readClause 101 = .ok (.ldc 99, 2) := by decide +kernel
theorem dX9_readClause_103 : decode cX9_readClause 103 = .ok (.invokevirtual 91, 3) := by decide +kernel
theorem dX9_readClause_106 : decode cX9_readClause 106 = .ok (.ifCond .eq 21, 3) := by decide +kernel
theorem dX9_readClause_109 : decode cX9_readClause 109 = .ok (.aload_n 0, 1) := by decide +kernel
theorem dX9_readClause_110 : decode cX9_readClause 110 = .ok (.getfield 14, 3) := by decide +kernel
theorem dX9_readClause_113 : decode cX9_readClause 113 = .ok (.aload_n 0, 1) := by decide +kernel
theorem dX9_readClause_114 : decode cX9_readClause 114 = .ok (.getfield 33, 3) := by decide +kernel
theorem dX9_readClause_117 : decode cX9_readClause 117 = .ok (.invokevirtual 101, 3) := by decide +kernel
theorem dX9_readClause_120 : decode cX9_readClause 120 = .ok (.ifCond .eq 7, 3) := by decide +kernel
theorem dX9_readClause_123 : decode cX9_readClause 123 = .ok (.iconst 1, 1) := by decide +kernel
theorem dX9_readClause_124 : decode cX9_readClause 124 = .ok (.goto 4, 3) := by decide +kernel
theorem dX9_readClause_127 : decode cX9_readClause 127 = .ok (.iconst 0, 1) := by decide +kernel
theorem dX9_readClause_128 : decode cX9_readClause 128 = .ok (.ireturn, 1) := by decide +kernel
theorem dX9_readClause_129 : decode cX9_readClause 129 = .ok (.aload_n 0, 1) := by decide +kernel
theorem dX9_readClause_130 : decode cX9_readClause 130 = .ok (.getfield 33, 3) := by decide +kernel
theorem dX9_readClause_133 : decode cX9_readClause 133 = .ok (.ldc 104, 2) := by decide +kernel
theorem dX9_readClause_135 : decode cX9_readClause 135 = .ok (.bipush 112, 2) := by decide +kernel
theorem dX9_readClause_137 : decode cX9_readClause 137 = .ok (.invokevirtual 83, 3) := by decide +kernel
theorem dX9_readClause_140 : decode cX9_readClause 140 = .ok (.bipush 7, 2) := by decide +kernel
theorem dX9_readClause_142 : decode cX9_readClause 142 = .ok (.invokevirtual 87, 3) := by decide +kernel
theorem dX9_readClause_145 : decode cX9_readClause 145 = .ok (.aload_n 0, 1) := by decide +kernel
theorem dX9_readClause_146 : decode cX9_readClause 146 = .ok (.ldc 104, 2) := by decide +kernel
theorem dX9_readClause_148 : decode cX9_readClause 148 = .ok (.invokevirtual 91, 3) := by decide +kernel
theorem dX9_readClause_151 : decode cX9_readClause 151 = .ok (.ifCond .eq 21, 3) := by decide +kernel
theorem dX9_readClause_154 : decode cX9_readClause 154 = .ok (.aload_n 0, 1) := by decide +kernel
theorem dX9_readClause_155 : decode cX9_readClause 155 = .ok (.getfield 14, 3) := by decide +kernel
theorem dX9_readClause_158 : decode cX9_readClause 158 = .ok (.aload_n 0, 1) := by decide +kernel
theorem dX9_readClause_159 : decode cX9_readClause 159 = .ok (.getfield 33, 3) := by decide +kernel
theorem dX9_readClause_162 : decode cX9_readClause 162 = .ok (.invokevirtual 106, 3) := by decide +kernel
theorem dX9_readClause_165 : decode cX9_readClause 165 = .ok (.ifCond .eq 7, 3) := by decide +kernel
theorem dX9_readClause_168 : decode cX9_readClause 168 = .ok (.iconst 1, 1) := by decide +kernel
theorem dX9_readClause_169 : decode cX9_readClause 169 = .ok (.goto 4, 3) := by decide +kernel
theorem dX9_readClause_172 : decode cX9_readClause 172 = .ok (.iconst 0, 1) := by decide +kernel
theorem dX9_readClause_173 : decode cX9_readClause 173 = .ok (.ireturn, 1) := by decide +kernel
set_option maxRecDepth 100000 in
theorem c_X9_readClause {n : Nat} {F : Bool → sm_MI → sm_ML → Prop} {T : List sm_Sh} {I : sm_MI} {L : sm_ML}  (hB : sm_Bs T)
    (h : sm_CI n mX2_nextSign T I L [.ref 4] (fun r2 I1 L1 => sm_CZ n mX9_canCome T I1 L1 [.ref 4, .int r2] (fun r4 I3 L3 => (r4 = true → sm_CV n mX2_goOn T I3 L3 [.ref 4] (fun I5 L5 => sm_CV n mX3_fill T I5 L5 [.ref 16, .int 0] (fun I6 L6 => (r2 = 111 → sm_CZ n mX9_readItems T I6 L6 [.ref 4, .ref 1000001] (fun r8 I7 L7 => (r8 = false → F false I7 L7) ∧ (r8 = true → sm_CZ n mX8_addThing T I7 L7 [.ref 5, .ref 16] (fun r10 I9 L9 => (r10 = false → F false I9 L9) ∧ (r10 = true → F true I9 L9))))) ∧ (r2 = 119 → sm_CI n mJ0_indexOf_0f7a4 T I6 L6 [.ref 1000000, .int 115] (fun r12 I11 L11 => sm_CV n mX3_set T I11 L11 [.ref 16, .int r12, .int 1] (fun I13 L13 => sm_CZ n mX9_readItems T I13 L13 [.ref 4, .ref 1000000] (fun r15 I14 L14 => (r15 = false → F false I14 L14) ∧ (r15 = true → sm_CZ n mX8_addSleeper T I14 L14 [.ref 5, .ref 16] (fun r17 I16 L16 => (r17 = false → F false I16 L16) ∧ (r17 = true → F true I16 L16))))))) ∧ (¬ r2 = 111 ∧ ¬ r2 = 119 → sm_CI n mJ0_indexOf_0f7a4 T I6 L6 [.ref 1000002, .int 112] (fun r19 I18 L18 => sm_CV n mX3_set T I18 L18 [.ref 16, .int r19, .int 7] (fun I20 L20 => sm_CZ n mX9_readItems T I20 L20 [.ref 4, .ref 1000002] (fun r22 I21 L21 => (r22 = false → F false I21 L21) ∧ (r22 = true → sm_CZ n mX8_addMoon T I21 L21 [.ref 5, .ref 16] (fun r24 I23 L23 => (r24 = false → F false I23 L23) ∧ (r24 = true → F true I23 L23)))))))))) ∧ (r4 = false → F false I3 L3)))) :
    sm_CZ (n + 1) mX9_readClause T I L [.ref 4] F :=
  sm_CZ.of (by decide +kernel) rfl (fun x hx => show sm_V x 0 0 T I L 0 [some (.ref 4), none] [] from
  sm_aload_n (z := 4) hx dX9_readClause_0 rfl (sm_callUI (args := []) (st := []) hx dX9_readClause_1 lu_X9_65_9 rfl rfl (t_4 hB) rfl rfl h (fun r2 I1 L1 hI1 => sm_istore_n (ls' := [some (.ref 4), some (.int r2)]) hx dX9_readClause_4 (by decide) rfl (sm_aload_n (z := 4) hx dX9_readClause_5 rfl (sm_iload_n (z := r2) hx dX9_readClause_6 rfl (sm_callVZ (args := [.int r2]) (st := []) hx dX9_readClause_7 lv_X9_74_9 rfl rfl (t_4 hB) rfl rfl hI1 (fun r4 I3 L3 hI3 => sm_ifneZ (b := r4) hx dX9_readClause_10 (tgt := 15) (by decide) (fun q7 => sm_aload_n (z := 4) hx dX9_readClause_15 rfl (sm_callUV (args := []) (st := []) hx dX9_readClause_16 lu_X9_77_9 rfl rfl (t_4 hB) rfl rfl (hI3.1 q7) (fun I5 L5 hI5 => sm_aload_n (z := 4) hx dX9_readClause_19 rfl (sm_getR hx dX9_readClause_20 fl_X9_33_9 (t_4 hB) rfl (sm_iconst (v := 0) hx dX9_readClause_23 sm_kc_0 (sm_callVV (args := [.int 0]) (st := []) hx dX9_readClause_24 lv_X9_80_3 rfl rfl (t_16 hB) rfl rfl hI5 (fun I6 L6 hI6 => sm_iload_n (z := r2) hx dX9_readClause_27 rfl (if q28_0 : r2 = 111 then sm_lookup (a := r2) (off := 72) hx dX9_readClause_28 (by decide) (by rw [q28_0]; decide) (tgt := 100) (by decide) (sm_aload_n (z := 4) hx dX9_readClause_100 rfl (sm_ldcS (k := 1000001) hx dX9_readClause_101 sm_str_X9_99 rfl (sm_callVZ (args := [.ref 1000001]) (st := []) hx dX9_readClause_103 lv_X9_91_9 rfl rfl (t_4 hB) rfl rfl (hI6.1 q28_0) (fun r8 I7 L7 hI7 => sm_ifeqZ (b := r8) hx dX9_readClause_106 (tgt := 127) (by decide) (fun q2 => sm_iconst (v := 0) hx dX9_readClause_127 sm_kc_0 (sm_iretZ (z := false) hx dX9_readClause_128 rfl (hI7.1 q2))) (fun q2 => sm_aload_n (z := 4) hx dX9_readClause_109 rfl (sm_getR hx dX9_readClause_110 fl_X9_14_9 (t_4 hB) rfl (sm_aload_n (z := 4) hx dX9_readClause_113 rfl (sm_getR hx dX9_readClause_114 fl_X9_33_9 (t_4 hB) rfl (sm_callVZ (args := [.ref 16]) (st := []) hx dX9_readClause_117 lv_X9_101_8 rfl rfl (t_5 hB) rfl rfl (hI7.2 q2) (fun r10 I9 L9 hI9 => sm_ifeqZ (b := r10) hx dX9_readClause_120 (tgt := 127) (by decide) (fun q1 => sm_iconst (v := 0) hx dX9_readClause_127 sm_kc_0 (sm_iretZ (z := false) hx dX9_readClause_128 rfl (hI9.1 q1))) (fun q1 => sm_iconst (v := 1) hx dX9_readClause_123 sm_kc_1 (sm_goto hx dX9_readClause_124 (tgt := 128) (by decide) (sm_iretZ (z := true) hx dX9_readClause_128 rfl (hI9.2 q1)))))))))))))) else if q28_1 : r2 = 119 then sm_lookup (a := r2) (off := 28) hx dX9_readClause_28 (by decide) (by rw [q28_1]; decide) (tgt := 56) (by decide) (sm_aload_n (z := 4) hx dX9_readClause_56 rfl (sm_getR hx dX9_readClause_57 fl_X9_33_9 (t_4 hB) rfl (sm_ldcS (k := 1000000) hx dX9_readClause_60 sm_str_X9_22 rfl (sm_bipush (v := 115) hx dX9_readClause_62 sm_kb_115 (sm_callVXI (args := [.int 115]) (st := [.ref 16]) hx dX9_readClause_64 lv_X9_83_x rfl rfl (i := 0) (by decide) rfl rfl (hI6.2.1 q28_1) (fun r12 I11 L11 hI11 => sm_iconst (v := 1) hx dX9_readClause_67 sm_kc_1 (sm_callVV (args := [.int r12, .int 1]) (st := []) hx dX9_readClause_68 lv_X9_87_3 rfl rfl (t_16 hB) rfl rfl hI11 (fun I13 L13 hI13 => sm_aload_n (z := 4) hx dX9_readClause_71 rfl (sm_ldcS (k := 1000000) hx dX9_readClause_72 sm_str_X9_22 rfl (sm_callVZ (args := [.ref 1000000]) (st := []) hx dX9_readClause_74 lv_X9_91_9 rfl rfl (t_4 hB) rfl rfl hI13 (fun r15 I14 L14 hI14 => sm_ifeqZ (b := r15) hx dX9_readClause_77 (tgt := 98) (by decide) (fun q4 => sm_iconst (v := 0) hx dX9_readClause_98 sm_kc_0 (sm_iretZ (z := false) hx dX9_readClause_99 rfl (hI14.1 q4))) (fun q4 => sm_aload_n (z := 4) hx dX9_readClause_80 rfl (sm_getR hx dX9_readClause_81 fl_X9_14_9 (t_4 hB) rfl (sm_aload_n (z := 4) hx dX9_readClause_84 rfl (sm_getR hx dX9_readClause_85 fl_X9_33_9 (t_4 hB) rfl (sm_callVZ (args := [.ref 16]) (st := []) hx dX9_readClause_88 lv_X9_95_8 rfl rfl (t_5 hB) rfl rfl (hI14.2 q4) (fun r17 I16 L16 hI16 => sm_ifeqZ (b := r17) hx dX9_readClause_91 (tgt := 98) (by decide) (fun q3 => sm_iconst (v := 0) hx dX9_readClause_98 sm_kc_0 (sm_iretZ (z := false) hx dX9_readClause_99 rfl (hI16.1 q3))) (fun q3 => sm_iconst (v := 1) hx dX9_readClause_94 sm_kc_1 (sm_goto hx dX9_readClause_95 (tgt := 99) (by decide) (sm_iretZ (z := true) hx dX9_readClause_99 rfl (hI16.2 q3))))))))))))))))))))) else sm_lookup (a := r2) (off := 101) hx dX9_readClause_28 (by decide) ((lv_osw q28_0 (by decide)).trans ((lv_osw q28_1 (by decide)).trans rfl)) (tgt := 129) (by decide) (sm_aload_n (z := 4) hx dX9_readClause_129 rfl (sm_getR hx dX9_readClause_130 fl_X9_33_9 (t_4 hB) rfl (sm_ldcS (k := 1000002) hx dX9_readClause_133 sm_str_X9_104 rfl (sm_bipush (v := 112) hx dX9_readClause_135 sm_kb_112 (sm_callVXI (args := [.int 112]) (st := [.ref 16]) hx dX9_readClause_137 lv_X9_83_x rfl rfl (i := 2) (by decide) rfl rfl (hI6.2.2 ⟨q28_0, q28_1⟩) (fun r19 I18 L18 hI18 => sm_bipush (v := 7) hx dX9_readClause_140 sm_kb_7 (sm_callVV (args := [.int r19, .int 7]) (st := []) hx dX9_readClause_142 lv_X9_87_3 rfl rfl (t_16 hB) rfl rfl hI18 (fun I20 L20 hI20 => sm_aload_n (z := 4) hx dX9_readClause_145 rfl (sm_ldcS (k := 1000002) hx dX9_readClause_146 sm_str_X9_104 rfl (sm_callVZ (args := [.ref 1000002]) (st := []) hx dX9_readClause_148 lv_X9_91_9 rfl rfl (t_4 hB) rfl rfl hI20 (fun r22 I21 L21 hI21 => sm_ifeqZ (b := r22) hx dX9_readClause_151 (tgt := 172) (by decide) (fun q6 => sm_iconst (v := 0) hx dX9_readClause_172 sm_kc_0 (sm_iretZ (z := false) hx dX9_readClause_173 rfl (hI21.1 q6))) (fun q6 => sm_aload_n (z := 4) hx dX9_readClause_154 rfl (sm_getR hx dX9_readClause_155 fl_X9_14_9 (t_4 hB) rfl (sm_aload_n (z := 4) hx dX9_readClause_158 rfl (sm_getR hx dX9_readClause_159 fl_X9_33_9 (t_4 hB) rfl (sm_callVZ (args := [.ref 16]) (st := []) hx dX9_readClause_162 lv_X9_106_8 rfl rfl (t_5 hB) rfl rfl (hI21.2 q6) (fun r24 I23 L23 hI23 => sm_ifeqZ (b := r24) hx dX9_readClause_165 (tgt := 172) (by decide) (fun q5 => sm_iconst (v := 0) hx dX9_readClause_172 sm_kc_0 (sm_iretZ (z := false) hx dX9_readClause_173 rfl (hI23.1 q5))) (fun q5 => sm_iconst (v := 1) hx dX9_readClause_168 sm_kc_1 (sm_goto hx dX9_readClause_169 (tgt := 173) (by decide) (sm_iretZ (z := true) hx dX9_readClause_173 rfl (hI23.2 q5))))))))))))))))))))))))))))) (fun q7 => sm_iconst (v := 0) hx dX9_readClause_13 sm_kc_0 (sm_iretZ (z := false) hx dX9_readClause_14 rfl (hI3.2 q7))))))))))
theorem dX9_canCome_0 : decode cX9_canCome 0 = .ok (.iload_n 1, 1) := by decide +kernel
theorem dX9_canCome_1 : decode cX9_canCome 1 = .ok (.lookupswitch 86 #[(109, 70), (111, 52), (119, 35)], 35) := by decide +kernel
theorem dX9_canCome_36 : decode cX9_canCome 36 = .ok (.aload_n 0, 1) := by decide +kernel
theorem dX9_canCome_37 : decode cX9_canCome 37 = .ok (.getfield 14, 3) := by decide +kernel
theorem dX9_canCome_40 : decode cX9_canCome 40 = .ok (.getfield 68, 3) := by decide +kernel
theorem dX9_canCome_43 : decode cX9_canCome 43 = .ok (.iconst 5, 1) := by decide +kernel
theorem dX9_canCome_44 : decode cX9_canCome 44 = .ok (.if_icmp .ge 7, 3) := by decide +kernel
theorem dX9_canCome_47 : decode cX9_canCome 47 = .ok (.iconst 1, 1) := by decide +kernel
theorem dX9_canCome_48 : decode cX9_canCome 48 = .ok (.goto 4, 3) := by decide +kernel
theorem dX9_canCome_51 : decode cX9_canCome 51 = .ok (.iconst 0, 1) := by decide +kernel
theorem dX9_canCome_52 : decode cX9_canCome 52 = .ok (.ireturn, 1) := by decide +kernel
theorem dX9_canCome_53 : decode cX9_canCome 53 = .ok (.aload_n 0, 1) := by decide +kernel
theorem dX9_canCome_54 : decode cX9_canCome 54 = .ok (.getfield 14, 3) := by decide +kernel
theorem dX9_canCome_57 : decode cX9_canCome 57 = .ok (.getfield 71, 3) := by decide +kernel
theorem dX9_canCome_60 : decode cX9_canCome 60 = .ok (.bipush 8, 2) := by decide +kernel
theorem dX9_canCome_62 : decode cX9_canCome 62 = .ok (.if_icmp .ge 7, 3) := by decide +kernel
theorem dX9_canCome_65 : decode cX9_canCome 65 = .ok (.iconst 1, 1) := by decide +kernel
theorem dX9_canCome_66 : decode cX9_canCome 66 = .ok (.goto 4, 3) := by decide +kernel
theorem dX9_canCome_69 : decode cX9_canCome 69 = .ok (.iconst 0, 1) := by decide +kernel
theorem dX9_canCome_70 : decode cX9_canCome 70 = .ok (.ireturn, 1) := by decide +kernel
theorem dX9_canCome_71 : decode cX9_canCome 71 = .ok (.aload_n 0, 1) := by decide +kernel
theorem dX9_canCome_72 : decode cX9_canCome 72 = .ok (.getfield 14, 3) := by decide +kernel
theorem dX9_canCome_75 : decode cX9_canCome 75 = .ok (.getfield 109, 3) := by decide +kernel
theorem dX9_canCome_78 : decode cX9_canCome 78 = .ok (.ifCond .ne 7, 3) := by decide +kernel
theorem dX9_canCome_81 : decode cX9_canCome 81 = .ok (.iconst 1, 1) := by decide +kernel
theorem dX9_canCome_82 : decode cX9_canCome 82 = .ok (.goto 4, 3) := by decide +kernel
theorem dX9_canCome_85 : decode cX9_canCome 85 = .ok (.iconst 0, 1) := by decide +kernel
theorem dX9_canCome_86 : decode cX9_canCome 86 = .ok (.ireturn, 1) := by decide +kernel
theorem dX9_canCome_87 : decode cX9_canCome 87 = .ok (.iconst 0, 1) := by decide +kernel
theorem dX9_canCome_88 : decode cX9_canCome 88 = .ok (.ireturn, 1) := by decide +kernel
set_option maxRecDepth 100000 in
theorem c_X9_canCome {n : Nat} {F : Bool → sm_MI → sm_ML → Prop} {T : List sm_Sh} {I : sm_MI} {L : sm_ML} {a1 : Int32} (hB : sm_Bs T)
    (h : (a1 = 109 → (¬ (I 5 4) = 0 → F false I L) ∧ ((I 5 4) = 0 → F true I L)) ∧ (a1 = 111 → (8 ≤ (I 5 2) → F false I L) ∧ (¬ 8 ≤ (I 5 2) → F true I L)) ∧ (a1 = 119 → (5 ≤ (I 5 1) → F false I L) ∧ (¬ 5 ≤ (I 5 1) → F true I L)) ∧ (¬ a1 = 109 ∧ ¬ a1 = 111 ∧ ¬ a1 = 119 → F false I L)) :
    sm_CZ n mX9_canCome T I L [.ref 4, .int a1] F :=
  sm_CZ.of (by decide +kernel) rfl (fun x hx => show sm_V x 0 0 T I L 0 [some (.ref 4), some (.int a1)] [] from
  sm_iload_n (z := a1) hx dX9_canCome_0 rfl (if q1_0 : a1 = 109 then sm_lookup (a := a1) (off := 70) hx dX9_canCome_1 (by decide) (by rw [q1_0]; decide) (tgt := 71) (by decide) (sm_aload_n (z := 4) hx dX9_canCome_71 rfl (sm_getR hx dX9_canCome_72 fl_X9_14_9 (t_4 hB) rfl (sm_getI hx dX9_canCome_75 fl_X9_109_8 (t_5 hB) rfl (sm_ifne (a := (I 5 4)) hx dX9_canCome_78 (tgt := 85) (by decide) (fun q1 => sm_iconst (v := 0) hx dX9_canCome_85 sm_kc_0 (sm_iretZ (z := false) hx dX9_canCome_86 rfl ((h.1 q1_0).1 q1))) (fun q1 => sm_iconst (v := 1) hx dX9_canCome_81 sm_kc_1 (sm_goto hx dX9_canCome_82 (tgt := 86) (by decide) (sm_iretZ (z := true) hx dX9_canCome_86 rfl ((h.1 q1_0).2 q1)))))))) else if q1_1 : a1 = 111 then sm_lookup (a := a1) (off := 52) hx dX9_canCome_1 (by decide) (by rw [q1_1]; decide) (tgt := 53) (by decide) (sm_aload_n (z := 4) hx dX9_canCome_53 rfl (sm_getR hx dX9_canCome_54 fl_X9_14_9 (t_4 hB) rfl (sm_getI hx dX9_canCome_57 fl_X9_71_8 (t_5 hB) rfl (sm_bipush (v := 8) hx dX9_canCome_60 sm_kb_8 (sm_icmpge (a := (I 5 2)) (b := 8) hx dX9_canCome_62 (tgt := 69) (by decide) (fun q2 => sm_iconst (v := 0) hx dX9_canCome_69 sm_kc_0 (sm_iretZ (z := false) hx dX9_canCome_70 rfl ((h.2.1 q1_1).1 q2))) (fun q2 => sm_iconst (v := 1) hx dX9_canCome_65 sm_kc_1 (sm_goto hx dX9_canCome_66 (tgt := 70) (by decide) (sm_iretZ (z := true) hx dX9_canCome_70 rfl ((h.2.1 q1_1).2 q2))))))))) else if q1_2 : a1 = 119 then sm_lookup (a := a1) (off := 35) hx dX9_canCome_1 (by decide) (by rw [q1_2]; decide) (tgt := 36) (by decide) (sm_aload_n (z := 4) hx dX9_canCome_36 rfl (sm_getR hx dX9_canCome_37 fl_X9_14_9 (t_4 hB) rfl (sm_getI hx dX9_canCome_40 fl_X9_68_8 (t_5 hB) rfl (sm_iconst (v := 5) hx dX9_canCome_43 sm_kc_5 (sm_icmpge (a := (I 5 1)) (b := 5) hx dX9_canCome_44 (tgt := 51) (by decide) (fun q3 => sm_iconst (v := 0) hx dX9_canCome_51 sm_kc_0 (sm_iretZ (z := false) hx dX9_canCome_52 rfl ((h.2.2.1 q1_2).1 q3))) (fun q3 => sm_iconst (v := 1) hx dX9_canCome_47 sm_kc_1 (sm_goto hx dX9_canCome_48 (tgt := 52) (by decide) (sm_iretZ (z := true) hx dX9_canCome_52 rfl ((h.2.2.1 q1_2).2 q3))))))))) else sm_lookup (a := a1) (off := 86) hx dX9_canCome_1 (by decide) ((lv_osw q1_0 (by decide)).trans ((lv_osw q1_1 (by decide)).trans ((lv_osw q1_2 (by decide)).trans rfl))) (tgt := 87) (by decide) (sm_iconst (v := 0) hx dX9_canCome_87 sm_kc_0 (sm_iretZ (z := false) hx dX9_canCome_88 rfl (h.2.2.2 ⟨q1_0, q1_1, q1_2⟩)))))
theorem dX9_readItems_0 : decode cX9_readItems 0 = .ok (.iconst 0, 1) := by decide +kernel
theorem dX9_readItems_1 : decode cX9_readItems 1 = .ok (.istore_n 2, 1) := by decide +kernel
theorem dX9_readItems_2 : decode cX9_readItems 2 = .ok (.iconst 0, 1) := by decide +kernel
theorem dX9_readItems_3 : decode cX9_readItems 3 = .ok (.istore_n 3, 1) := by decide +kernel
theorem dX9_readItems_4 : decode cX9_readItems 4 = .ok (.iload_n 3, 1) := by decide +kernel
theorem dX9_readItems_5 : decode cX9_readItems 5 = .ok (.aload_n 1, 1) := by decide +kernel
theorem dX9_readItems_6 : decode cX9_readItems 6 = .ok (.invokevirtual 24, 3) := by decide +kernel
theorem dX9_readItems_9 : decode cX9_readItems 9 = .ok (.if_icmp .ge 103, 3) := by decide +kernel
theorem dX9_readItems_12 : decode cX9_readItems 12 = .ok (.aload_n 0, 1) := by decide +kernel
theorem dX9_readItems_13 : decode cX9_readItems 13 = .ok (.invokevirtual 65, 3) := by decide +kernel
theorem dX9_readItems_16 : decode cX9_readItems 16 = .ok (.istore 4, 2) := by decide +kernel
theorem dX9_readItems_18 : decode cX9_readItems 18 = .ok (.iload 4, 2) := by decide +kernel
theorem dX9_readItems_20 : decode cX9_readItems 20 = .ok (.iconst (-1), 1) := by decide +kernel
theorem dX9_readItems_21 : decode cX9_readItems 21 = .ok (.if_icmp .ne 7, 3) := by decide +kernel
theorem dX9_readItems_24 : decode cX9_readItems 24 = .ok (.iconst (-1), 1) := by decide +kernel
theorem dX9_readItems_25 : decode cX9_readItems 25 = .ok (.goto 10, 3) := by decide +kernel
theorem dX9_readItems_28 : decode cX9_readItems 28 = .ok (.aload_n 1, 1) := by decide +kernel
theorem dX9_readItems_29 : decode cX9_readItems 29 = .ok (.iload 4, 2) := by decide +kernel
theorem dX9_readItems_31 : decode cX9_readItems 31 = .ok (.i2c, 1) := by decide +kernel
theorem dX9_readItems_32 : decode cX9_readItems 32 = .ok (.invokevirtual 83, 3) := by decide +kernel
theorem dX9_readItems_35 : decode cX9_readItems 35 = .ok (.istore 5, 2) := by decide +kernel
theorem dX9_readItems_37 : decode cX9_readItems 37 = .ok (.iload 5, 2) := by decide +kernel
theorem dX9_readItems_39 : decode cX9_readItems 39 = .ok (.iconst (-1), 1) := by decide +kernel
theorem dX9_readItems_40 : decode cX9_readItems 40 = .ok (.if_icmp .eq 13, 3) := by decide +kernel
theorem dX9_readItems_43 : decode cX9_readItems 43 = .ok (.iload_n 2, 1) := by decide +kernel
theorem dX9_readItems_44 : decode cX9_readItems 44 = .ok (.iload 5, 2) := by decide +kernel
theorem dX9_readItems_46 : decode cX9_readItems 46 = .ok (.invokestatic 112, 3) := by decide +kernel
theorem dX9_readItems_49 : decode cX9_readItems 49 = .ok (.iconst 1, 1) := by decide +kernel
theorem dX9_readItems_50 : decode cX9_readItems 50 = .ok (.if_icmp .ne 5, 3) := by decide +kernel
theorem dX9_readItems_53 : decode cX9_readItems 53 = .ok (.iconst 1, 1) := by decide +kernel
theorem dX9_readItems_54 : decode cX9_readItems 54 = .ok (.ireturn, 1) := by decide +kernel
theorem dX9_readItems_55 : decode cX9_readItems 55 = .ok (.aload_n 0, 1) := by decide +kernel
theorem dX9_readItems_56 : decode cX9_readItems 56 = .ok (.invokevirtual 77, 3) := by decide +kernel
theorem dX9_readItems_59 : decode cX9_readItems 59 = .ok (.aload_n 0, 1) := by decide +kernel
theorem dX9_readItems_60 : decode cX9_readItems 60 = .ok (.iload 4, 2) := by decide +kernel
theorem dX9_readItems_62 : decode cX9_readItems 62 = .ok (.bipush 112, 2) := by decide +kernel
theorem dX9_readItems_64 : decode cX9_readItems 64 = .ok (.if_icmp .ne 7, 3) := by decide +kernel
theorem dX9_readItems_67 : decode cX9_readItems 67 = .ok (.iconst 2, 1) := by decide +kernel
theorem dX9_readItems_68 : decode cX9_readItems 68 = .ok (.goto 4, 3) := by decide +kernel
theorem dX9_readItems_71 : decode cX9_readItems 71 = .ok (.iconst 0, 1) := by decide +kernel
theorem dX9_readItems_72 : decode cX9_readItems 72 = .ok (.aload_n 0, 1) := by decide +kernel
theorem dX9_readItems_73 : decode cX9_readItems 73 = .ok (.iload 4, 2) := by decide +kernel
theorem dX9_readItems_75 : decode cX9_readItems 75 = .ok (.invokevirtual 116, 3) := by decide +kernel
theorem dX9_readItems_78 : decode cX9_readItems 78 = .ok (.invokevirtual 51, 3) := by decide +kernel
theorem dX9_readItems_81 : decode cX9_readItems 81 = .ok (.ifCond .ne 5, 3) := by decide +kernel
theorem dX9_readItems_84 : decode cX9_readItems 84 = .ok (.iconst 0, 1) := by decide +kernel
theorem dX9_readItems_85 : decode cX9_readItems 85 = .ok (.ireturn, 1) := by decide +kernel
theorem dX9_readItems_86 : decode cX9_readItems 86 = .ok (.aload_n 0, 1) := by decide +kernel
theorem dX9_readItems_87 : decode cX9_readItems 87 = .ok (.getfield 33, 3) := by decide +kernel
theorem dX9_readItems_90 : decode cX9_readItems 90 = .ok (.iload 5, 2) := by decide +kernel
theorem dX9_readItems_92 : decode cX9_readItems 92 = .ok (.aload_n 0, 1) := by decide +kernel
theorem dX9_readItems_93 : decode cX9_readItems 93 = .ok (.getfield 37, 3) := by decide +kernel
theorem dX9_readItems_96 : decode cX9_readItems 96 = .ok (.invokevirtual 87, 3) := by decide +kernel
theorem dX9_readItems_99 : decode cX9_readItems 99 = .ok (.iload_n 2, 1) := by decide +kernel
theorem dX9_readItems_100 : decode cX9_readItems 100 = .ok (.iconst 1, 1) := by decide +kernel
theorem dX9_readItems_101 : decode cX9_readItems 101 = .ok (.iload 5, 2) := by decide +kernel
theorem dX9_readItems_103 : decode cX9_readItems 103 = .ok (.ishl, 1) := by decide +kernel
theorem dX9_readItems_104 : decode cX9_readItems 104 = .ok (.ior, 1) := by decide +kernel
theorem dX9_readItems_105 : decode cX9_readItems 105 = .ok (.istore_n 2, 1) := by decide +kernel
theorem dX9_readItems_106 : decode cX9_readItems 106 = .ok (.iinc 3 1, 3) := by decide +kernel
theorem dX9_readItems_109 : decode cX9_readItems 109 = .ok (.goto (-105), 3) := by decide +kernel
theorem dX9_readItems_112 : decode cX9_readItems 112 = .ok (.iconst 1, 1) := by decide +kernel
theorem dX9_readItems_113 : decode cX9_readItems 113 = .ok (.ireturn, 1) := by decide +kernel
set_option maxRecDepth 100000 in
theorem u_X9_readItems_aske_4 {x : sm_Cx} {n : Nat} {F : Bool → sm_MI → sm_ML → Prop} {T : List sm_Sh} {I : sm_MI} {L : sm_ML} {a2 : Int32} {a3 : Int32} {u4 : Option Value} {u5 : Option Value} (hB : sm_Bs T) (hx : sm_Ok x mX9_readItems (n + 1) (sm_KZ T F))
    (h : sm_CI n mJ0_length_8abf5 T I L [.ref 1000000] (fun r2 I1 L1 => (r2 ≤ a3 → F true I1 L1) ∧ (¬ r2 ≤ a3 → sm_CI n mX2_nextSign T I1 L1 [.ref 4] (fun r4 I3 L3 => (¬ r4 = (-1) → sm_CI n mJ0_indexOf_0f7a4 T I3 L3 [.ref 1000000, .int (((Int32.toUInt32 r4) % 65536).toInt32)] (fun r6 I5 L5 => (r6 = (-1) → F true I5 L5) ∧ (¬ r6 = (-1) → sm_CI n mX11_bitOf T I5 L5 [.int a2, .int r6] (fun r8 I7 L7 => (¬ r8 = 1 → sm_CV n mX2_goOn T I7 L7 [.ref 4] (fun I9 L9 => (¬ r4 = 112 → sm_V x 0 0 T I9 L9 72 [some (.ref 4), some (.ref 1000000), some (.int a2), some (.int a3), some (.int r4), some (.int r6)] [.int 0, .ref 4]) ∧ (r4 = 112 → sm_V x 0 0 T I9 L9 72 [some (.ref 4), some (.ref 1000000), some (.int a2), some (.int a3), some (.int r4), some (.int r6)] [.int 2, .ref 4]))) ∧ (r8 = 1 → F true I7 L7))))) ∧ (r4 = (-1) → F true I3 L3))))) :
    sm_V x 0 0 T I L 4 [some (.ref 4), some (.ref 1000000), some (.int a2), some (.int a3), u4, u5] [] :=
  sm_iload_n (z := a3) hx dX9_readItems_4 rfl (sm_aload_n (z := 1000000) hx dX9_readItems_5 rfl (sm_callVXI (args := []) (st := [.int a3]) hx dX9_readItems_6 lv_X9_24_x rfl rfl (i := 0) (by decide) rfl rfl h (fun r2 I1 L1 hI1 => sm_icmpge (a := a3) (b := r2) hx dX9_readItems_9 (tgt := 112) (by decide) (fun q6 => sm_iconst (v := 1) hx dX9_readItems_112 sm_kc_1 (sm_iretZ (z := true) hx dX9_readItems_113 rfl (hI1.1 q6))) (fun q6 => sm_aload_n (z := 4) hx dX9_readItems_12 rfl (sm_callUI (args := []) (st := []) hx dX9_readItems_13 lu_X9_65_9 rfl rfl (t_4 hB) rfl rfl (hI1.2 q6) (fun r4 I3 L3 hI3 => sm_istore (ls' := [some (.ref 4), some (.ref 1000000), some (.int a2), some (.int a3), some (.int r4), u5]) hx dX9_readItems_16 (by decide) rfl (sm_iload (z := r4) hx dX9_readItems_18 rfl (sm_iconst (v := (-1)) hx dX9_readItems_20 sm_kc_m1 (sm_icmpne (a := r4) (b := (-1)) hx dX9_readItems_21 (tgt := 28) (by decide) (fun q5 => sm_aload_n (z := 1000000) hx dX9_readItems_28 rfl (sm_iload (z := r4) hx dX9_readItems_29 rfl (sm_i2c (a := r4) hx dX9_readItems_31 (sm_callVXI (args := [.int (((Int32.toUInt32 r4) % 65536).toInt32)]) (st := []) hx dX9_readItems_32 lv_X9_83_x rfl rfl (i := 0) (by decide) rfl rfl (hI3.1 q5) (fun r6 I5 L5 hI5 => sm_istore (ls' := [some (.ref 4), some (.ref 1000000), some (.int a2), some (.int a3), some (.int r4), some (.int r6)]) hx dX9_readItems_35 (by decide) rfl (sm_iload (z := r6) hx dX9_readItems_37 rfl (sm_iconst (v := (-1)) hx dX9_readItems_39 sm_kc_m1 (sm_icmpeq (a := r6) (b := (-1)) hx dX9_readItems_40 (tgt := 53) (by decide) (fun q3 => sm_iconst (v := 1) hx dX9_readItems_53 sm_kc_1 (sm_iretZ (z := true) hx dX9_readItems_54 rfl (hI5.1 q3))) (fun q3 => sm_iload_n (z := a2) hx dX9_readItems_43 rfl (sm_iload (z := r6) hx dX9_readItems_44 rfl (sm_callSI (args := [.int a2, .int r6]) (st := []) hx dX9_readItems_46 ls_X9_112 rfl rfl rfl (hI5.2 q3) (fun r8 I7 L7 hI7 => sm_iconst (v := 1) hx dX9_readItems_49 sm_kc_1 (sm_icmpne (a := r8) (b := 1) hx dX9_readItems_50 (tgt := 55) (by decide) (fun q2 => sm_aload_n (z := 4) hx dX9_readItems_55 rfl (sm_callUV (args := []) (st := []) hx dX9_readItems_56 lu_X9_77_9 rfl rfl (t_4 hB) rfl rfl (hI7.1 q2) (fun I9 L9 hI9 => sm_aload_n (z := 4) hx dX9_readItems_59 rfl (sm_iload (z := r4) hx dX9_readItems_60 rfl (sm_bipush (v := 112) hx dX9_readItems_62 sm_kb_112 (sm_icmpne (a := r4) (b := 112) hx dX9_readItems_64 (tgt := 71) (by decide) (fun q1 => sm_iconst (v := 0) hx dX9_readItems_71 sm_kc_0 ((hI9.1 q1))) (fun q1 => sm_iconst (v := 2) hx dX9_readItems_67 sm_kc_2 (sm_goto hx dX9_readItems_68 (tgt := 72) (by decide) ((hI9.2 q1)))))))))) (fun q2 => sm_iconst (v := 1) hx dX9_readItems_53 sm_kc_1 (sm_iretZ (z := true) hx dX9_readItems_54 rfl (hI7.2 q2)))))))))))))))) (fun q5 => sm_iconst (v := (-1)) hx dX9_readItems_24 sm_kc_m1 (sm_goto hx dX9_readItems_25 (tgt := 35) (by decide) (sm_istore (ls' := [some (.ref 4), some (.ref 1000000), some (.int a2), some (.int a3), some (.int r4), some (.int (-1))]) hx dX9_readItems_35 (by decide) rfl (sm_iload (z := (-1)) hx dX9_readItems_37 rfl (sm_iconst (v := (-1)) hx dX9_readItems_39 sm_kc_m1 (sm_icmpeq (a := (-1)) (b := (-1)) hx dX9_readItems_40 (tgt := 53) (by decide) (fun q4 => sm_iconst (v := 1) hx dX9_readItems_53 sm_kc_1 (sm_iretZ (z := true) hx dX9_readItems_54 rfl (hI3.2 q5))) (fun q4 => absurd q4 (by decide)))))))))))))))))
set_option maxRecDepth 100000 in
theorem u_X9_readItems_aske_72 {x : sm_Cx} {n : Nat} {F : Bool → sm_MI → sm_ML → Prop} {T : List sm_Sh} {I : sm_MI} {L : sm_ML} {a2 : Int32} {a3 : Int32} {a4 : Int32} {a5 : Int32} {as0 : Int32} (hB : sm_Bs T) (hx : sm_Ok x mX9_readItems (n + 1) (sm_KZ T F))
    (h : sm_CI n mX9_mostOf T I L [.ref 4, .int a4] (fun r2 I1 L1 => sm_CZ n mX9_takeDigit T I1 L1 [.ref 4, .int as0, .int r2] (fun r4 I3 L3 => (r4 = true → sm_CV n mX3_set T I3 L3 [.ref 16, .int a5, .int (I3 4 4)] (fun I5 L5 => sm_V x 0 0 T I5 L5 4 [some (.ref 4), some (.ref 1000000), some (.int (a2 ||| (1 <<< (a5 &&& 31)))), some (.int (a3 + 1)), some (.int a4), some (.int a5)] [])) ∧ (r4 = false → F false I3 L3)))) :
    sm_V x 0 0 T I L 72 [some (.ref 4), some (.ref 1000000), some (.int a2), some (.int a3), some (.int a4), some (.int a5)] [.int as0, .ref 4] :=
  sm_aload_n (z := 4) hx dX9_readItems_72 rfl (sm_iload (z := a4) hx dX9_readItems_73 rfl (sm_callVI (args := [.int a4]) (st := [.int as0, .ref 4]) hx dX9_readItems_75 lv_X9_116_9 rfl rfl (t_4 hB) rfl rfl h (fun r2 I1 L1 hI1 => sm_callVZ (args := [.int as0, .int r2]) (st := []) hx dX9_readItems_78 lv_X9_51_9 rfl rfl (t_4 hB) rfl rfl hI1 (fun r4 I3 L3 hI3 => sm_ifneZ (b := r4) hx dX9_readItems_81 (tgt := 86) (by decide) (fun q7 => sm_aload_n (z := 4) hx dX9_readItems_86 rfl (sm_getR hx dX9_readItems_87 fl_X9_33_9 (t_4 hB) rfl (sm_iload (z := a5) hx dX9_readItems_90 rfl (sm_aload_n (z := 4) hx dX9_readItems_92 rfl (sm_getI hx dX9_readItems_93 fl_X9_37_9 (t_4 hB) rfl (sm_callVV (args := [.int a5, .int (I3 4 4)]) (st := []) hx dX9_readItems_96 lv_X9_87_3 rfl rfl (t_16 hB) rfl rfl (hI3.1 q7) (fun I5 L5 hI5 => sm_iload_n (z := a2) hx dX9_readItems_99 rfl (sm_iconst (v := 1) hx dX9_readItems_100 sm_kc_1 (sm_iload (z := a5) hx dX9_readItems_101 rfl (sm_ishl (a := 1) (b := a5) hx dX9_readItems_103 (sm_ior (a := a2) (b := (1 <<< (a5 &&& 31))) hx dX9_readItems_104 (sm_istore_n (ls' := [some (.ref 4), some (.ref 1000000), some (.int (a2 ||| (1 <<< (a5 &&& 31)))), some (.int a3), some (.int a4), some (.int a5)]) hx dX9_readItems_105 (by decide) rfl (sm_iinc (ls' := [some (.ref 4), some (.ref 1000000), some (.int (a2 ||| (1 <<< (a5 &&& 31)))), some (.int (a3 + 1)), some (.int a4), some (.int a5)]) (z := a3) (v := (a3 + 1)) hx dX9_readItems_106 rfl (sm_kii_1 _) (by decide) rfl (sm_goto hx dX9_readItems_109 (tgt := 4) (by decide) (hI5))))))))))))))) (fun q7 => sm_iconst (v := 0) hx dX9_readItems_84 sm_kc_0 (sm_iretZ (z := false) hx dX9_readItems_85 rfl (hI3.2 q7)))))))
set_option maxRecDepth 100000 in
theorem c_X9_readItems_aske {n : Nat} {F : Bool → sm_MI → sm_ML → Prop} {T : List sm_Sh} {I : sm_MI} {L : sm_ML}  (hB : sm_Bs T)
    (h : ∀ x : sm_Cx, sm_Ok x mX9_readItems (n + 1) (sm_KZ T F) → sm_V x 0 0 T I L 4 [some (.ref 4), some (.ref 1000000), some (.int 0), some (.int 0), none, none] []) :
    sm_CZ (n + 1) mX9_readItems T I L [.ref 4, .ref 1000000] F :=
  sm_CZ.of (by decide +kernel) rfl (fun x hx => show sm_V x 0 0 T I L 0 [some (.ref 4), some (.ref 1000000), none, none, none, none] [] from
  sm_iconst (v := 0) hx dX9_readItems_0 sm_kc_0 (sm_istore_n (ls' := [some (.ref 4), some (.ref 1000000), some (.int 0), none, none, none]) hx dX9_readItems_1 (by decide) rfl (sm_iconst (v := 0) hx dX9_readItems_2 sm_kc_0 (sm_istore_n (ls' := [some (.ref 4), some (.ref 1000000), some (.int 0), some (.int 0), none, none]) hx dX9_readItems_3 (by decide) rfl ((h x hx))))))
set_option maxRecDepth 100000 in
theorem u_X9_readItems_a_4 {x : sm_Cx} {n : Nat} {F : Bool → sm_MI → sm_ML → Prop} {T : List sm_Sh} {I : sm_MI} {L : sm_ML} {a2 : Int32} {a3 : Int32} {u4 : Option Value} {u5 : Option Value} (hB : sm_Bs T) (hx : sm_Ok x mX9_readItems (n + 1) (sm_KZ T F))
    (h : sm_CI n mJ0_length_8abf5 T I L [.ref 1000001] (fun r2 I1 L1 => (r2 ≤ a3 → F true I1 L1) ∧ (¬ r2 ≤ a3 → sm_CI n mX2_nextSign T I1 L1 [.ref 4] (fun r4 I3 L3 => (¬ r4 = (-1) → sm_CI n mJ0_indexOf_0f7a4 T I3 L3 [.ref 1000001, .int (((Int32.toUInt32 r4) % 65536).toInt32)] (fun r6 I5 L5 => (r6 = (-1) → F true I5 L5) ∧ (¬ r6 = (-1) → sm_CI n mX11_bitOf T I5 L5 [.int a2, .int r6] (fun r8 I7 L7 => (¬ r8 = 1 → sm_CV n mX2_goOn T I7 L7 [.ref 4] (fun I9 L9 => (¬ r4 = 112 → sm_V x 0 0 T I9 L9 72 [some (.ref 4), some (.ref 1000001), some (.int a2), some (.int a3), some (.int r4), some (.int r6)] [.int 0, .ref 4]) ∧ (r4 = 112 → sm_V x 0 0 T I9 L9 72 [some (.ref 4), some (.ref 1000001), some (.int a2), some (.int a3), some (.int r4), some (.int r6)] [.int 2, .ref 4]))) ∧ (r8 = 1 → F true I7 L7))))) ∧ (r4 = (-1) → F true I3 L3))))) :
    sm_V x 0 0 T I L 4 [some (.ref 4), some (.ref 1000001), some (.int a2), some (.int a3), u4, u5] [] :=
  sm_iload_n (z := a3) hx dX9_readItems_4 rfl (sm_aload_n (z := 1000001) hx dX9_readItems_5 rfl (sm_callVXI (args := []) (st := [.int a3]) hx dX9_readItems_6 lv_X9_24_x rfl rfl (i := 1) (by decide) rfl rfl h (fun r2 I1 L1 hI1 => sm_icmpge (a := a3) (b := r2) hx dX9_readItems_9 (tgt := 112) (by decide) (fun q6 => sm_iconst (v := 1) hx dX9_readItems_112 sm_kc_1 (sm_iretZ (z := true) hx dX9_readItems_113 rfl (hI1.1 q6))) (fun q6 => sm_aload_n (z := 4) hx dX9_readItems_12 rfl (sm_callUI (args := []) (st := []) hx dX9_readItems_13 lu_X9_65_9 rfl rfl (t_4 hB) rfl rfl (hI1.2 q6) (fun r4 I3 L3 hI3 => sm_istore (ls' := [some (.ref 4), some (.ref 1000001), some (.int a2), some (.int a3), some (.int r4), u5]) hx dX9_readItems_16 (by decide) rfl (sm_iload (z := r4) hx dX9_readItems_18 rfl (sm_iconst (v := (-1)) hx dX9_readItems_20 sm_kc_m1 (sm_icmpne (a := r4) (b := (-1)) hx dX9_readItems_21 (tgt := 28) (by decide) (fun q5 => sm_aload_n (z := 1000001) hx dX9_readItems_28 rfl (sm_iload (z := r4) hx dX9_readItems_29 rfl (sm_i2c (a := r4) hx dX9_readItems_31 (sm_callVXI (args := [.int (((Int32.toUInt32 r4) % 65536).toInt32)]) (st := []) hx dX9_readItems_32 lv_X9_83_x rfl rfl (i := 1) (by decide) rfl rfl (hI3.1 q5) (fun r6 I5 L5 hI5 => sm_istore (ls' := [some (.ref 4), some (.ref 1000001), some (.int a2), some (.int a3), some (.int r4), some (.int r6)]) hx dX9_readItems_35 (by decide) rfl (sm_iload (z := r6) hx dX9_readItems_37 rfl (sm_iconst (v := (-1)) hx dX9_readItems_39 sm_kc_m1 (sm_icmpeq (a := r6) (b := (-1)) hx dX9_readItems_40 (tgt := 53) (by decide) (fun q3 => sm_iconst (v := 1) hx dX9_readItems_53 sm_kc_1 (sm_iretZ (z := true) hx dX9_readItems_54 rfl (hI5.1 q3))) (fun q3 => sm_iload_n (z := a2) hx dX9_readItems_43 rfl (sm_iload (z := r6) hx dX9_readItems_44 rfl (sm_callSI (args := [.int a2, .int r6]) (st := []) hx dX9_readItems_46 ls_X9_112 rfl rfl rfl (hI5.2 q3) (fun r8 I7 L7 hI7 => sm_iconst (v := 1) hx dX9_readItems_49 sm_kc_1 (sm_icmpne (a := r8) (b := 1) hx dX9_readItems_50 (tgt := 55) (by decide) (fun q2 => sm_aload_n (z := 4) hx dX9_readItems_55 rfl (sm_callUV (args := []) (st := []) hx dX9_readItems_56 lu_X9_77_9 rfl rfl (t_4 hB) rfl rfl (hI7.1 q2) (fun I9 L9 hI9 => sm_aload_n (z := 4) hx dX9_readItems_59 rfl (sm_iload (z := r4) hx dX9_readItems_60 rfl (sm_bipush (v := 112) hx dX9_readItems_62 sm_kb_112 (sm_icmpne (a := r4) (b := 112) hx dX9_readItems_64 (tgt := 71) (by decide) (fun q1 => sm_iconst (v := 0) hx dX9_readItems_71 sm_kc_0 ((hI9.1 q1))) (fun q1 => sm_iconst (v := 2) hx dX9_readItems_67 sm_kc_2 (sm_goto hx dX9_readItems_68 (tgt := 72) (by decide) ((hI9.2 q1)))))))))) (fun q2 => sm_iconst (v := 1) hx dX9_readItems_53 sm_kc_1 (sm_iretZ (z := true) hx dX9_readItems_54 rfl (hI7.2 q2)))))))))))))))) (fun q5 => sm_iconst (v := (-1)) hx dX9_readItems_24 sm_kc_m1 (sm_goto hx dX9_readItems_25 (tgt := 35) (by decide) (sm_istore (ls' := [some (.ref 4), some (.ref 1000001), some (.int a2), some (.int a3), some (.int r4), some (.int (-1))]) hx dX9_readItems_35 (by decide) rfl (sm_iload (z := (-1)) hx dX9_readItems_37 rfl (sm_iconst (v := (-1)) hx dX9_readItems_39 sm_kc_m1 (sm_icmpeq (a := (-1)) (b := (-1)) hx dX9_readItems_40 (tgt := 53) (by decide) (fun q4 => sm_iconst (v := 1) hx dX9_readItems_53 sm_kc_1 (sm_iretZ (z := true) hx dX9_readItems_54 rfl (hI3.2 q5))) (fun q4 => absurd q4 (by decide)))))))))))))))))
set_option maxRecDepth 100000 in
theorem u_X9_readItems_a_72 {x : sm_Cx} {n : Nat} {F : Bool → sm_MI → sm_ML → Prop} {T : List sm_Sh} {I : sm_MI} {L : sm_ML} {a2 : Int32} {a3 : Int32} {a4 : Int32} {a5 : Int32} {as0 : Int32} (hB : sm_Bs T) (hx : sm_Ok x mX9_readItems (n + 1) (sm_KZ T F))
    (h : sm_CI n mX9_mostOf T I L [.ref 4, .int a4] (fun r2 I1 L1 => sm_CZ n mX9_takeDigit T I1 L1 [.ref 4, .int as0, .int r2] (fun r4 I3 L3 => (r4 = true → sm_CV n mX3_set T I3 L3 [.ref 16, .int a5, .int (I3 4 4)] (fun I5 L5 => sm_V x 0 0 T I5 L5 4 [some (.ref 4), some (.ref 1000001), some (.int (a2 ||| (1 <<< (a5 &&& 31)))), some (.int (a3 + 1)), some (.int a4), some (.int a5)] [])) ∧ (r4 = false → F false I3 L3)))) :
    sm_V x 0 0 T I L 72 [some (.ref 4), some (.ref 1000001), some (.int a2), some (.int a3), some (.int a4), some (.int a5)] [.int as0, .ref 4] :=
  sm_aload_n (z := 4) hx dX9_readItems_72 rfl (sm_iload (z := a4) hx dX9_readItems_73 rfl (sm_callVI (args := [.int a4]) (st := [.int as0, .ref 4]) hx dX9_readItems_75 lv_X9_116_9 rfl rfl (t_4 hB) rfl rfl h (fun r2 I1 L1 hI1 => sm_callVZ (args := [.int as0, .int r2]) (st := []) hx dX9_readItems_78 lv_X9_51_9 rfl rfl (t_4 hB) rfl rfl hI1 (fun r4 I3 L3 hI3 => sm_ifneZ (b := r4) hx dX9_readItems_81 (tgt := 86) (by decide) (fun q7 => sm_aload_n (z := 4) hx dX9_readItems_86 rfl (sm_getR hx dX9_readItems_87 fl_X9_33_9 (t_4 hB) rfl (sm_iload (z := a5) hx dX9_readItems_90 rfl (sm_aload_n (z := 4) hx dX9_readItems_92 rfl (sm_getI hx dX9_readItems_93 fl_X9_37_9 (t_4 hB) rfl (sm_callVV (args := [.int a5, .int (I3 4 4)]) (st := []) hx dX9_readItems_96 lv_X9_87_3 rfl rfl (t_16 hB) rfl rfl (hI3.1 q7) (fun I5 L5 hI5 => sm_iload_n (z := a2) hx dX9_readItems_99 rfl (sm_iconst (v := 1) hx dX9_readItems_100 sm_kc_1 (sm_iload (z := a5) hx dX9_readItems_101 rfl (sm_ishl (a := 1) (b := a5) hx dX9_readItems_103 (sm_ior (a := a2) (b := (1 <<< (a5 &&& 31))) hx dX9_readItems_104 (sm_istore_n (ls' := [some (.ref 4), some (.ref 1000001), some (.int (a2 ||| (1 <<< (a5 &&& 31)))), some (.int a3), some (.int a4), some (.int a5)]) hx dX9_readItems_105 (by decide) rfl (sm_iinc (ls' := [some (.ref 4), some (.ref 1000001), some (.int (a2 ||| (1 <<< (a5 &&& 31)))), some (.int (a3 + 1)), some (.int a4), some (.int a5)]) (z := a3) (v := (a3 + 1)) hx dX9_readItems_106 rfl (sm_kii_1 _) (by decide) rfl (sm_goto hx dX9_readItems_109 (tgt := 4) (by decide) (hI5))))))))))))))) (fun q7 => sm_iconst (v := 0) hx dX9_readItems_84 sm_kc_0 (sm_iretZ (z := false) hx dX9_readItems_85 rfl (hI3.2 q7)))))))
set_option maxRecDepth 100000 in
theorem c_X9_readItems_a {n : Nat} {F : Bool → sm_MI → sm_ML → Prop} {T : List sm_Sh} {I : sm_MI} {L : sm_ML}  (hB : sm_Bs T)
    (h : ∀ x : sm_Cx, sm_Ok x mX9_readItems (n + 1) (sm_KZ T F) → sm_V x 0 0 T I L 4 [some (.ref 4), some (.ref 1000001), some (.int 0), some (.int 0), none, none] []) :
    sm_CZ (n + 1) mX9_readItems T I L [.ref 4, .ref 1000001] F :=
  sm_CZ.of (by decide +kernel) rfl (fun x hx => show sm_V x 0 0 T I L 0 [some (.ref 4), some (.ref 1000001), none, none, none, none] [] from
  sm_iconst (v := 0) hx dX9_readItems_0 sm_kc_0 (sm_istore_n (ls' := [some (.ref 4), some (.ref 1000001), some (.int 0), none, none, none]) hx dX9_readItems_1 (by decide) rfl (sm_iconst (v := 0) hx dX9_readItems_2 sm_kc_0 (sm_istore_n (ls' := [some (.ref 4), some (.ref 1000001), some (.int 0), some (.int 0), none, none]) hx dX9_readItems_3 (by decide) rfl ((h x hx))))))
set_option maxRecDepth 100000 in
theorem u_X9_readItems_pg_4 {x : sm_Cx} {n : Nat} {F : Bool → sm_MI → sm_ML → Prop} {T : List sm_Sh} {I : sm_MI} {L : sm_ML} {a2 : Int32} {a3 : Int32} {u4 : Option Value} {u5 : Option Value} (hB : sm_Bs T) (hx : sm_Ok x mX9_readItems (n + 1) (sm_KZ T F))
    (h : sm_CI n mJ0_length_8abf5 T I L [.ref 1000002] (fun r2 I1 L1 => (r2 ≤ a3 → F true I1 L1) ∧ (¬ r2 ≤ a3 → sm_CI n mX2_nextSign T I1 L1 [.ref 4] (fun r4 I3 L3 => (¬ r4 = (-1) → sm_CI n mJ0_indexOf_0f7a4 T I3 L3 [.ref 1000002, .int (((Int32.toUInt32 r4) % 65536).toInt32)] (fun r6 I5 L5 => (r6 = (-1) → F true I5 L5) ∧ (¬ r6 = (-1) → sm_CI n mX11_bitOf T I5 L5 [.int a2, .int r6] (fun r8 I7 L7 => (¬ r8 = 1 → sm_CV n mX2_goOn T I7 L7 [.ref 4] (fun I9 L9 => (¬ r4 = 112 → sm_V x 0 0 T I9 L9 72 [some (.ref 4), some (.ref 1000002), some (.int a2), some (.int a3), some (.int r4), some (.int r6)] [.int 0, .ref 4]) ∧ (r4 = 112 → sm_V x 0 0 T I9 L9 72 [some (.ref 4), some (.ref 1000002), some (.int a2), some (.int a3), some (.int r4), some (.int r6)] [.int 2, .ref 4]))) ∧ (r8 = 1 → F true I7 L7))))) ∧ (r4 = (-1) → F true I3 L3))))) :
    sm_V x 0 0 T I L 4 [some (.ref 4), some (.ref 1000002), some (.int a2), some (.int a3), u4, u5] [] :=
  sm_iload_n (z := a3) hx dX9_readItems_4 rfl (sm_aload_n (z := 1000002) hx dX9_readItems_5 rfl (sm_callVXI (args := []) (st := [.int a3]) hx dX9_readItems_6 lv_X9_24_x rfl rfl (i := 2) (by decide) rfl rfl h (fun r2 I1 L1 hI1 => sm_icmpge (a := a3) (b := r2) hx dX9_readItems_9 (tgt := 112) (by decide) (fun q6 => sm_iconst (v := 1) hx dX9_readItems_112 sm_kc_1 (sm_iretZ (z := true) hx dX9_readItems_113 rfl (hI1.1 q6))) (fun q6 => sm_aload_n (z := 4) hx dX9_readItems_12 rfl (sm_callUI (args := []) (st := []) hx dX9_readItems_13 lu_X9_65_9 rfl rfl (t_4 hB) rfl rfl (hI1.2 q6) (fun r4 I3 L3 hI3 => sm_istore (ls' := [some (.ref 4), some (.ref 1000002), some (.int a2), some (.int a3), some (.int r4), u5]) hx dX9_readItems_16 (by decide) rfl (sm_iload (z := r4) hx dX9_readItems_18 rfl (sm_iconst (v := (-1)) hx dX9_readItems_20 sm_kc_m1 (sm_icmpne (a := r4) (b := (-1)) hx dX9_readItems_21 (tgt := 28) (by decide) (fun q5 => sm_aload_n (z := 1000002) hx dX9_readItems_28 rfl (sm_iload (z := r4) hx dX9_readItems_29 rfl (sm_i2c (a := r4) hx dX9_readItems_31 (sm_callVXI (args := [.int (((Int32.toUInt32 r4) % 65536).toInt32)]) (st := []) hx dX9_readItems_32 lv_X9_83_x rfl rfl (i := 2) (by decide) rfl rfl (hI3.1 q5) (fun r6 I5 L5 hI5 => sm_istore (ls' := [some (.ref 4), some (.ref 1000002), some (.int a2), some (.int a3), some (.int r4), some (.int r6)]) hx dX9_readItems_35 (by decide) rfl (sm_iload (z := r6) hx dX9_readItems_37 rfl (sm_iconst (v := (-1)) hx dX9_readItems_39 sm_kc_m1 (sm_icmpeq (a := r6) (b := (-1)) hx dX9_readItems_40 (tgt := 53) (by decide) (fun q3 => sm_iconst (v := 1) hx dX9_readItems_53 sm_kc_1 (sm_iretZ (z := true) hx dX9_readItems_54 rfl (hI5.1 q3))) (fun q3 => sm_iload_n (z := a2) hx dX9_readItems_43 rfl (sm_iload (z := r6) hx dX9_readItems_44 rfl (sm_callSI (args := [.int a2, .int r6]) (st := []) hx dX9_readItems_46 ls_X9_112 rfl rfl rfl (hI5.2 q3) (fun r8 I7 L7 hI7 => sm_iconst (v := 1) hx dX9_readItems_49 sm_kc_1 (sm_icmpne (a := r8) (b := 1) hx dX9_readItems_50 (tgt := 55) (by decide) (fun q2 => sm_aload_n (z := 4) hx dX9_readItems_55 rfl (sm_callUV (args := []) (st := []) hx dX9_readItems_56 lu_X9_77_9 rfl rfl (t_4 hB) rfl rfl (hI7.1 q2) (fun I9 L9 hI9 => sm_aload_n (z := 4) hx dX9_readItems_59 rfl (sm_iload (z := r4) hx dX9_readItems_60 rfl (sm_bipush (v := 112) hx dX9_readItems_62 sm_kb_112 (sm_icmpne (a := r4) (b := 112) hx dX9_readItems_64 (tgt := 71) (by decide) (fun q1 => sm_iconst (v := 0) hx dX9_readItems_71 sm_kc_0 ((hI9.1 q1))) (fun q1 => sm_iconst (v := 2) hx dX9_readItems_67 sm_kc_2 (sm_goto hx dX9_readItems_68 (tgt := 72) (by decide) ((hI9.2 q1)))))))))) (fun q2 => sm_iconst (v := 1) hx dX9_readItems_53 sm_kc_1 (sm_iretZ (z := true) hx dX9_readItems_54 rfl (hI7.2 q2)))))))))))))))) (fun q5 => sm_iconst (v := (-1)) hx dX9_readItems_24 sm_kc_m1 (sm_goto hx dX9_readItems_25 (tgt := 35) (by decide) (sm_istore (ls' := [some (.ref 4), some (.ref 1000002), some (.int a2), some (.int a3), some (.int r4), some (.int (-1))]) hx dX9_readItems_35 (by decide) rfl (sm_iload (z := (-1)) hx dX9_readItems_37 rfl (sm_iconst (v := (-1)) hx dX9_readItems_39 sm_kc_m1 (sm_icmpeq (a := (-1)) (b := (-1)) hx dX9_readItems_40 (tgt := 53) (by decide) (fun q4 => sm_iconst (v := 1) hx dX9_readItems_53 sm_kc_1 (sm_iretZ (z := true) hx dX9_readItems_54 rfl (hI3.2 q5))) (fun q4 => absurd q4 (by decide)))))))))))))))))
set_option maxRecDepth 100000 in
theorem u_X9_readItems_pg_72 {x : sm_Cx} {n : Nat} {F : Bool → sm_MI → sm_ML → Prop} {T : List sm_Sh} {I : sm_MI} {L : sm_ML} {a2 : Int32} {a3 : Int32} {a4 : Int32} {a5 : Int32} {as0 : Int32} (hB : sm_Bs T) (hx : sm_Ok x mX9_readItems (n + 1) (sm_KZ T F))
    (h : sm_CI n mX9_mostOf T I L [.ref 4, .int a4] (fun r2 I1 L1 => sm_CZ n mX9_takeDigit T I1 L1 [.ref 4, .int as0, .int r2] (fun r4 I3 L3 => (r4 = true → sm_CV n mX3_set T I3 L3 [.ref 16, .int a5, .int (I3 4 4)] (fun I5 L5 => sm_V x 0 0 T I5 L5 4 [some (.ref 4), some (.ref 1000002), some (.int (a2 ||| (1 <<< (a5 &&& 31)))), some (.int (a3 + 1)), some (.int a4), some (.int a5)] [])) ∧ (r4 = false → F false I3 L3)))) :
    sm_V x 0 0 T I L 72 [some (.ref 4), some (.ref 1000002), some (.int a2), some (.int a3), some (.int a4), some (.int a5)] [.int as0, .ref 4] :=
  sm_aload_n (z := 4) hx dX9_readItems_72 rfl (sm_iload (z := a4) hx dX9_readItems_73 rfl (sm_callVI (args := [.int a4]) (st := [.int as0, .ref 4]) hx dX9_readItems_75 lv_X9_116_9 rfl rfl (t_4 hB) rfl rfl h (fun r2 I1 L1 hI1 => sm_callVZ (args := [.int as0, .int r2]) (st := []) hx dX9_readItems_78 lv_X9_51_9 rfl rfl (t_4 hB) rfl rfl hI1 (fun r4 I3 L3 hI3 => sm_ifneZ (b := r4) hx dX9_readItems_81 (tgt := 86) (by decide) (fun q7 => sm_aload_n (z := 4) hx dX9_readItems_86 rfl (sm_getR hx dX9_readItems_87 fl_X9_33_9 (t_4 hB) rfl (sm_iload (z := a5) hx dX9_readItems_90 rfl (sm_aload_n (z := 4) hx dX9_readItems_92 rfl (sm_getI hx dX9_readItems_93 fl_X9_37_9 (t_4 hB) rfl (sm_callVV (args := [.int a5, .int (I3 4 4)]) (st := []) hx dX9_readItems_96 lv_X9_87_3 rfl rfl (t_16 hB) rfl rfl (hI3.1 q7) (fun I5 L5 hI5 => sm_iload_n (z := a2) hx dX9_readItems_99 rfl (sm_iconst (v := 1) hx dX9_readItems_100 sm_kc_1 (sm_iload (z := a5) hx dX9_readItems_101 rfl (sm_ishl (a := 1) (b := a5) hx dX9_readItems_103 (sm_ior (a := a2) (b := (1 <<< (a5 &&& 31))) hx dX9_readItems_104 (sm_istore_n (ls' := [some (.ref 4), some (.ref 1000002), some (.int (a2 ||| (1 <<< (a5 &&& 31)))), some (.int a3), some (.int a4), some (.int a5)]) hx dX9_readItems_105 (by decide) rfl (sm_iinc (ls' := [some (.ref 4), some (.ref 1000002), some (.int (a2 ||| (1 <<< (a5 &&& 31)))), some (.int (a3 + 1)), some (.int a4), some (.int a5)]) (z := a3) (v := (a3 + 1)) hx dX9_readItems_106 rfl (sm_kii_1 _) (by decide) rfl (sm_goto hx dX9_readItems_109 (tgt := 4) (by decide) (hI5))))))))))))))) (fun q7 => sm_iconst (v := 0) hx dX9_readItems_84 sm_kc_0 (sm_iretZ (z := false) hx dX9_readItems_85 rfl (hI3.2 q7)))))))
set_option maxRecDepth 100000 in
theorem c_X9_readItems_pg {n : Nat} {F : Bool → sm_MI → sm_ML → Prop} {T : List sm_Sh} {I : sm_MI} {L : sm_ML}  (hB : sm_Bs T)
    (h : ∀ x : sm_Cx, sm_Ok x mX9_readItems (n + 1) (sm_KZ T F) → sm_V x 0 0 T I L 4 [some (.ref 4), some (.ref 1000002), some (.int 0), some (.int 0), none, none] []) :
    sm_CZ (n + 1) mX9_readItems T I L [.ref 4, .ref 1000002] F :=
  sm_CZ.of (by decide +kernel) rfl (fun x hx => show sm_V x 0 0 T I L 0 [some (.ref 4), some (.ref 1000002), none, none, none, none] [] from
  sm_iconst (v := 0) hx dX9_readItems_0 sm_kc_0 (sm_istore_n (ls' := [some (.ref 4), some (.ref 1000002), some (.int 0), none, none, none]) hx dX9_readItems_1 (by decide) rfl (sm_iconst (v := 0) hx dX9_readItems_2 sm_kc_0 (sm_istore_n (ls' := [some (.ref 4), some (.ref 1000002), some (.int 0), some (.int 0), none, none]) hx dX9_readItems_3 (by decide) rfl ((h x hx))))))
theorem dX9_mostOf_0 : decode cX9_mostOf 0 = .ok (.iload_n 1, 1) := by decide +kernel
theorem dX9_mostOf_1 : decode cX9_mostOf 1 = .ok (.lookupswitch 60 #[(97, 43), (101, 58), (107, 56), (115, 53)], 43) := by decide +kernel
theorem dX9_mostOf_44 : decode cX9_mostOf 44 = .ok (.aload_n 0, 1) := by decide +kernel
theorem dX9_mostOf_45 : decode cX9_mostOf 45 = .ok (.getfield 14, 3) := by decide +kernel
theorem dX9_mostOf_48 : decode cX9_mostOf 48 = .ok (.getfield 58, 3) := by decide +kernel
theorem dX9_mostOf_51 : decode cX9_mostOf 51 = .ok (.iconst 1, 1) := by decide +kernel
theorem dX9_mostOf_52 : decode cX9_mostOf 52 = .ok (.isub, 1) := by decide +kernel
theorem dX9_mostOf_53 : decode cX9_mostOf 53 = .ok (.ireturn, 1) := by decide +kernel
theorem dX9_mostOf_54 : decode cX9_mostOf 54 = .ok (.bipush 7, 2) := by decide +kernel
theorem dX9_mostOf_56 : decode cX9_mostOf 56 = .ok (.ireturn, 1) := by decide +kernel
theorem dX9_mostOf_57 : decode cX9_mostOf 57 = .ok (.iconst 4, 1) := by decide +kernel
theorem dX9_mostOf_58 : decode cX9_mostOf 58 = .ok (.ireturn, 1) := by decide +kernel
theorem dX9_mostOf_59 : decode cX9_mostOf 59 = .ok (.iconst 1, 1) := by decide +kernel
theorem dX9_mostOf_60 : decode cX9_mostOf 60 = .ok (.ireturn, 1) := by decide +kernel
theorem dX9_mostOf_61 : decode cX9_mostOf 61 = .ok (.bipush 9, 2) := by decide +kernel
theorem dX9_mostOf_63 : decode cX9_mostOf 63 = .ok (.ireturn, 1) := by decide +kernel
set_option maxRecDepth 100000 in
theorem c_X9_mostOf {n : Nat} {F : Int32 → sm_MI → sm_ML → Prop} {T : List sm_Sh} {I : sm_MI} {L : sm_ML} {a1 : Int32} (hB : sm_Bs T)
    (h : (a1 = 97 → F ((I 5 0) - 1) I L) ∧ (a1 = 101 → F 1 I L) ∧ (a1 = 107 → F 4 I L) ∧ (a1 = 115 → F 7 I L) ∧ (¬ a1 = 97 ∧ ¬ a1 = 101 ∧ ¬ a1 = 107 ∧ ¬ a1 = 115 → F 9 I L)) :
    sm_CI n mX9_mostOf T I L [.ref 4, .int a1] F :=
  sm_CI.of (by decide +kernel) rfl (fun x hx => show sm_V x 0 0 T I L 0 [some (.ref 4), some (.int a1)] [] from
  sm_iload_n (z := a1) hx dX9_mostOf_0 rfl (if q1_0 : a1 = 97 then sm_lookup (a := a1) (off := 43) hx dX9_mostOf_1 (by decide) (by rw [q1_0]; decide) (tgt := 44) (by decide) (sm_aload_n (z := 4) hx dX9_mostOf_44 rfl (sm_getR hx dX9_mostOf_45 fl_X9_14_9 (t_4 hB) rfl (sm_getI hx dX9_mostOf_48 fl_X9_58_8 (t_5 hB) rfl (sm_iconst (v := 1) hx dX9_mostOf_51 sm_kc_1 (sm_isub (a := (I 5 0)) (b := 1) hx dX9_mostOf_52 (sm_iretI hx dX9_mostOf_53 rfl (h.1 q1_0))))))) else if q1_1 : a1 = 101 then sm_lookup (a := a1) (off := 58) hx dX9_mostOf_1 (by decide) (by rw [q1_1]; decide) (tgt := 59) (by decide) (sm_iconst (v := 1) hx dX9_mostOf_59 sm_kc_1 (sm_iretI hx dX9_mostOf_60 rfl (h.2.1 q1_1))) else if q1_2 : a1 = 107 then sm_lookup (a := a1) (off := 56) hx dX9_mostOf_1 (by decide) (by rw [q1_2]; decide) (tgt := 57) (by decide) (sm_iconst (v := 4) hx dX9_mostOf_57 sm_kc_4 (sm_iretI hx dX9_mostOf_58 rfl (h.2.2.1 q1_2))) else if q1_3 : a1 = 115 then sm_lookup (a := a1) (off := 53) hx dX9_mostOf_1 (by decide) (by rw [q1_3]; decide) (tgt := 54) (by decide) (sm_bipush (v := 7) hx dX9_mostOf_54 sm_kb_7 (sm_iretI hx dX9_mostOf_56 rfl (h.2.2.2.1 q1_3))) else sm_lookup (a := a1) (off := 60) hx dX9_mostOf_1 (by decide) ((lv_osw q1_0 (by decide)).trans ((lv_osw q1_1 (by decide)).trans ((lv_osw q1_2 (by decide)).trans ((lv_osw q1_3 (by decide)).trans rfl)))) (tgt := 61) (by decide) (sm_bipush (v := 9) hx dX9_mostOf_61 sm_kb_9 (sm_iretI hx dX9_mostOf_63 rfl (h.2.2.2.2 ⟨q1_0, q1_1, q1_2, q1_3⟩)))))
theorem dX9_takeDigit_0 : decode cX9_takeDigit 0 = .ok (.aload_n 0, 1) := by decide +kernel
theorem dX9_takeDigit_1 : decode cX9_takeDigit 1 = .ok (.aload_n 0, 1) := by decide +kernel
theorem dX9_takeDigit_2 : decode cX9_takeDigit 2 = .ok (.invokevirtual 65, 3) := by decide +kernel
theorem dX9_takeDigit_5 : decode cX9_takeDigit 5 = .ok (.bipush 48, 2) := by decide +kernel
theorem dX9_takeDigit_7 : decode cX9_takeDigit 7 = .ok (.isub, 1) := by decide +kernel
theorem dX9_takeDigit_8 : decode cX9_takeDigit 8 = .ok (.putfield 37, 3) := by decide +kernel
theorem dX9_takeDigit_11 : decode cX9_takeDigit 11 = .ok (.aload_n 0, 1) := by decide +kernel
theorem dX9_takeDigit_12 : decode cX9_takeDigit 12 = .ok (.getfield 37, 3) := by decide +kernel
theorem dX9_takeDigit_15 : decode cX9_takeDigit 15 = .ok (.iload_n 1, 1) := by decide +kernel
theorem dX9_takeDigit_16 : decode cX9_takeDigit 16 = .ok (.iload_n 2, 1) := by decide +kernel
theorem dX9_takeDigit_17 : decode cX9_takeDigit 17 = .ok (.invokestatic 119, 3) := by decide +kernel
theorem dX9_takeDigit_20 : decode cX9_takeDigit 20 = .ok (.ifCond .ne 5, 3) := by decide +kernel
theorem dX9_takeDigit_23 : decode cX9_takeDigit 23 = .ok (.iconst 0, 1) := by decide +kernel
theorem dX9_takeDigit_24 : decode cX9_takeDigit 24 = .ok (.ireturn, 1) := by decide +kernel
theorem dX9_takeDigit_25 : decode cX9_takeDigit 25 = .ok (.aload_n 0, 1) := by decide +kernel
theorem dX9_takeDigit_26 : decode cX9_takeDigit 26 = .ok (.invokevirtual 77, 3) := by decide +kernel
theorem dX9_takeDigit_29 : decode cX9_takeDigit 29 = .ok (.iconst 1, 1) := by decide +kernel
theorem dX9_takeDigit_30 : decode cX9_takeDigit 30 = .ok (.ireturn, 1) := by decide +kernel
set_option maxRecDepth 100000 in
theorem c_X9_takeDigit {n : Nat} {F : Bool → sm_MI → sm_ML → Prop} {T : List sm_Sh} {I : sm_MI} {L : sm_ML} {a1 : Int32} {a2 : Int32} (hB : sm_Bs T)
    (h : sm_CI n mX2_nextSign T I L [.ref 4] (fun r2 I1 L1 => ∀ I3 : sm_MI, I3 = (sm_uI I1 4 4 (r2 - 48)) → sm_CZ n mX11_within T I3 L1 [.int (I3 4 4), .int a1, .int a2] (fun r5 I4 L4 => (r5 = true → sm_CV n mX2_goOn T I4 L4 [.ref 4] (fun I6 L6 => F true I6 L6)) ∧ (r5 = false → F false I4 L4)))) :
    sm_CZ (n + 1) mX9_takeDigit T I L [.ref 4, .int a1, .int a2] F :=
  sm_CZ.of (by decide +kernel) rfl (fun x hx => show sm_V x 0 0 T I L 0 [some (.ref 4), some (.int a1), some (.int a2)] [] from
  sm_aload_n (z := 4) hx dX9_takeDigit_0 rfl (sm_aload_n (z := 4) hx dX9_takeDigit_1 rfl (sm_callUI (args := []) (st := [.ref 4]) hx dX9_takeDigit_2 lu_X9_65_9 rfl rfl (t_4 hB) rfl rfl h (fun r2 I1 L1 hI1 => sm_bipush (v := 48) hx dX9_takeDigit_5 sm_kb_48 (sm_isub (a := r2) (b := 48) hx dX9_takeDigit_7 (sm_putI hx dX9_takeDigit_8 fl_X9_37_9 (t_4 hB) rfl (sm_aload_n (z := 4) hx dX9_takeDigit_11 rfl (sm_getI hx dX9_takeDigit_12 fl_X9_37_9 (t_4 hB) rfl (sm_iload_n (z := a1) hx dX9_takeDigit_15 rfl (sm_iload_n (z := a2) hx dX9_takeDigit_16 rfl (sm_callSZ (args := [.int ((sm_uI I1 4 4 (r2 - 48)) 4 4), .int a1, .int a2]) (st := []) hx dX9_takeDigit_17 ls_X9_119 rfl rfl rfl (hI1 _ rfl) (fun r5 I4 L4 hI4 => sm_ifneZ (b := r5) hx dX9_takeDigit_20 (tgt := 25) (by decide) (fun q1 => sm_aload_n (z := 4) hx dX9_takeDigit_25 rfl (sm_callUV (args := []) (st := []) hx dX9_takeDigit_26 lu_X9_77_9 rfl rfl (t_4 hB) rfl rfl (hI4.1 q1) (fun I6 L6 hI6 => sm_iconst (v := 1) hx dX9_takeDigit_29 sm_kc_1 (sm_iretZ (z := true) hx dX9_takeDigit_30 rfl hI6)))) (fun q1 => sm_iconst (v := 0) hx dX9_takeDigit_23 sm_kc_0 (sm_iretZ (z := false) hx dX9_takeDigit_24 rfl (hI4.2 q1)))))))))))))))
theorem dX10_bytesIn_0 : decode cX10_bytesIn 0 = .ok (.iconst 0, 1) := by decide +kernel
theorem dX10_bytesIn_1 : decode cX10_bytesIn 1 = .ok (.istore_n 1, 1) := by decide +kernel
theorem dX10_bytesIn_2 : decode cX10_bytesIn 2 = .ok (.bipush 24, 2) := by decide +kernel
theorem dX10_bytesIn_4 : decode cX10_bytesIn 4 = .ok (.istore_n 2, 1) := by decide +kernel
theorem dX10_bytesIn_5 : decode cX10_bytesIn 5 = .ok (.iload_n 2, 1) := by decide +kernel
theorem dX10_bytesIn_6 : decode cX10_bytesIn 6 = .ok (.ifCond .lt 22, 3) := by decide +kernel
theorem dX10_bytesIn_9 : decode cX10_bytesIn 9 = .ok (.iload_n 0, 1) := by decide +kernel
theorem dX10_bytesIn_10 : decode cX10_bytesIn 10 = .ok (.iload_n 2, 1) := by decide +kernel
theorem dX10_bytesIn_11 : decode cX10_bytesIn 11 = .ok (.iushr, 1) := by decide +kernel
theorem dX10_bytesIn_12 : decode cX10_bytesIn 12 = .ok (.sipush 255, 3) := by decide +kernel
theorem dX10_bytesIn_15 : decode cX10_bytesIn 15 = .ok (.iand, 1) := by decide +kernel
theorem dX10_bytesIn_16 : decode cX10_bytesIn 16 = .ok (.ifCond .eq 6, 3) := by decide +kernel
theorem dX10_bytesIn_19 : decode cX10_bytesIn 19 = .ok (.iinc 1 1, 3) := by decide +kernel
theorem dX10_bytesIn_22 : decode cX10_bytesIn 22 = .ok (.iinc 2 (-8), 3) := by decide +kernel
theorem dX10_bytesIn_25 : decode cX10_bytesIn 25 = .ok (.goto (-20), 3) := by decide +kernel
theorem dX10_bytesIn_28 : decode cX10_bytesIn 28 = .ok (.iload_n 1, 1) := by decide +kernel
theorem dX10_bytesIn_29 : decode cX10_bytesIn 29 = .ok (.ireturn, 1) := by decide +kernel
set_option maxRecDepth 100000 in
theorem u_X10_bytesIn_5 {x : sm_Cx} {n : Nat} {F : Int32 → sm_MI → sm_ML → Prop} {T : List sm_Sh} {I : sm_MI} {L : sm_ML} {a0 : Int32} {a1 : Int32} {a2 : Int32} (hB : sm_Bs T) (hx : sm_Ok x mX10_bytesIn n (sm_KI T F))
    (h : (a2 < 0 → F a1 I L) ∧ (¬ a2 < 0 → (((((Int32.toUInt32 a0) >>> ((Int32.toUInt32 a2) &&& Int32.toUInt32 31)).toInt32) &&& 255) = 0 → sm_V x 0 0 T I L 5 [some (.int a0), some (.int a1), some (.int (a2 + (-8)))] []) ∧ (¬ ((((Int32.toUInt32 a0) >>> ((Int32.toUInt32 a2) &&& Int32.toUInt32 31)).toInt32) &&& 255) = 0 → sm_V x 0 0 T I L 5 [some (.int a0), some (.int (a1 + 1)), some (.int (a2 + (-8)))] []))) :
    sm_V x 0 0 T I L 5 [some (.int a0), some (.int a1), some (.int a2)] [] :=
  sm_iload_n (z := a2) hx dX10_bytesIn_5 rfl (sm_iflt (a := a2) hx dX10_bytesIn_6 (tgt := 28) (by decide) (fun q2 => sm_iload_n (z := a1) hx dX10_bytesIn_28 rfl (sm_iretI hx dX10_bytesIn_29 rfl (h.1 q2))) (fun q2 => sm_iload_n (z := a0) hx dX10_bytesIn_9 rfl (sm_iload_n (z := a2) hx dX10_bytesIn_10 rfl (sm_iushr (a := a0) (b := a2) hx dX10_bytesIn_11 (sm_sipush (v := 255) hx dX10_bytesIn_12 sm_ks_255 (sm_iand (a := (((Int32.toUInt32 a0) >>> ((Int32.toUInt32 a2) &&& Int32.toUInt32 31)).toInt32)) (b := 255) hx dX10_bytesIn_15 (sm_ifeq (a := ((((Int32.toUInt32 a0) >>> ((Int32.toUInt32 a2) &&& Int32.toUInt32 31)).toInt32) &&& 255)) hx dX10_bytesIn_16 (tgt := 22) (by decide) (fun q1 => sm_iinc (ls' := [some (.int a0), some (.int a1), some (.int (a2 + (-8)))]) (z := a2) (v := (a2 + (-8))) hx dX10_bytesIn_22 rfl (sm_kii_m8 _) (by decide) rfl (sm_goto hx dX10_bytesIn_25 (tgt := 5) (by decide) (((h.2 q2).1 q1)))) (fun q1 => sm_iinc (ls' := [some (.int a0), some (.int (a1 + 1)), some (.int a2)]) (z := a1) (v := (a1 + 1)) hx dX10_bytesIn_19 rfl (sm_kii_1 _) (by decide) rfl (sm_iinc (ls' := [some (.int a0), some (.int (a1 + 1)), some (.int (a2 + (-8)))]) (z := a2) (v := (a2 + (-8))) hx dX10_bytesIn_22 rfl (sm_kii_m8 _) (by decide) rfl (sm_goto hx dX10_bytesIn_25 (tgt := 5) (by decide) (((h.2 q2).2 q1))))))))))))
set_option maxRecDepth 100000 in
theorem c_X10_bytesIn {n : Nat} {F : Int32 → sm_MI → sm_ML → Prop} {T : List sm_Sh} {I : sm_MI} {L : sm_ML} {a0 : Int32} (hB : sm_Bs T)
    (h : ∀ x : sm_Cx, sm_Ok x mX10_bytesIn n (sm_KI T F) → sm_V x 0 0 T I L 5 [some (.int a0), some (.int 0), some (.int 24)] []) :
    sm_CI n mX10_bytesIn T I L [.int a0] F :=
  sm_CI.of (by decide +kernel) rfl (fun x hx => show sm_V x 0 0 T I L 0 [some (.int a0), none, none] [] from
  sm_iconst (v := 0) hx dX10_bytesIn_0 sm_kc_0 (sm_istore_n (ls' := [some (.int a0), some (.int 0), none]) hx dX10_bytesIn_1 (by decide) rfl (sm_bipush (v := 24) hx dX10_bytesIn_2 sm_kb_24 (sm_istore_n (ls' := [some (.int a0), some (.int 0), some (.int 24)]) hx dX10_bytesIn_4 (by decide) rfl ((h x hx))))))
theorem dX10_add_0 : decode cX10_add 0 = .ok (.bipush 24, 2) := by decide +kernel
theorem dX10_add_2 : decode cX10_add 2 = .ok (.istore_n 2, 1) := by decide +kernel
theorem dX10_add_3 : decode cX10_add 3 = .ok (.iload_n 2, 1) := by decide +kernel
theorem dX10_add_4 : decode cX10_add 4 = .ok (.ifCond .lt 43, 3) := by decide +kernel
theorem dX10_add_7 : decode cX10_add 7 = .ok (.iload_n 1, 1) := by decide +kernel
theorem dX10_add_8 : decode cX10_add 8 = .ok (.iload_n 2, 1) := by decide +kernel
theorem dX10_add_9 : decode cX10_add 9 = .ok (.iushr, 1) := by decide +kernel
theorem dX10_add_10 : decode cX10_add 10 = .ok (.sipush 255, 3) := by decide +kernel
theorem dX10_add_13 : decode cX10_add 13 = .ok (.iand, 1) := by decide +kernel
theorem dX10_add_14 : decode cX10_add 14 = .ok (.istore_n 3, 1) := by decide +kernel
theorem dX10_add_15 : decode cX10_add 15 = .ok (.iload_n 3, 1) := by decide +kernel
theorem dX10_add_16 : decode cX10_add 16 = .ok (.ifCond .eq 25, 3) := by decide +kernel
theorem dX10_add_19 : decode cX10_add 19 = .ok (.aload_n 0, 1) := by decide +kernel
theorem dX10_add_20 : decode cX10_add 20 = .ok (.getfield 14, 3) := by decide +kernel
theorem dX10_add_23 : decode cX10_add 23 = .ok (.aload_n 0, 1) := by decide +kernel
theorem dX10_add_24 : decode cX10_add 24 = .ok (.getfield 20, 3) := by decide +kernel
theorem dX10_add_27 : decode cX10_add 27 = .ok (.iload_n 3, 1) := by decide +kernel
theorem dX10_add_28 : decode cX10_add 28 = .ok (.invokevirtual 24, 3) := by decide +kernel
theorem dX10_add_31 : decode cX10_add 31 = .ok (.aload_n 0, 1) := by decide +kernel
theorem dX10_add_32 : decode cX10_add 32 = .ok (.dup, 1) := by decide +kernel
theorem dX10_add_33 : decode cX10_add 33 = .ok (.getfield 20, 3) := by decide +kernel
theorem dX10_add_36 : decode cX10_add 36 = .ok (.iconst 1, 1) := by decide +kernel
theorem dX10_add_37 : decode cX10_add 37 = .ok (.iadd, 1) := by decide +kernel
theorem dX10_add_38 : decode cX10_add 38 = .ok (.putfield 20, 3) := by decide +kernel
theorem dX10_add_41 : decode cX10_add 41 = .ok (.iinc 2 (-8), 3) := by decide +kernel
theorem dX10_add_44 : decode cX10_add 44 = .ok (.goto (-41), 3) := by decide +kernel
theorem dX10_add_47 : decode cX10_add 47 = .ok (.return_, 1) := by decide +kernel
set_option maxRecDepth 100000 in
theorem u_X10_add_3 {x : sm_Cx} {n : Nat} {F : sm_MI → sm_ML → Prop} {T : List sm_Sh} {I : sm_MI} {L : sm_ML} {a1 : Int32} {a2 : Int32} {u3 : Option Value} (hB : sm_Bs T) (hx : sm_Ok x mX10_add (n + 1) (sm_KV T F))
    (h : (a2 < 0 → F I L) ∧ (¬ a2 < 0 → ∀ v1 : Int32, v1 = ((((Int32.toUInt32 a1) >>> ((Int32.toUInt32 a2) &&& Int32.toUInt32 31)).toInt32) &&& 255) → (v1 = 0 → sm_V x 0 0 T I L 3 [some (.ref 1), some (.int a1), some (.int (a2 + (-8))), some (.int v1)] []) ∧ (¬ v1 = 0 → sm_CV n mX3_set T I L [.ref 2, .int (I 1 1), .int v1] (fun I2 L2 => sm_V x 0 0 T (sm_uI I2 1 1 ((I2 1 1) + 1)) L2 3 [some (.ref 1), some (.int a1), some (.int (a2 + (-8))), some (.int v1)] [])))) :
    sm_V x 0 0 T I L 3 [some (.ref 1), some (.int a1), some (.int a2), u3] [] :=
  sm_iload_n (z := a2) hx dX10_add_3 rfl (sm_iflt (a := a2) hx dX10_add_4 (tgt := 47) (by decide) (fun q2 => sm_vretV hx dX10_add_47 rfl (h.1 q2)) (fun q2 => sm_iload_n (z := a1) hx dX10_add_7 rfl (sm_iload_n (z := a2) hx dX10_add_8 rfl (sm_iushr (a := a1) (b := a2) hx dX10_add_9 (sm_sipush (v := 255) hx dX10_add_10 sm_ks_255 (sm_iand (a := (((Int32.toUInt32 a1) >>> ((Int32.toUInt32 a2) &&& Int32.toUInt32 31)).toInt32)) (b := 255) hx dX10_add_13 (sm_istore_n (ls' := [some (.ref 1), some (.int a1), some (.int a2), some (.int ((((Int32.toUInt32 a1) >>> ((Int32.toUInt32 a2) &&& Int32.toUInt32 31)).toInt32) &&& 255))]) hx dX10_add_14 (by decide) rfl (sm_iload_n (z := ((((Int32.toUInt32 a1) >>> ((Int32.toUInt32 a2) &&& Int32.toUInt32 31)).toInt32) &&& 255)) hx dX10_add_15 rfl (sm_ifeq (a := ((((Int32.toUInt32 a1) >>> ((Int32.toUInt32 a2) &&& Int32.toUInt32 31)).toInt32) &&& 255)) hx dX10_add_16 (tgt := 41) (by decide) (fun q1 => sm_iinc (ls' := [some (.ref 1), some (.int a1), some (.int (a2 + (-8))), some (.int ((((Int32.toUInt32 a1) >>> ((Int32.toUInt32 a2) &&& Int32.toUInt32 31)).toInt32) &&& 255))]) (z := a2) (v := (a2 + (-8))) hx dX10_add_41 rfl (sm_kii_m8 _) (by decide) rfl (sm_goto hx dX10_add_44 (tgt := 3) (by decide) ((((h.2 q2) _ rfl).1 q1)))) (fun q1 => sm_aload_n (z := 1) hx dX10_add_19 rfl (sm_getR hx dX10_add_20 fl_X10_14_10 (t_1 hB) rfl (sm_aload_n (z := 1) hx dX10_add_23 rfl (sm_getI hx dX10_add_24 fl_X10_20_10 (t_1 hB) rfl (sm_iload_n (z := ((((Int32.toUInt32 a1) >>> ((Int32.toUInt32 a2) &&& Int32.toUInt32 31)).toInt32) &&& 255)) hx dX10_add_27 rfl (sm_callVV (args := [.int (I 1 1), .int ((((Int32.toUInt32 a1) >>> ((Int32.toUInt32 a2) &&& Int32.toUInt32 31)).toInt32) &&& 255)]) (st := []) hx dX10_add_28 lv_X10_24_3 rfl rfl (t_2 hB) rfl rfl (((h.2 q2) _ rfl).2 q1) (fun I2 L2 hI2 => sm_aload_n (z := 1) hx dX10_add_31 rfl (sm_dup hx dX10_add_32 rfl (sm_getI hx dX10_add_33 fl_X10_20_10 (t_1 hB) rfl (sm_iconst (v := 1) hx dX10_add_36 sm_kc_1 (sm_iadd (a := (I2 1 1)) (b := 1) hx dX10_add_37 (sm_putI hx dX10_add_38 fl_X10_20_10 (t_1 hB) rfl (sm_iinc (ls' := [some (.ref 1), some (.int a1), some (.int (a2 + (-8))), some (.int ((((Int32.toUInt32 a1) >>> ((Int32.toUInt32 a2) &&& Int32.toUInt32 31)).toInt32) &&& 255))]) (z := a2) (v := (a2 + (-8))) hx dX10_add_41 rfl (sm_kii_m8 _) (by decide) rfl (sm_goto hx dX10_add_44 (tgt := 3) (by decide) (hI2))))))))))))))))))))))))
set_option maxRecDepth 100000 in
theorem c_X10_add {n : Nat} {F : sm_MI → sm_ML → Prop} {T : List sm_Sh} {I : sm_MI} {L : sm_ML} {a1 : Int32} (hB : sm_Bs T)
    (h : ∀ x : sm_Cx, sm_Ok x mX10_add (n + 1) (sm_KV T F) → sm_V x 0 0 T I L 3 [some (.ref 1), some (.int a1), some (.int 24), none] []) :
    sm_CV (n + 1) mX10_add T I L [.ref 1, .int a1] F :=
  sm_CV.of (by decide +kernel) rfl (fun x hx => show sm_V x 0 0 T I L 0 [some (.ref 1), some (.int a1), none, none] [] from
  sm_bipush (v := 24) hx dX10_add_0 sm_kb_24 (sm_istore_n (ls' := [some (.ref 1), some (.int a1), some (.int 24), none]) hx dX10_add_2 (by decide) rfl ((h x hx))))
