/-! METHODS (main), laid by program (wip/gen): what each instruction is, and between cut points what the walk asks. -/
theorem dX11_feed_0 : decode cX11_feed 0 = .ok (.iload_n 1, 1) := by decide +kernel
theorem dX11_feed_1 : decode cX11_feed 1 = .ok (.invokestatic 105, 3) := by decide +kernel
theorem dX11_feed_4 : decode cX11_feed 4 = .ok (.iload_n 2, 1) := by decide +kernel
theorem dX11_feed_5 : decode cX11_feed 5 = .ok (.invokestatic 105, 3) := by decide +kernel
theorem dX11_feed_8 : decode cX11_feed 8 = .ok (.iadd, 1) := by decide +kernel
theorem dX11_feed_9 : decode cX11_feed 9 = .ok (.iload_n 3, 1) := by decide +kernel
theorem dX11_feed_10 : decode cX11_feed 10 = .ok (.invokestatic 105, 3) := by decide +kernel
theorem dX11_feed_13 : decode cX11_feed 13 = .ok (.iadd, 1) := by decide +kernel
theorem dX11_feed_14 : decode cX11_feed 14 = .ok (.iload 4, 2) := by decide +kernel
theorem dX11_feed_16 : decode cX11_feed 16 = .ok (.invokestatic 105, 3) := by decide +kernel
theorem dX11_feed_19 : decode cX11_feed 19 = .ok (.iadd, 1) := by decide +kernel
theorem dX11_feed_20 : decode cX11_feed 20 = .ok (.iload 5, 2) := by decide +kernel
theorem dX11_feed_22 : decode cX11_feed 22 = .ok (.invokestatic 105, 3) := by decide +kernel
theorem dX11_feed_25 : decode cX11_feed 25 = .ok (.iadd, 1) := by decide +kernel
theorem dX11_feed_26 : decode cX11_feed 26 = .ok (.istore 6, 2) := by decide +kernel
theorem dX11_feed_28 : decode cX11_feed 28 = .ok (.aload_n 0, 1) := by decide +kernel
theorem dX11_feed_29 : decode cX11_feed 29 = .ok (.getfield 10, 3) := by decide +kernel
theorem dX11_feed_32 : decode cX11_feed 32 = .ok (.getfield 109, 3) := by decide +kernel
theorem dX11_feed_35 : decode cX11_feed 35 = .ok (.iload 6, 2) := by decide +kernel
theorem dX11_feed_37 : decode cX11_feed 37 = .ok (.iadd, 1) := by decide +kernel
theorem dX11_feed_38 : decode cX11_feed 38 = .ok (.sipush 160, 3) := by decide +kernel
theorem dX11_feed_41 : decode cX11_feed 41 = .ok (.if_icmp .le 5, 3) := by decide +kernel
theorem dX11_feed_44 : decode cX11_feed 44 = .ok (.iconst (-1), 1) := by decide +kernel
theorem dX11_feed_45 : decode cX11_feed 45 = .ok (.ireturn, 1) := by decide +kernel
theorem dX11_feed_46 : decode cX11_feed 46 = .ok (.aload_n 0, 1) := by decide +kernel
theorem dX11_feed_47 : decode cX11_feed 47 = .ok (.getfield 10, 3) := by decide +kernel
theorem dX11_feed_50 : decode cX11_feed 50 = .ok (.iload_n 1, 1) := by decide +kernel
theorem dX11_feed_51 : decode cX11_feed 51 = .ok (.invokevirtual 112, 3) := by decide +kernel
theorem dX11_feed_54 : decode cX11_feed 54 = .ok (.aload_n 0, 1) := by decide +kernel
theorem dX11_feed_55 : decode cX11_feed 55 = .ok (.getfield 10, 3) := by decide +kernel
theorem dX11_feed_58 : decode cX11_feed 58 = .ok (.iload_n 2, 1) := by decide +kernel
theorem dX11_feed_59 : decode cX11_feed 59 = .ok (.invokevirtual 112, 3) := by decide +kernel
theorem dX11_feed_62 : decode cX11_feed 62 = .ok (.aload_n 0, 1) := by decide +kernel
theorem dX11_feed_63 : decode cX11_feed 63 = .ok (.getfield 10, 3) := by decide +kernel
theorem dX11_feed_66 : decode cX11_feed 66 = .ok (.iload_n 3, 1) := by decide +kernel
theorem dX11_feed_67 : decode cX11_feed 67 = .ok (.invokevirtual 112, 3) := by decide +kernel
theorem dX11_feed_70 : decode cX11_feed 70 = .ok (.aload_n 0, 1) := by decide +kernel
theorem dX11_feed_71 : decode cX11_feed 71 = .ok (.getfield 10, 3) := by decide +kernel
theorem dX11_feed_74 : decode cX11_feed 74 = .ok (.iload 4, 2) := by decide +kernel
theorem dX11_feed_76 : decode cX11_feed 76 = .ok (.invokevirtual 112, 3) := by decide +kernel
theorem dX11_feed_79 : decode cX11_feed 79 = .ok (.aload_n 0, 1) := by decide +kernel
theorem dX11_feed_80 : decode cX11_feed 80 = .ok (.getfield 10, 3) := by decide +kernel
theorem dX11_feed_83 : decode cX11_feed 83 = .ok (.iload 5, 2) := by decide +kernel
theorem dX11_feed_85 : decode cX11_feed 85 = .ok (.invokevirtual 112, 3) := by decide +kernel
theorem dX11_feed_88 : decode cX11_feed 88 = .ok (.aload_n 0, 1) := by decide +kernel
theorem dX11_feed_89 : decode cX11_feed 89 = .ok (.getfield 10, 3) := by decide +kernel
theorem dX11_feed_92 : decode cX11_feed 92 = .ok (.getfield 109, 3) := by decide +kernel
theorem dX11_feed_95 : decode cX11_feed 95 = .ok (.ireturn, 1) := by decide +kernel
set_option maxRecDepth 100000 in
theorem c_X11_feed {n : Nat} {F : Int32 → sm_MI → sm_ML → Prop} {T : List sm_Sh} {I : sm_MI} {L : sm_ML} {a1 : Int32} {a2 : Int32} {a3 : Int32} {a4 : Int32} {a5 : Int32} (hB : sm_Bs T)
    (h : sm_CI n mX10_bytesIn T I L [.int a1] (fun r2 I1 L1 => sm_CI n mX10_bytesIn T I1 L1 [.int a2] (fun r4 I3 L3 => sm_CI n mX10_bytesIn T I3 L3 [.int a3] (fun r6 I5 L5 => sm_CI n mX10_bytesIn T I5 L5 [.int a4] (fun r8 I7 L7 => sm_CI n mX10_bytesIn T I7 L7 [.int a5] (fun r10 I9 L9 => (((I9 1 1) + ((((r2 + r4) + r6) + r8) + r10)) ≤ 160 → sm_CV n mX10_add T I9 L9 [.ref 1, .int a1] (fun I11 L11 => sm_CV n mX10_add T I11 L11 [.ref 1, .int a2] (fun I12 L12 => sm_CV n mX10_add T I12 L12 [.ref 1, .int a3] (fun I13 L13 => sm_CV n mX10_add T I13 L13 [.ref 1, .int a4] (fun I14 L14 => sm_CV n mX10_add T I14 L14 [.ref 1, .int a5] (fun I15 L15 => F (I15 1 1) I15 L15)))))) ∧ (¬ ((I9 1 1) + ((((r2 + r4) + r6) + r8) + r10)) ≤ 160 → F (-1) I9 L9))))))) :
    sm_CI (n + 1) mX11_feed T I L [.ref 0, .int a1, .int a2, .int a3, .int a4, .int a5] F :=
  sm_CI.of (by decide +kernel) rfl (fun x hx => show sm_V x 0 0 T I L 0 [some (.ref 0), some (.int a1), some (.int a2), some (.int a3), some (.int a4), some (.int a5), none] [] from
  sm_iload_n (z := a1) hx dX11_feed_0 rfl (sm_callSI (args := [.int a1]) (st := []) hx dX11_feed_1 ls_X11_105 rfl rfl rfl h (fun r2 I1 L1 hI1 => sm_iload_n (z := a2) hx dX11_feed_4 rfl (sm_callSI (args := [.int a2]) (st := [.int r2]) hx dX11_feed_5 ls_X11_105 rfl rfl rfl hI1 (fun r4 I3 L3 hI3 => sm_iadd (a := r2) (b := r4) hx dX11_feed_8 (sm_iload_n (z := a3) hx dX11_feed_9 rfl (sm_callSI (args := [.int a3]) (st := [.int (r2 + r4)]) hx dX11_feed_10 ls_X11_105 rfl rfl rfl hI3 (fun r6 I5 L5 hI5 => sm_iadd (a := (r2 + r4)) (b := r6) hx dX11_feed_13 (sm_iload (z := a4) hx dX11_feed_14 rfl (sm_callSI (args := [.int a4]) (st := [.int ((r2 + r4) + r6)]) hx dX11_feed_16 ls_X11_105 rfl rfl rfl hI5 (fun r8 I7 L7 hI7 => sm_iadd (a := ((r2 + r4) + r6)) (b := r8) hx dX11_feed_19 (sm_iload (z := a5) hx dX11_feed_20 rfl (sm_callSI (args := [.int a5]) (st := [.int (((r2 + r4) + r6) + r8)]) hx dX11_feed_22 ls_X11_105 rfl rfl rfl hI7 (fun r10 I9 L9 hI9 => sm_iadd (a := (((r2 + r4) + r6) + r8)) (b := r10) hx dX11_feed_25 (sm_istore (ls' := [some (.ref 0), some (.int a1), some (.int a2), some (.int a3), some (.int a4), some (.int a5), some (.int ((((r2 + r4) + r6) + r8) + r10))]) hx dX11_feed_26 (by decide) rfl (sm_aload_n (z := 0) hx dX11_feed_28 rfl (sm_getR hx dX11_feed_29 fl_X11_10_11 (t_0 hB) rfl (sm_getI hx dX11_feed_32 fl_X11_109_10 (t_1 hB) rfl (sm_iload (z := ((((r2 + r4) + r6) + r8) + r10)) hx dX11_feed_35 rfl (sm_iadd (a := (I9 1 1)) (b := ((((r2 + r4) + r6) + r8) + r10)) hx dX11_feed_37 (sm_sipush (v := 160) hx dX11_feed_38 sm_ks_160 (sm_icmple (a := ((I9 1 1) + ((((r2 + r4) + r6) + r8) + r10))) (b := 160) hx dX11_feed_41 (tgt := 46) (by decide) (fun q1 => sm_aload_n (z := 0) hx dX11_feed_46 rfl (sm_getR hx dX11_feed_47 fl_X11_10_11 (t_0 hB) rfl (sm_iload_n (z := a1) hx dX11_feed_50 rfl (sm_callVV (args := [.int a1]) (st := []) hx dX11_feed_51 lv_X11_112_10 rfl rfl (t_1 hB) rfl rfl (hI9.1 q1) (fun I11 L11 hI11 => sm_aload_n (z := 0) hx dX11_feed_54 rfl (sm_getR hx dX11_feed_55 fl_X11_10_11 (t_0 hB) rfl (sm_iload_n (z := a2) hx dX11_feed_58 rfl (sm_callVV (args := [.int a2]) (st := []) hx dX11_feed_59 lv_X11_112_10 rfl rfl (t_1 hB) rfl rfl hI11 (fun I12 L12 hI12 => sm_aload_n (z := 0) hx dX11_feed_62 rfl (sm_getR hx dX11_feed_63 fl_X11_10_11 (t_0 hB) rfl (sm_iload_n (z := a3) hx dX11_feed_66 rfl (sm_callVV (args := [.int a3]) (st := []) hx dX11_feed_67 lv_X11_112_10 rfl rfl (t_1 hB) rfl rfl hI12 (fun I13 L13 hI13 => sm_aload_n (z := 0) hx dX11_feed_70 rfl (sm_getR hx dX11_feed_71 fl_X11_10_11 (t_0 hB) rfl (sm_iload (z := a4) hx dX11_feed_74 rfl (sm_callVV (args := [.int a4]) (st := []) hx dX11_feed_76 lv_X11_112_10 rfl rfl (t_1 hB) rfl rfl hI13 (fun I14 L14 hI14 => sm_aload_n (z := 0) hx dX11_feed_79 rfl (sm_getR hx dX11_feed_80 fl_X11_10_11 (t_0 hB) rfl (sm_iload (z := a5) hx dX11_feed_83 rfl (sm_callVV (args := [.int a5]) (st := []) hx dX11_feed_85 lv_X11_112_10 rfl rfl (t_1 hB) rfl rfl hI14 (fun I15 L15 hI15 => sm_aload_n (z := 0) hx dX11_feed_88 rfl (sm_getR hx dX11_feed_89 fl_X11_10_11 (t_0 hB) rfl (sm_getI hx dX11_feed_92 fl_X11_109_10 (t_1 hB) rfl (sm_iretI hx dX11_feed_95 rfl hI15)))))))))))))))))))))))) (fun q1 => sm_iconst (v := (-1)) hx dX11_feed_44 sm_kc_m1 (sm_iretI hx dX11_feed_45 rfl (hI9.2 q1)))))))))))))))))))))))))
theorem dX11_end_0 : decode cX11_end 0 = .ok (.iload_n 1, 1) := by decide +kernel
theorem dX11_end_1 : decode cX11_end 1 = .ok (.iconst 0, 1) := by decide +kernel
theorem dX11_end_2 : decode cX11_end 2 = .ok (.aload_n 0, 1) := by decide +kernel
theorem dX11_end_3 : decode cX11_end 3 = .ok (.getfield 10, 3) := by decide +kernel
theorem dX11_end_6 : decode cX11_end 6 = .ok (.getfield 109, 3) := by decide +kernel
theorem dX11_end_9 : decode cX11_end 9 = .ok (.invokestatic 115, 3) := by decide +kernel
theorem dX11_end_12 : decode cX11_end 12 = .ok (.ifCond .ne 5, 3) := by decide +kernel
theorem dX11_end_15 : decode cX11_end 15 = .ok (.iconst 0, 1) := by decide +kernel
theorem dX11_end_16 : decode cX11_end 16 = .ok (.ireturn, 1) := by decide +kernel
theorem dX11_end_17 : decode cX11_end 17 = .ok (.aload_n 0, 1) := by decide +kernel
theorem dX11_end_18 : decode cX11_end 18 = .ok (.getfield 10, 3) := by decide +kernel
theorem dX11_end_21 : decode cX11_end 21 = .ok (.iload_n 1, 1) := by decide +kernel
theorem dX11_end_22 : decode cX11_end 22 = .ok (.putfield 109, 3) := by decide +kernel
theorem dX11_end_25 : decode cX11_end 25 = .ok (.iconst 1, 1) := by decide +kernel
theorem dX11_end_26 : decode cX11_end 26 = .ok (.ireturn, 1) := by decide +kernel
set_option maxRecDepth 100000 in
theorem c_X11_end {n : Nat} {F : Bool → sm_MI → sm_ML → Prop} {T : List sm_Sh} {I : sm_MI} {L : sm_ML} {a1 : Int32} (hB : sm_Bs T)
    (h : sm_CZ n mX11_within T I L [.int a1, .int 0, .int (I 1 1)] (fun r2 I1 L1 => (r2 = true → F true (sm_uI I1 1 1 a1) L1) ∧ (r2 = false → F false I1 L1))) :
    sm_CZ (n + 1) mX11_end T I L [.ref 0, .int a1] F :=
  sm_CZ.of (by decide +kernel) rfl (fun x hx => show sm_V x 0 0 T I L 0 [some (.ref 0), some (.int a1)] [] from
  sm_iload_n (z := a1) hx dX11_end_0 rfl (sm_iconst (v := 0) hx dX11_end_1 sm_kc_0 (sm_aload_n (z := 0) hx dX11_end_2 rfl (sm_getR hx dX11_end_3 fl_X11_10_11 (t_0 hB) rfl (sm_getI hx dX11_end_6 fl_X11_109_10 (t_1 hB) rfl (sm_callSZ (args := [.int a1, .int 0, .int (I 1 1)]) (st := []) hx dX11_end_9 ls_X11_115 rfl rfl rfl h (fun r2 I1 L1 hI1 => sm_ifneZ (b := r2) hx dX11_end_12 (tgt := 17) (by decide) (fun q1 => sm_aload_n (z := 0) hx dX11_end_17 rfl (sm_getR hx dX11_end_18 fl_X11_10_11 (t_0 hB) rfl (sm_iload_n (z := a1) hx dX11_end_21 rfl (sm_putI hx dX11_end_22 fl_X11_109_10 (t_1 hB) rfl (sm_iconst (v := 1) hx dX11_end_25 sm_kc_1 (sm_iretZ (z := true) hx dX11_end_26 rfl (hI1.1 q1))))))) (fun q1 => sm_iconst (v := 0) hx dX11_end_15 sm_kc_0 (sm_iretZ (z := false) hx dX11_end_16 rfl (hI1.2 q1))))))))))
theorem dX11_fault_0 : decode cX11_fault 0 = .ok (.iload_n 1, 1) := by decide +kernel
theorem dX11_fault_1 : decode cX11_fault 1 = .ok (.ifCond .ne 11, 3) := by decide +kernel
theorem dX11_fault_4 : decode cX11_fault 4 = .ok (.aload_n 0, 1) := by decide +kernel
theorem dX11_fault_5 : decode cX11_fault 5 = .ok (.getfield 21, 3) := by decide +kernel
theorem dX11_fault_8 : decode cX11_fault 8 = .ok (.invokevirtual 119, 3) := by decide +kernel
theorem dX11_fault_11 : decode cX11_fault 11 = .ok (.ireturn, 1) := by decide +kernel
theorem dX11_fault_12 : decode cX11_fault 12 = .ok (.iload_n 1, 1) := by decide +kernel
theorem dX11_fault_13 : decode cX11_fault 13 = .ok (.iconst 1, 1) := by decide +kernel
theorem dX11_fault_14 : decode cX11_fault 14 = .ok (.if_icmp .ne 13, 3) := by decide +kernel
theorem dX11_fault_17 : decode cX11_fault 17 = .ok (.aload_n 0, 1) := by decide +kernel
theorem dX11_fault_18 : decode cX11_fault 18 = .ok (.getfield 28, 3) := by decide +kernel
theorem dX11_fault_21 : decode cX11_fault 21 = .ok (.invokevirtual 123, 3) := by decide +kernel
theorem dX11_fault_24 : decode cX11_fault 24 = .ok (.goto 5, 3) := by decide +kernel
theorem dX11_fault_27 : decode cX11_fault 27 = .ok (.bipush (-2), 2) := by decide +kernel
theorem dX11_fault_29 : decode cX11_fault 29 = .ok (.ireturn, 1) := by decide +kernel
set_option maxRecDepth 100000 in
theorem c_X11_fault {n : Nat} {F : Int32 → sm_MI → sm_ML → Prop} {T : List sm_Sh} {I : sm_MI} {L : sm_ML} {a1 : Int32} (hB : sm_Bs T)
    (h : (¬ a1 = 0 → (¬ a1 = 1 → F (-2) I L) ∧ (a1 = 1 → sm_CI n mX5_read T I L [.ref 18] (fun r2 I1 L1 => F r2 I1 L1))) ∧ (a1 = 0 → sm_CI n mX9_read T I L [.ref 4] (fun r4 I3 L3 => F r4 I3 L3))) :
    sm_CI (n + 1) mX11_fault T I L [.ref 0, .int a1] F :=
  sm_CI.of (by decide +kernel) rfl (fun x hx => show sm_V x 0 0 T I L 0 [some (.ref 0), some (.int a1)] [] from
  sm_iload_n (z := a1) hx dX11_fault_0 rfl (sm_ifne (a := a1) hx dX11_fault_1 (tgt := 12) (by decide) (fun q2 => sm_iload_n (z := a1) hx dX11_fault_12 rfl (sm_iconst (v := 1) hx dX11_fault_13 sm_kc_1 (sm_icmpne (a := a1) (b := 1) hx dX11_fault_14 (tgt := 27) (by decide) (fun q1 => sm_bipush (v := (-2)) hx dX11_fault_27 sm_kb_m2 (sm_iretI hx dX11_fault_29 rfl ((h.1 q2).1 q1))) (fun q1 => sm_aload_n (z := 0) hx dX11_fault_17 rfl (sm_getR hx dX11_fault_18 fl_X11_28_11 (t_0 hB) rfl (sm_callVI (args := []) (st := []) hx dX11_fault_21 lv_X11_123_5 rfl rfl (t_18 hB) rfl rfl ((h.1 q2).2 q1) (fun r2 I1 L1 hI1 => sm_goto hx dX11_fault_24 (tgt := 29) (by decide) (sm_iretI hx dX11_fault_29 rfl hI1)))))))) (fun q2 => sm_aload_n (z := 0) hx dX11_fault_4 rfl (sm_getR hx dX11_fault_5 fl_X11_21_11 (t_0 hB) rfl (sm_callVI (args := []) (st := []) hx dX11_fault_8 lv_X11_119_9 rfl rfl (t_4 hB) rfl rfl (h.2 q2) (fun r4 I3 L3 hI3 => sm_iretI hx dX11_fault_11 rfl hI3))))))
theorem dX11_moveInto_0 : decode cX11_moveInto 0 = .ok (.aload_n 0, 1) := by decide +kernel
theorem dX11_moveInto_1 : decode cX11_moveInto 1 = .ok (.getfield 42, 3) := by decide +kernel
theorem dX11_moveInto_4 : decode cX11_moveInto 4 = .ok (.aload_n 1, 1) := by decide +kernel
theorem dX11_moveInto_5 : decode cX11_moveInto 5 = .ok (.invokevirtual 144, 3) := by decide +kernel
theorem dX11_moveInto_8 : decode cX11_moveInto 8 = .ok (.aload_n 0, 1) := by decide +kernel
theorem dX11_moveInto_9 : decode cX11_moveInto 9 = .ok (.getfield 49, 3) := by decide +kernel
theorem dX11_moveInto_12 : decode cX11_moveInto 12 = .ok (.aload_n 0, 1) := by decide +kernel
theorem dX11_moveInto_13 : decode cX11_moveInto 13 = .ok (.getfield 42, 3) := by decide +kernel
theorem dX11_moveInto_16 : decode cX11_moveInto 16 = .ok (.getfield 147, 3) := by decide +kernel
theorem dX11_moveInto_19 : decode cX11_moveInto 19 = .ok (.putfield 150, 3) := by decide +kernel
theorem dX11_moveInto_22 : decode cX11_moveInto 22 = .ok (.aload_n 0, 1) := by decide +kernel
theorem dX11_moveInto_23 : decode cX11_moveInto 23 = .ok (.getfield 49, 3) := by decide +kernel
theorem dX11_moveInto_26 : decode cX11_moveInto 26 = .ok (.iconst 0, 1) := by decide +kernel
theorem dX11_moveInto_27 : decode cX11_moveInto 27 = .ok (.putfield 153, 3) := by decide +kernel
theorem dX11_moveInto_30 : decode cX11_moveInto 30 = .ok (.aload_n 0, 1) := by decide +kernel
theorem dX11_moveInto_31 : decode cX11_moveInto 31 = .ok (.getfield 49, 3) := by decide +kernel
theorem dX11_moveInto_34 : decode cX11_moveInto 34 = .ok (.iconst 0, 1) := by decide +kernel
theorem dX11_moveInto_35 : decode cX11_moveInto 35 = .ok (.putfield 156, 3) := by decide +kernel
theorem dX11_moveInto_38 : decode cX11_moveInto 38 = .ok (.aload_n 0, 1) := by decide +kernel
theorem dX11_moveInto_39 : decode cX11_moveInto 39 = .ok (.iconst 0, 1) := by decide +kernel
theorem dX11_moveInto_40 : decode cX11_moveInto 40 = .ok (.putfield 56, 3) := by decide +kernel
theorem dX11_moveInto_43 : decode cX11_moveInto 43 = .ok (.aload_n 0, 1) := by decide +kernel
theorem dX11_moveInto_44 : decode cX11_moveInto 44 = .ok (.getfield 63, 3) := by decide +kernel
theorem dX11_moveInto_47 : decode cX11_moveInto 47 = .ok (.invokevirtual 159, 3) := by decide +kernel
theorem dX11_moveInto_50 : decode cX11_moveInto 50 = .ok (.aload_n 0, 1) := by decide +kernel
theorem dX11_moveInto_51 : decode cX11_moveInto 51 = .ok (.getfield 70, 3) := by decide +kernel
theorem dX11_moveInto_54 : decode cX11_moveInto 54 = .ok (.invokevirtual 162, 3) := by decide +kernel
theorem dX11_moveInto_57 : decode cX11_moveInto 57 = .ok (.return_, 1) := by decide +kernel
set_option maxRecDepth 100000 in
theorem c_X11_moveInto {n : Nat} {F : sm_MI → sm_ML → Prop} {T : List sm_Sh} {I : sm_MI} {L : sm_ML}  (hB : sm_Bs T)
    (h : sm_CV n mX8_copy T I L [.ref 24, .ref 5] (fun I1 L1 => sm_CV n mX1_forget T (sm_uI (sm_uI (sm_uI (sm_uI I1 35 0 (I1 24 3)) 35 1 0) 35 2 0) 0 7 (sm_z false)) L1 [.ref 37] (fun I2 L2 => sm_CV n mX6_forget T I2 L2 [.ref 44] (fun I3 L3 => F I3 L3)))) :
    sm_CV (n + 1) mX11_moveInto T I L [.ref 0, .ref 5] F :=
  sm_CV.of (by decide +kernel) rfl (fun x hx => show sm_V x 0 0 T I L 0 [some (.ref 0), some (.ref 5)] [] from
  sm_aload_n (z := 0) hx dX11_moveInto_0 rfl (sm_getR hx dX11_moveInto_1 fl_X11_42_11 (t_0 hB) rfl (sm_aload_n (z := 5) hx dX11_moveInto_4 rfl (sm_callVV (args := [.ref 5]) (st := []) hx dX11_moveInto_5 lv_X11_144_8 rfl rfl (t_24 hB) rfl rfl h (fun I1 L1 hI1 => sm_aload_n (z := 0) hx dX11_moveInto_8 rfl (sm_getR hx dX11_moveInto_9 fl_X11_49_11 (t_0 hB) rfl (sm_aload_n (z := 0) hx dX11_moveInto_12 rfl (sm_getR hx dX11_moveInto_13 fl_X11_42_11 (t_0 hB) rfl (sm_getI hx dX11_moveInto_16 fl_X11_147_8 (t_24 hB) rfl (sm_putI hx dX11_moveInto_19 fl_X11_150_7 (t_35 hB) rfl (sm_aload_n (z := 0) hx dX11_moveInto_22 rfl (sm_getR hx dX11_moveInto_23 fl_X11_49_11 (t_0 hB) rfl (sm_iconst (v := 0) hx dX11_moveInto_26 sm_kc_0 (sm_putI hx dX11_moveInto_27 fl_X11_153_7 (t_35 hB) rfl (sm_aload_n (z := 0) hx dX11_moveInto_30 rfl (sm_getR hx dX11_moveInto_31 fl_X11_49_11 (t_0 hB) rfl (sm_iconst (v := 0) hx dX11_moveInto_34 sm_kc_0 (sm_putI hx dX11_moveInto_35 fl_X11_156_7 (t_35 hB) rfl (sm_aload_n (z := 0) hx dX11_moveInto_38 rfl (sm_iconst (v := 0) hx dX11_moveInto_39 sm_kc_0 (sm_putZ (b := false) hx dX11_moveInto_40 fl_X11_56_11 (t_0 hB) rfl (sm_aload_n (z := 0) hx dX11_moveInto_43 rfl (sm_getR hx dX11_moveInto_44 fl_X11_63_11 (t_0 hB) rfl (sm_callVV (args := []) (st := []) hx dX11_moveInto_47 lv_X11_159_2 rfl rfl (t_37 hB) rfl rfl hI1 (fun I2 L2 hI2 => sm_aload_n (z := 0) hx dX11_moveInto_50 rfl (sm_getR hx dX11_moveInto_51 fl_X11_70_11 (t_0 hB) rfl (sm_callVV (args := []) (st := []) hx dX11_moveInto_54 lv_X11_162_6 rfl rfl (t_44 hB) rfl rfl hI2 (fun I3 L3 hI3 => sm_vretV hx dX11_moveInto_57 rfl hI3))))))))))))))))))))))))))))
theorem dX11_thing_0 : decode cX11_thing 0 = .ok (.aload_n 0, 1) := by decide +kernel
theorem dX11_thing_1 : decode cX11_thing 1 = .ok (.getfield 42, 3) := by decide +kernel
theorem dX11_thing_4 : decode cX11_thing 4 = .ok (.iload_n 1, 1) := by decide +kernel
theorem dX11_thing_5 : decode cX11_thing 5 = .ok (.invokevirtual 194, 3) := by decide +kernel
theorem dX11_thing_8 : decode cX11_thing 8 = .ok (.ifCond .eq 12, 3) := by decide +kernel
theorem dX11_thing_11 : decode cX11_thing 11 = .ok (.iload_n 2, 1) := by decide +kernel
theorem dX11_thing_12 : decode cX11_thing 12 = .ok (.iconst 0, 1) := by decide +kernel
theorem dX11_thing_13 : decode cX11_thing 13 = .ok (.iconst 1, 1) := by decide +kernel
theorem dX11_thing_14 : decode cX11_thing 14 = .ok (.invokestatic 115, 3) := by decide +kernel
theorem dX11_thing_17 : decode cX11_thing 17 = .ok (.ifCond .ne 5, 3) := by decide +kernel
theorem dX11_thing_20 : decode cX11_thing 20 = .ok (.iconst (-1), 1) := by decide +kernel
theorem dX11_thing_21 : decode cX11_thing 21 = .ok (.ireturn, 1) := by decide +kernel
theorem dX11_thing_22 : decode cX11_thing 22 = .ok (.iload_n 2, 1) := by decide +kernel
theorem dX11_thing_23 : decode cX11_thing 23 = .ok (.ifCond .ne 13, 3) := by decide +kernel
theorem dX11_thing_26 : decode cX11_thing 26 = .ok (.aload_n 0, 1) := by decide +kernel
theorem dX11_thing_27 : decode cX11_thing 27 = .ok (.getfield 49, 3) := by decide +kernel
theorem dX11_thing_30 : decode cX11_thing 30 = .ok (.getfield 150, 3) := by decide +kernel
theorem dX11_thing_33 : decode cX11_thing 33 = .ok (.goto 10, 3) := by decide +kernel
theorem dX11_thing_36 : decode cX11_thing 36 = .ok (.aload_n 0, 1) := by decide +kernel
theorem dX11_thing_37 : decode cX11_thing 37 = .ok (.getfield 42, 3) := by decide +kernel
theorem dX11_thing_40 : decode cX11_thing 40 = .ok (.getfield 147, 3) := by decide +kernel
theorem dX11_thing_43 : decode cX11_thing 43 = .ok (.iload_n 1, 1) := by decide +kernel
theorem dX11_thing_44 : decode cX11_thing 44 = .ok (.invokestatic 197, 3) := by decide +kernel
theorem dX11_thing_47 : decode cX11_thing 47 = .ok (.ireturn, 1) := by decide +kernel
set_option maxRecDepth 100000 in
theorem c_X11_thing {n : Nat} {F : Int32 → sm_MI → sm_ML → Prop} {T : List sm_Sh} {I : sm_MI} {L : sm_ML} {a1 : Int32} {a2 : Int32} (hB : sm_Bs T)
    (h : sm_CZ n mX8_hasThing T I L [.ref 24, .int a1] (fun r2 I1 L1 => (r2 = false → F (-1) I1 L1) ∧ (r2 = true → sm_CZ n mX11_within T I1 L1 [.int a2, .int 0, .int 1] (fun r4 I3 L3 => (r4 = true → (¬ a2 = 0 → sm_CI n mX11_placeIn T I3 L3 [.int (I3 24 3), .int a1] (fun r6 I5 L5 => F r6 I5 L5)) ∧ (a2 = 0 → sm_CI n mX11_placeIn T I3 L3 [.int (I3 35 0), .int a1] (fun r8 I7 L7 => F r8 I7 L7))) ∧ (r4 = false → F (-1) I3 L3))))) :
    sm_CI (n + 1) mX11_thing T I L [.ref 0, .int a1, .int a2] F :=
  sm_CI.of (by decide +kernel) rfl (fun x hx => show sm_V x 0 0 T I L 0 [some (.ref 0), some (.int a1), some (.int a2)] [] from
  sm_aload_n (z := 0) hx dX11_thing_0 rfl (sm_getR hx dX11_thing_1 fl_X11_42_11 (t_0 hB) rfl (sm_iload_n (z := a1) hx dX11_thing_4 rfl (sm_callVZ (args := [.int a1]) (st := []) hx dX11_thing_5 lv_X11_194_8 rfl rfl (t_24 hB) rfl rfl h (fun r2 I1 L1 hI1 => sm_ifeqZ (b := r2) hx dX11_thing_8 (tgt := 20) (by decide) (fun q3 => sm_iconst (v := (-1)) hx dX11_thing_20 sm_kc_m1 (sm_iretI hx dX11_thing_21 rfl (hI1.1 q3))) (fun q3 => sm_iload_n (z := a2) hx dX11_thing_11 rfl (sm_iconst (v := 0) hx dX11_thing_12 sm_kc_0 (sm_iconst (v := 1) hx dX11_thing_13 sm_kc_1 (sm_callSZ (args := [.int a2, .int 0, .int 1]) (st := []) hx dX11_thing_14 ls_X11_115 rfl rfl rfl (hI1.2 q3) (fun r4 I3 L3 hI3 => sm_ifneZ (b := r4) hx dX11_thing_17 (tgt := 22) (by decide) (fun q2 => sm_iload_n (z := a2) hx dX11_thing_22 rfl (sm_ifne (a := a2) hx dX11_thing_23 (tgt := 36) (by decide) (fun q1 => sm_aload_n (z := 0) hx dX11_thing_36 rfl (sm_getR hx dX11_thing_37 fl_X11_42_11 (t_0 hB) rfl (sm_getI hx dX11_thing_40 fl_X11_147_8 (t_24 hB) rfl (sm_iload_n (z := a1) hx dX11_thing_43 rfl (sm_callSI (args := [.int (I3 24 3), .int a1]) (st := []) hx dX11_thing_44 ls_X11_197 rfl rfl rfl ((hI3.1 q2).1 q1) (fun r6 I5 L5 hI5 => sm_iretI hx dX11_thing_47 rfl hI5)))))) (fun q1 => sm_aload_n (z := 0) hx dX11_thing_26 rfl (sm_getR hx dX11_thing_27 fl_X11_49_11 (t_0 hB) rfl (sm_getI hx dX11_thing_30 fl_X11_150_7 (t_35 hB) rfl (sm_goto hx dX11_thing_33 (tgt := 43) (by decide) (sm_iload_n (z := a1) hx dX11_thing_43 rfl (sm_callSI (args := [.int (I3 35 0), .int a1]) (st := []) hx dX11_thing_44 ls_X11_197 rfl rfl rfl ((hI3.1 q2).2 q1) (fun r8 I7 L7 hI7 => sm_iretI hx dX11_thing_47 rfl hI7))))))))) (fun q2 => sm_iconst (v := (-1)) hx dX11_thing_20 sm_kc_m1 (sm_iretI hx dX11_thing_21 rfl (hI3.2 q2)))))))))))))
theorem dX11_house_0 : decode cX11_house 0 = .ok (.aload_n 0, 1) := by decide +kernel
theorem dX11_house_1 : decode cX11_house 1 = .ok (.getfield 42, 3) := by decide +kernel
theorem dX11_house_4 : decode cX11_house 4 = .ok (.iload_n 1, 1) := by decide +kernel
theorem dX11_house_5 : decode cX11_house 5 = .ok (.invokevirtual 201, 3) := by decide +kernel
theorem dX11_house_8 : decode cX11_house 8 = .ok (.ifCond .eq 12, 3) := by decide +kernel
theorem dX11_house_11 : decode cX11_house 11 = .ok (.iload_n 2, 1) := by decide +kernel
theorem dX11_house_12 : decode cX11_house 12 = .ok (.iconst 0, 1) := by decide +kernel
theorem dX11_house_13 : decode cX11_house 13 = .ok (.iconst 1, 1) := by decide +kernel
theorem dX11_house_14 : decode cX11_house 14 = .ok (.invokestatic 115, 3) := by decide +kernel
theorem dX11_house_17 : decode cX11_house 17 = .ok (.ifCond .ne 5, 3) := by decide +kernel
theorem dX11_house_20 : decode cX11_house 20 = .ok (.iconst (-1), 1) := by decide +kernel
theorem dX11_house_21 : decode cX11_house 21 = .ok (.ireturn, 1) := by decide +kernel
theorem dX11_house_22 : decode cX11_house 22 = .ok (.iload_n 2, 1) := by decide +kernel
theorem dX11_house_23 : decode cX11_house 23 = .ok (.ifCond .ne 21, 3) := by decide +kernel
theorem dX11_house_26 : decode cX11_house 26 = .ok (.aload_n 0, 1) := by decide +kernel
theorem dX11_house_27 : decode cX11_house 27 = .ok (.getfield 42, 3) := by decide +kernel
theorem dX11_house_30 : decode cX11_house 30 = .ok (.aload_n 0, 1) := by decide +kernel
theorem dX11_house_31 : decode cX11_house 31 = .ok (.getfield 49, 3) := by decide +kernel
theorem dX11_house_34 : decode cX11_house 34 = .ok (.getfield 150, 3) := by decide +kernel
theorem dX11_house_37 : decode cX11_house 37 = .ok (.iload_n 1, 1) := by decide +kernel
theorem dX11_house_38 : decode cX11_house 38 = .ok (.invokevirtual 204, 3) := by decide +kernel
theorem dX11_house_41 : decode cX11_house 41 = .ok (.goto 14, 3) := by decide +kernel
theorem dX11_house_44 : decode cX11_house 44 = .ok (.aload_n 0, 1) := by decide +kernel
theorem dX11_house_45 : decode cX11_house 45 = .ok (.getfield 49, 3) := by decide +kernel
theorem dX11_house_48 : decode cX11_house 48 = .ok (.getfield 156, 3) := by decide +kernel
theorem dX11_house_51 : decode cX11_house 51 = .ok (.iload_n 1, 1) := by decide +kernel
theorem dX11_house_52 : decode cX11_house 52 = .ok (.invokestatic 207, 3) := by decide +kernel
theorem dX11_house_55 : decode cX11_house 55 = .ok (.ireturn, 1) := by decide +kernel
set_option maxRecDepth 100000 in
theorem c_X11_house {n : Nat} {F : Int32 → sm_MI → sm_ML → Prop} {T : List sm_Sh} {I : sm_MI} {L : sm_ML} {a1 : Int32} {a2 : Int32} (hB : sm_Bs T)
    (h : sm_CZ n mX8_hasHouse T I L [.ref 24, .int a1] (fun r2 I1 L1 => (r2 = false → F (-1) I1 L1) ∧ (r2 = true → sm_CZ n mX11_within T I1 L1 [.int a2, .int 0, .int 1] (fun r4 I3 L3 => (r4 = true → (¬ a2 = 0 → sm_CI n mX11_bitOf T I3 L3 [.int (I3 35 2), .int a1] (fun r6 I5 L5 => F r6 I5 L5)) ∧ (a2 = 0 → sm_CI n mX8_thingsIn T I3 L3 [.ref 24, .int (I3 35 0), .int a1] (fun r8 I7 L7 => F r8 I7 L7))) ∧ (r4 = false → F (-1) I3 L3))))) :
    sm_CI (n + 1) mX11_house T I L [.ref 0, .int a1, .int a2] F :=
  sm_CI.of (by decide +kernel) rfl (fun x hx => show sm_V x 0 0 T I L 0 [some (.ref 0), some (.int a1), some (.int a2)] [] from
  sm_aload_n (z := 0) hx dX11_house_0 rfl (sm_getR hx dX11_house_1 fl_X11_42_11 (t_0 hB) rfl (sm_iload_n (z := a1) hx dX11_house_4 rfl (sm_callVZ (args := [.int a1]) (st := []) hx dX11_house_5 lv_X11_201_8 rfl rfl (t_24 hB) rfl rfl h (fun r2 I1 L1 hI1 => sm_ifeqZ (b := r2) hx dX11_house_8 (tgt := 20) (by decide) (fun q3 => sm_iconst (v := (-1)) hx dX11_house_20 sm_kc_m1 (sm_iretI hx dX11_house_21 rfl (hI1.1 q3))) (fun q3 => sm_iload_n (z := a2) hx dX11_house_11 rfl (sm_iconst (v := 0) hx dX11_house_12 sm_kc_0 (sm_iconst (v := 1) hx dX11_house_13 sm_kc_1 (sm_callSZ (args := [.int a2, .int 0, .int 1]) (st := []) hx dX11_house_14 ls_X11_115 rfl rfl rfl (hI1.2 q3) (fun r4 I3 L3 hI3 => sm_ifneZ (b := r4) hx dX11_house_17 (tgt := 22) (by decide) (fun q2 => sm_iload_n (z := a2) hx dX11_house_22 rfl (sm_ifne (a := a2) hx dX11_house_23 (tgt := 44) (by decide) (fun q1 => sm_aload_n (z := 0) hx dX11_house_44 rfl (sm_getR hx dX11_house_45 fl_X11_49_11 (t_0 hB) rfl (sm_getI hx dX11_house_48 fl_X11_156_7 (t_35 hB) rfl (sm_iload_n (z := a1) hx dX11_house_51 rfl (sm_callSI (args := [.int (I3 35 2), .int a1]) (st := []) hx dX11_house_52 ls_X11_207 rfl rfl rfl ((hI3.1 q2).1 q1) (fun r6 I5 L5 hI5 => sm_iretI hx dX11_house_55 rfl hI5)))))) (fun q1 => sm_aload_n (z := 0) hx dX11_house_26 rfl (sm_getR hx dX11_house_27 fl_X11_42_11 (t_0 hB) rfl (sm_aload_n (z := 0) hx dX11_house_30 rfl (sm_getR hx dX11_house_31 fl_X11_49_11 (t_0 hB) rfl (sm_getI hx dX11_house_34 fl_X11_150_7 (t_35 hB) rfl (sm_iload_n (z := a1) hx dX11_house_37 rfl (sm_callVI (args := [.int (I3 35 0), .int a1]) (st := []) hx dX11_house_38 lv_X11_204_8 rfl rfl (t_24 hB) rfl rfl ((hI3.1 q2).2 q1) (fun r8 I7 L7 hI7 => sm_goto hx dX11_house_41 (tgt := 55) (by decide) (sm_iretI hx dX11_house_55 rfl hI7))))))))))) (fun q2 => sm_iconst (v := (-1)) hx dX11_house_20 sm_kc_m1 (sm_iretI hx dX11_house_21 rfl (hI3.2 q2)))))))))))))
theorem dX11_moon_0 : decode cX11_moon 0 = .ok (.aload_n 0, 1) := by decide +kernel
theorem dX11_moon_1 : decode cX11_moon 1 = .ok (.getfield 42, 3) := by decide +kernel
theorem dX11_moon_4 : decode cX11_moon 4 = .ok (.invokevirtual 210, 3) := by decide +kernel
theorem dX11_moon_7 : decode cX11_moon 7 = .ok (.ifCond .eq 7, 3) := by decide +kernel
theorem dX11_moon_10 : decode cX11_moon 10 = .ok (.iload_n 1, 1) := by decide +kernel
theorem dX11_moon_11 : decode cX11_moon 11 = .ok (.ifCond .ge 5, 3) := by decide +kernel
theorem dX11_moon_14 : decode cX11_moon 14 = .ok (.iconst (-1), 1) := by decide +kernel
theorem dX11_moon_15 : decode cX11_moon 15 = .ok (.ireturn, 1) := by decide +kernel
theorem dX11_moon_16 : decode cX11_moon 16 = .ok (.aload_n 0, 1) := by decide +kernel
theorem dX11_moon_17 : decode cX11_moon 17 = .ok (.getfield 42, 3) := by decide +kernel
theorem dX11_moon_20 : decode cX11_moon 20 = .ok (.iload_n 1, 1) := by decide +kernel
theorem dX11_moon_21 : decode cX11_moon 21 = .ok (.invokevirtual 214, 3) := by decide +kernel
theorem dX11_moon_24 : decode cX11_moon 24 = .ok (.ifCond .eq 7, 3) := by decide +kernel
theorem dX11_moon_27 : decode cX11_moon 27 = .ok (.iconst 1, 1) := by decide +kernel
theorem dX11_moon_28 : decode cX11_moon 28 = .ok (.goto 4, 3) := by decide +kernel
theorem dX11_moon_31 : decode cX11_moon 31 = .ok (.iconst 0, 1) := by decide +kernel
theorem dX11_moon_32 : decode cX11_moon 32 = .ok (.ireturn, 1) := by decide +kernel
set_option maxRecDepth 100000 in
theorem c_X11_moon {n : Nat} {F : Int32 → sm_MI → sm_ML → Prop} {T : List sm_Sh} {I : sm_MI} {L : sm_ML} {a1 : Int32} (hB : sm_Bs T)
    (h : sm_CZ n mX8_isTold T I L [.ref 24] (fun r2 I1 L1 => (r2 = false → F (-1) I1 L1) ∧ (r2 = true → (0 ≤ a1 → sm_CZ n mX8_isFull T I1 L1 [.ref 24, .int a1] (fun r4 I3 L3 => (r4 = false → F 0 I3 L3) ∧ (r4 = true → F 1 I3 L3))) ∧ (¬ 0 ≤ a1 → F (-1) I1 L1)))) :
    sm_CI (n + 1) mX11_moon T I L [.ref 0, .int a1] F :=
  sm_CI.of (by decide +kernel) rfl (fun x hx => show sm_V x 0 0 T I L 0 [some (.ref 0), some (.int a1)] [] from
  sm_aload_n (z := 0) hx dX11_moon_0 rfl (sm_getR hx dX11_moon_1 fl_X11_42_11 (t_0 hB) rfl (sm_callVZ (args := []) (st := []) hx dX11_moon_4 lv_X11_210_8 rfl rfl (t_24 hB) rfl rfl h (fun r2 I1 L1 hI1 => sm_ifeqZ (b := r2) hx dX11_moon_7 (tgt := 14) (by decide) (fun q3 => sm_iconst (v := (-1)) hx dX11_moon_14 sm_kc_m1 (sm_iretI hx dX11_moon_15 rfl (hI1.1 q3))) (fun q3 => sm_iload_n (z := a1) hx dX11_moon_10 rfl (sm_ifge (a := a1) hx dX11_moon_11 (tgt := 16) (by decide) (fun q2 => sm_aload_n (z := 0) hx dX11_moon_16 rfl (sm_getR hx dX11_moon_17 fl_X11_42_11 (t_0 hB) rfl (sm_iload_n (z := a1) hx dX11_moon_20 rfl (sm_callVZ (args := [.int a1]) (st := []) hx dX11_moon_21 lv_X11_214_8 rfl rfl (t_24 hB) rfl rfl ((hI1.2 q3).1 q2) (fun r4 I3 L3 hI3 => sm_ifeqZ (b := r4) hx dX11_moon_24 (tgt := 31) (by decide) (fun q1 => sm_iconst (v := 0) hx dX11_moon_31 sm_kc_0 (sm_iretI hx dX11_moon_32 rfl (hI3.1 q1))) (fun q1 => sm_iconst (v := 1) hx dX11_moon_27 sm_kc_1 (sm_goto hx dX11_moon_28 (tgt := 32) (by decide) (sm_iretI hx dX11_moon_32 rfl (hI3.2 q1))))))))) (fun q2 => sm_iconst (v := (-1)) hx dX11_moon_14 sm_kc_m1 (sm_iretI hx dX11_moon_15 rfl ((hI1.2 q3).2 q2)))))))))
theorem dX11_count_0 : decode cX11_count 0 = .ok (.iload_n 1, 1) := by decide +kernel
theorem dX11_count_1 : decode cX11_count 1 = .ok (.tableswitch 135 0 9 #[55, 63, 71, 79, 87, 95, 103, 111, 119, 127], 55) := by decide +kernel
theorem dX11_count_56 : decode cX11_count 56 = .ok (.aload_n 0, 1) := by decide +kernel
theorem dX11_count_57 : decode cX11_count 57 = .ok (.getfield 42, 3) := by decide +kernel
theorem dX11_count_60 : decode cX11_count 60 = .ok (.getfield 217, 3) := by decide +kernel
theorem dX11_count_63 : decode cX11_count 63 = .ok (.ireturn, 1) := by decide +kernel
theorem dX11_count_64 : decode cX11_count 64 = .ok (.aload_n 0, 1) := by decide +kernel
theorem dX11_count_65 : decode cX11_count 65 = .ok (.getfield 42, 3) := by decide +kernel
theorem dX11_count_68 : decode cX11_count 68 = .ok (.getfield 131, 3) := by decide +kernel
theorem dX11_count_71 : decode cX11_count 71 = .ok (.ireturn, 1) := by decide +kernel
theorem dX11_count_72 : decode cX11_count 72 = .ok (.aload_n 0, 1) := by decide +kernel
theorem dX11_count_73 : decode cX11_count 73 = .ok (.getfield 42, 3) := by decide +kernel
theorem dX11_count_76 : decode cX11_count 76 = .ok (.getfield 220, 3) := by decide +kernel
theorem dX11_count_79 : decode cX11_count 79 = .ok (.ireturn, 1) := by decide +kernel
theorem dX11_count_80 : decode cX11_count 80 = .ok (.aload_n 0, 1) := by decide +kernel
theorem dX11_count_81 : decode cX11_count 81 = .ok (.getfield 35, 3) := by decide +kernel
theorem dX11_count_84 : decode cX11_count 84 = .ok (.invokevirtual 134, 3) := by decide +kernel
theorem dX11_count_87 : decode cX11_count 87 = .ok (.ireturn, 1) := by decide +kernel
theorem dX11_count_88 : decode cX11_count 88 = .ok (.aload_n 0, 1) := by decide +kernel
theorem dX11_count_89 : decode cX11_count 89 = .ok (.getfield 10, 3) := by decide +kernel
theorem dX11_count_92 : decode cX11_count 92 = .ok (.getfield 109, 3) := by decide +kernel
theorem dX11_count_95 : decode cX11_count 95 = .ok (.ireturn, 1) := by decide +kernel
theorem dX11_count_96 : decode cX11_count 96 = .ok (.aload_n 0, 1) := by decide +kernel
theorem dX11_count_97 : decode cX11_count 97 = .ok (.getfield 49, 3) := by decide +kernel
theorem dX11_count_100 : decode cX11_count 100 = .ok (.getfield 153, 3) := by decide +kernel
theorem dX11_count_103 : decode cX11_count 103 = .ok (.ireturn, 1) := by decide +kernel
theorem dX11_count_104 : decode cX11_count 104 = .ok (.aload_n 0, 1) := by decide +kernel
theorem dX11_count_105 : decode cX11_count 105 = .ok (.getfield 42, 3) := by decide +kernel
theorem dX11_count_108 : decode cX11_count 108 = .ok (.getfield 223, 3) := by decide +kernel
theorem dX11_count_111 : decode cX11_count 111 = .ok (.ireturn, 1) := by decide +kernel
theorem dX11_count_112 : decode cX11_count 112 = .ok (.aload_n 0, 1) := by decide +kernel
theorem dX11_count_113 : decode cX11_count 113 = .ok (.getfield 70, 3) := by decide +kernel
theorem dX11_count_116 : decode cX11_count 116 = .ok (.getfield 226, 3) := by decide +kernel
theorem dX11_count_119 : decode cX11_count 119 = .ok (.ireturn, 1) := by decide +kernel
theorem dX11_count_120 : decode cX11_count 120 = .ok (.aload_n 0, 1) := by decide +kernel
theorem dX11_count_121 : decode cX11_count 121 = .ok (.getfield 63, 3) := by decide +kernel
theorem dX11_count_124 : decode cX11_count 124 = .ok (.getfield 229, 3) := by decide +kernel
theorem dX11_count_127 : decode cX11_count 127 = .ok (.ireturn, 1) := by decide +kernel
theorem dX11_count_128 : decode cX11_count 128 = .ok (.aload_n 0, 1) := by decide +kernel
theorem dX11_count_129 : decode cX11_count 129 = .ok (.getfield 49, 3) := by decide +kernel
theorem dX11_count_132 : decode cX11_count 132 = .ok (.getfield 156, 3) := by decide +kernel
theorem dX11_count_135 : decode cX11_count 135 = .ok (.ireturn, 1) := by decide +kernel
theorem dX11_count_136 : decode cX11_count 136 = .ok (.ldc 230, 2) := by decide +kernel
theorem dX11_count_138 : decode cX11_count 138 = .ok (.ireturn, 1) := by decide +kernel
set_option maxRecDepth 100000 in
theorem c_X11_count {n : Nat} {F : Int32 → sm_MI → sm_ML → Prop} {T : List sm_Sh} {I : sm_MI} {L : sm_ML} {a1 : Int32} (hB : sm_Bs T) {e0 : Nat} (h23 : T[23]? = some (.inr (0, [.int 0, .ref e0, .int 0])))
    (h : (a1 = 0 → F (I 24 0) I L) ∧ (a1 = 1 → F (I 24 1) I L) ∧ (a1 = 2 → F (I 24 2) I L) ∧ (a1 = 3 → sm_CI n mJx4a65c_size_8abf5 T I L [.ref 23] (fun r2 I1 L1 => F r2 I1 L1)) ∧ (a1 = 4 → F (I 1 1) I L) ∧ (a1 = 5 → F (I 35 1) I L) ∧ (a1 = 6 → F (I 24 4) I L) ∧ (a1 = 7 → F (I 44 4) I L) ∧ (a1 = 8 → F (I 37 4) I L) ∧ (a1 = 9 → F (I 35 2) I L) ∧ (¬ a1 = 0 ∧ ¬ a1 = 1 ∧ ¬ a1 = 2 ∧ ¬ a1 = 3 ∧ ¬ a1 = 4 ∧ ¬ a1 = 5 ∧ ¬ a1 = 6 ∧ ¬ a1 = 7 ∧ ¬ a1 = 8 ∧ ¬ a1 = 9 → F (-1000000) I L)) :
    sm_CI (n + 1) mX11_count T I L [.ref 0, .int a1] F :=
  sm_CI.of (by decide +kernel) rfl (fun x hx => show sm_V x 0 0 T I L 0 [some (.ref 0), some (.int a1)] [] from
  sm_iload_n (z := a1) hx dX11_count_0 rfl (sm_tsw (a := a1) hx dX11_count_1 (by decide) (fun i hi q1 => match i, hi, q1 with | 0, _, q1 => ⟨55, 56, rfl, by decide, sm_aload_n (z := 0) hx dX11_count_56 rfl (sm_getR hx dX11_count_57 fl_X11_42_11 (t_0 hB) rfl (sm_getI hx dX11_count_60 fl_X11_217_8 (t_24 hB) rfl (sm_iretI hx dX11_count_63 rfl (h.1 (sm_ti q1 (by decide))))))⟩ | 1, _, q1 => ⟨63, 64, rfl, by decide, sm_aload_n (z := 0) hx dX11_count_64 rfl (sm_getR hx dX11_count_65 fl_X11_42_11 (t_0 hB) rfl (sm_getI hx dX11_count_68 fl_X11_131_8 (t_24 hB) rfl (sm_iretI hx dX11_count_71 rfl (h.2.1 (sm_ti q1 (by decide))))))⟩ | 2, _, q1 => ⟨71, 72, rfl, by decide, sm_aload_n (z := 0) hx dX11_count_72 rfl (sm_getR hx dX11_count_73 fl_X11_42_11 (t_0 hB) rfl (sm_getI hx dX11_count_76 fl_X11_220_8 (t_24 hB) rfl (sm_iretI hx dX11_count_79 rfl (h.2.2.1 (sm_ti q1 (by decide))))))⟩ | 3, _, q1 => ⟨79, 80, rfl, by decide, sm_aload_n (z := 0) hx dX11_count_80 rfl (sm_getR hx dX11_count_81 fl_X11_35_11 (t_0 hB) rfl (sm_callVI (args := []) (st := []) hx dX11_count_84 lv_X11_134_0 rfl rfl h23 rfl rfl (h.2.2.2.1 (sm_ti q1 (by decide))) (fun r2 I1 L1 hI1 => sm_iretI hx dX11_count_87 rfl hI1)))⟩ | 4, _, q1 => ⟨87, 88, rfl, by decide, sm_aload_n (z := 0) hx dX11_count_88 rfl (sm_getR hx dX11_count_89 fl_X11_10_11 (t_0 hB) rfl (sm_getI hx dX11_count_92 fl_X11_109_10 (t_1 hB) rfl (sm_iretI hx dX11_count_95 rfl (h.2.2.2.2.1 (sm_ti q1 (by decide))))))⟩ | 5, _, q1 => ⟨95, 96, rfl, by decide, sm_aload_n (z := 0) hx dX11_count_96 rfl (sm_getR hx dX11_count_97 fl_X11_49_11 (t_0 hB) rfl (sm_getI hx dX11_count_100 fl_X11_153_7 (t_35 hB) rfl (sm_iretI hx dX11_count_103 rfl (h.2.2.2.2.2.1 (sm_ti q1 (by decide))))))⟩ | 6, _, q1 => ⟨103, 104, rfl, by decide, sm_aload_n (z := 0) hx dX11_count_104 rfl (sm_getR hx dX11_count_105 fl_X11_42_11 (t_0 hB) rfl (sm_getI hx dX11_count_108 fl_X11_223_8 (t_24 hB) rfl (sm_iretI hx dX11_count_111 rfl (h.2.2.2.2.2.2.1 (sm_ti q1 (by decide))))))⟩ | 7, _, q1 => ⟨111, 112, rfl, by decide, sm_aload_n (z := 0) hx dX11_count_112 rfl (sm_getR hx dX11_count_113 fl_X11_70_11 (t_0 hB) rfl (sm_getI hx dX11_count_116 fl_X11_226_6 (t_44 hB) rfl (sm_iretI hx dX11_count_119 rfl (h.2.2.2.2.2.2.2.1 (sm_ti q1 (by decide))))))⟩ | 8, _, q1 => ⟨119, 120, rfl, by decide, sm_aload_n (z := 0) hx dX11_count_120 rfl (sm_getR hx dX11_count_121 fl_X11_63_11 (t_0 hB) rfl (sm_getI hx dX11_count_124 fl_X11_229_2 (t_37 hB) rfl (sm_iretI hx dX11_count_127 rfl (h.2.2.2.2.2.2.2.2.1 (sm_ti q1 (by decide))))))⟩ | 9, _, q1 => ⟨127, 128, rfl, by decide, sm_aload_n (z := 0) hx dX11_count_128 rfl (sm_getR hx dX11_count_129 fl_X11_49_11 (t_0 hB) rfl (sm_getI hx dX11_count_132 fl_X11_156_7 (t_35 hB) rfl (sm_iretI hx dX11_count_135 rfl (h.2.2.2.2.2.2.2.2.2.1 (sm_ti q1 (by decide))))))⟩ | i + 10, hi, _ => absurd hi (Nat.not_lt.mpr (Nat.le_add_left 10 i))) (fun hhq1 => ⟨136, by decide, sm_ldc (v := (-1000000)) hx dX11_count_136 k_X11_230 (sm_iretI hx dX11_count_138 rfl (h.2.2.2.2.2.2.2.2.2.2 ⟨fun e => hhq1 0 (by decide) (by rw [e]; decide), fun e => hhq1 1 (by decide) (by rw [e]; decide), fun e => hhq1 2 (by decide) (by rw [e]; decide), fun e => hhq1 3 (by decide) (by rw [e]; decide), fun e => hhq1 4 (by decide) (by rw [e]; decide), fun e => hhq1 5 (by decide) (by rw [e]; decide), fun e => hhq1 6 (by decide) (by rw [e]; decide), fun e => hhq1 7 (by decide) (by rw [e]; decide), fun e => hhq1 8 (by decide) (by rw [e]; decide), fun e => hhq1 9 (by decide) (by rw [e]; decide)⟩))⟩)))
theorem dX11_rule_0 : decode cX11_rule 0 = .ok (.aload_n 0, 1) := by decide +kernel
theorem dX11_rule_1 : decode cX11_rule 1 = .ok (.getfield 42, 3) := by decide +kernel
theorem dX11_rule_4 : decode cX11_rule 4 = .ok (.iload_n 1, 1) := by decide +kernel
theorem dX11_rule_5 : decode cX11_rule 5 = .ok (.invokevirtual 163, 3) := by decide +kernel
theorem dX11_rule_8 : decode cX11_rule 8 = .ok (.ifCond .eq 20, 3) := by decide +kernel
theorem dX11_rule_11 : decode cX11_rule 11 = .ok (.iload_n 2, 1) := by decide +kernel
theorem dX11_rule_12 : decode cX11_rule 12 = .ok (.iconst (-1), 1) := by decide +kernel
theorem dX11_rule_13 : decode cX11_rule 13 = .ok (.aload_n 0, 1) := by decide +kernel
theorem dX11_rule_14 : decode cX11_rule 14 = .ok (.getfield 35, 3) := by decide +kernel
theorem dX11_rule_17 : decode cX11_rule 17 = .ok (.invokevirtual 134, 3) := by decide +kernel
theorem dX11_rule_20 : decode cX11_rule 20 = .ok (.iconst 1, 1) := by decide +kernel
theorem dX11_rule_21 : decode cX11_rule 21 = .ok (.isub, 1) := by decide +kernel
theorem dX11_rule_22 : decode cX11_rule 22 = .ok (.invokestatic 115, 3) := by decide +kernel
theorem dX11_rule_25 : decode cX11_rule 25 = .ok (.ifCond .ne 5, 3) := by decide +kernel
theorem dX11_rule_28 : decode cX11_rule 28 = .ok (.iconst 0, 1) := by decide +kernel
theorem dX11_rule_29 : decode cX11_rule 29 = .ok (.ireturn, 1) := by decide +kernel
theorem dX11_rule_30 : decode cX11_rule 30 = .ok (.aload_n 0, 1) := by decide +kernel
theorem dX11_rule_31 : decode cX11_rule 31 = .ok (.getfield 42, 3) := by decide +kernel
theorem dX11_rule_34 : decode cX11_rule 34 = .ok (.getfield 189, 3) := by decide +kernel
theorem dX11_rule_37 : decode cX11_rule 37 = .ok (.iload_n 1, 1) := by decide +kernel
theorem dX11_rule_38 : decode cX11_rule 38 = .ok (.iload_n 2, 1) := by decide +kernel
theorem dX11_rule_39 : decode cX11_rule 39 = .ok (.invokevirtual 231, 3) := by decide +kernel
theorem dX11_rule_42 : decode cX11_rule 42 = .ok (.aload_n 0, 1) := by decide +kernel
theorem dX11_rule_43 : decode cX11_rule 43 = .ok (.getfield 79, 3) := by decide +kernel
theorem dX11_rule_46 : decode cX11_rule 46 = .ok (.invokevirtual 235, 3) := by decide +kernel
theorem dX11_rule_49 : decode cX11_rule 49 = .ok (.iconst 1, 1) := by decide +kernel
theorem dX11_rule_50 : decode cX11_rule 50 = .ok (.ireturn, 1) := by decide +kernel
set_option maxRecDepth 100000 in
theorem c_X11_rule {n : Nat} {F : Bool → sm_MI → sm_ML → Prop} {T : List sm_Sh} {I : sm_MI} {L : sm_ML} {a1 : Int32} {a2 : Int32} (hB : sm_Bs T) {e0 : Nat} (h23 : T[23]? = some (.inr (0, [.int 0, .ref e0, .int 0])))
    (h : sm_CZ n mX8_hasSleeper T I L [.ref 24, .int a1] (fun r2 I1 L1 => (r2 = false → F false I1 L1) ∧ (r2 = true → sm_CI n mJx4a65c_size_8abf5 T I1 L1 [.ref 23] (fun r4 I3 L3 => sm_CZ n mX11_within T I3 L3 [.int a2, .int (-1), .int (r4 - 1)] (fun r6 I5 L5 => (r6 = true → sm_CV n mX3_set T I5 L5 [.ref 33, .int a1, .int a2] (fun I7 L7 => sm_CV n mX0_forgetWorths T I7 L7 [.ref 53] (fun I8 L8 => F true I8 L8))) ∧ (r6 = false → F false I5 L5)))))) :
    sm_CZ (n + 1) mX11_rule T I L [.ref 0, .int a1, .int a2] F :=
  sm_CZ.of (by decide +kernel) rfl (fun x hx => show sm_V x 0 0 T I L 0 [some (.ref 0), some (.int a1), some (.int a2)] [] from
  sm_aload_n (z := 0) hx dX11_rule_0 rfl (sm_getR hx dX11_rule_1 fl_X11_42_11 (t_0 hB) rfl (sm_iload_n (z := a1) hx dX11_rule_4 rfl (sm_callVZ (args := [.int a1]) (st := []) hx dX11_rule_5 lv_X11_163_8 rfl rfl (t_24 hB) rfl rfl h (fun r2 I1 L1 hI1 => sm_ifeqZ (b := r2) hx dX11_rule_8 (tgt := 28) (by decide) (fun q2 => sm_iconst (v := 0) hx dX11_rule_28 sm_kc_0 (sm_iretZ (z := false) hx dX11_rule_29 rfl (hI1.1 q2))) (fun q2 => sm_iload_n (z := a2) hx dX11_rule_11 rfl (sm_iconst (v := (-1)) hx dX11_rule_12 sm_kc_m1 (sm_aload_n (z := 0) hx dX11_rule_13 rfl (sm_getR hx dX11_rule_14 fl_X11_35_11 (t_0 hB) rfl (sm_callVI (args := []) (st := [.int (-1), .int a2]) hx dX11_rule_17 lv_X11_134_0 rfl rfl h23 rfl rfl (hI1.2 q2) (fun r4 I3 L3 hI3 => sm_iconst (v := 1) hx dX11_rule_20 sm_kc_1 (sm_isub (a := r4) (b := 1) hx dX11_rule_21 (sm_callSZ (args := [.int a2, .int (-1), .int (r4 - 1)]) (st := []) hx dX11_rule_22 ls_X11_115 rfl rfl rfl hI3 (fun r6 I5 L5 hI5 => sm_ifneZ (b := r6) hx dX11_rule_25 (tgt := 30) (by decide) (fun q1 => sm_aload_n (z := 0) hx dX11_rule_30 rfl (sm_getR hx dX11_rule_31 fl_X11_42_11 (t_0 hB) rfl (sm_getR hx dX11_rule_34 fl_X11_189_8 (t_24 hB) rfl (sm_iload_n (z := a1) hx dX11_rule_37 rfl (sm_iload_n (z := a2) hx dX11_rule_38 rfl (sm_callVV (args := [.int a1, .int a2]) (st := []) hx dX11_rule_39 lv_X11_231_3 rfl rfl (t_33 hB) rfl rfl (hI5.1 q1) (fun I7 L7 hI7 => sm_aload_n (z := 0) hx dX11_rule_42 rfl (sm_getR hx dX11_rule_43 fl_X11_79_11 (t_0 hB) rfl (sm_callVV (args := []) (st := []) hx dX11_rule_46 lv_X11_235_1 rfl rfl (t_53 hB) rfl rfl hI7 (fun I8 L8 hI8 => sm_iconst (v := 1) hx dX11_rule_49 sm_kc_1 (sm_iretZ (z := true) hx dX11_rule_50 rfl hI8))))))))))) (fun q1 => sm_iconst (v := 0) hx dX11_rule_28 sm_kc_0 (sm_iretZ (z := false) hx dX11_rule_29 rfl (hI5.2 q1)))))))))))))))))
theorem dX11_risk_0 : decode cX11_risk 0 = .ok (.iload_n 1, 1) := by decide +kernel
theorem dX11_risk_1 : decode cX11_risk 1 = .ok (.iconst 0, 1) := by decide +kernel
theorem dX11_risk_2 : decode cX11_risk 2 = .ok (.bipush 100, 2) := by decide +kernel
theorem dX11_risk_4 : decode cX11_risk 4 = .ok (.invokestatic 115, 3) := by decide +kernel
theorem dX11_risk_7 : decode cX11_risk 7 = .ok (.ifCond .ne 5, 3) := by decide +kernel
theorem dX11_risk_10 : decode cX11_risk 10 = .ok (.iconst 0, 1) := by decide +kernel
theorem dX11_risk_11 : decode cX11_risk 11 = .ok (.ireturn, 1) := by decide +kernel
theorem dX11_risk_12 : decode cX11_risk 12 = .ok (.aload_n 0, 1) := by decide +kernel
theorem dX11_risk_13 : decode cX11_risk 13 = .ok (.iload_n 1, 1) := by decide +kernel
theorem dX11_risk_14 : decode cX11_risk 14 = .ok (.putfield 83, 3) := by decide +kernel
theorem dX11_risk_17 : decode cX11_risk 17 = .ok (.iconst 1, 1) := by decide +kernel
theorem dX11_risk_18 : decode cX11_risk 18 = .ok (.ireturn, 1) := by decide +kernel
set_option maxRecDepth 100000 in
theorem c_X11_risk {n : Nat} {F : Bool → sm_MI → sm_ML → Prop} {T : List sm_Sh} {I : sm_MI} {L : sm_ML} {a1 : Int32} (hB : sm_Bs T)
    (h : sm_CZ n mX11_within T I L [.int a1, .int 0, .int 100] (fun r2 I1 L1 => (r2 = true → F true (sm_uI I1 0 11 a1) L1) ∧ (r2 = false → F false I1 L1))) :
    sm_CZ (n + 1) mX11_risk T I L [.ref 0, .int a1] F :=
  sm_CZ.of (by decide +kernel) rfl (fun x hx => show sm_V x 0 0 T I L 0 [some (.ref 0), some (.int a1)] [] from
  sm_iload_n (z := a1) hx dX11_risk_0 rfl (sm_iconst (v := 0) hx dX11_risk_1 sm_kc_0 (sm_bipush (v := 100) hx dX11_risk_2 sm_kb_100 (sm_callSZ (args := [.int a1, .int 0, .int 100]) (st := []) hx dX11_risk_4 ls_X11_115 rfl rfl rfl h (fun r2 I1 L1 hI1 => sm_ifneZ (b := r2) hx dX11_risk_7 (tgt := 12) (by decide) (fun q1 => sm_aload_n (z := 0) hx dX11_risk_12 rfl (sm_iload_n (z := a1) hx dX11_risk_13 rfl (sm_putI hx dX11_risk_14 fl_X11_83_11 (t_0 hB) rfl (sm_iconst (v := 1) hx dX11_risk_17 sm_kc_1 (sm_iretZ (z := true) hx dX11_risk_18 rfl (hI1.1 q1)))))) (fun q1 => sm_iconst (v := 0) hx dX11_risk_10 sm_kc_0 (sm_iretZ (z := false) hx dX11_risk_11 rfl (hI1.2 q1))))))))
theorem dX11_seed_0 : decode cX11_seed 0 = .ok (.aload_n 0, 1) := by decide +kernel
theorem dX11_seed_1 : decode cX11_seed 1 = .ok (.getfield 49, 3) := by decide +kernel
theorem dX11_seed_4 : decode cX11_seed 4 = .ok (.lload_n 1, 1) := by decide +kernel
theorem dX11_seed_5 : decode cX11_seed 5 = .ok (.putfield 238, 3) := by decide +kernel
theorem dX11_seed_8 : decode cX11_seed 8 = .ok (.iconst 1, 1) := by decide +kernel
theorem dX11_seed_9 : decode cX11_seed 9 = .ok (.ireturn, 1) := by decide +kernel
set_option maxRecDepth 100000 in
theorem c_X11_seed {n : Nat} {F : Bool → sm_MI → sm_ML → Prop} {T : List sm_Sh} {I : sm_MI} {L : sm_ML} {l1 : Int64} (hB : sm_Bs T)
    (h : F true I (sm_uL L 35 3 l1)) :
    sm_CZ n mX11_seed T I L [.ref 0, .long l1] F :=
  sm_CZ.of (by decide +kernel) rfl (fun x hx => show sm_V x 0 0 T I L 0 [some (.ref 0), some (.long l1), none] [] from
  sm_aload_n (z := 0) hx dX11_seed_0 rfl (sm_getR hx dX11_seed_1 fl_X11_49_11 (t_0 hB) rfl (sm_lload_n (z := l1) hx dX11_seed_4 rfl (sm_putL hx dX11_seed_5 fl_X11_238_7 (t_35 hB) rfl (sm_iconst (v := 1) hx dX11_seed_8 sm_kc_1 (sm_iretZ (z := true) hx dX11_seed_9 rfl h))))))
theorem dX11_put_0 : decode cX11_put 0 = .ok (.aload_n 0, 1) := by decide +kernel
theorem dX11_put_1 : decode cX11_put 1 = .ok (.getfield 42, 3) := by decide +kernel
theorem dX11_put_4 : decode cX11_put 4 = .ok (.iload_n 1, 1) := by decide +kernel
theorem dX11_put_5 : decode cX11_put 5 = .ok (.invokevirtual 194, 3) := by decide +kernel
theorem dX11_put_8 : decode cX11_put 8 = .ok (.ifCond .eq 29, 3) := by decide +kernel
theorem dX11_put_11 : decode cX11_put 11 = .ok (.aload_n 0, 1) := by decide +kernel
theorem dX11_put_12 : decode cX11_put 12 = .ok (.getfield 42, 3) := by decide +kernel
theorem dX11_put_15 : decode cX11_put 15 = .ok (.iload_n 2, 1) := by decide +kernel
theorem dX11_put_16 : decode cX11_put 16 = .ok (.invokevirtual 201, 3) := by decide +kernel
theorem dX11_put_19 : decode cX11_put 19 = .ok (.ifCond .eq 18, 3) := by decide +kernel
theorem dX11_put_22 : decode cX11_put 22 = .ok (.aload_n 0, 1) := by decide +kernel
theorem dX11_put_23 : decode cX11_put 23 = .ok (.getfield 49, 3) := by decide +kernel
theorem dX11_put_26 : decode cX11_put 26 = .ok (.getfield 150, 3) := by decide +kernel
theorem dX11_put_29 : decode cX11_put 29 = .ok (.iload_n 1, 1) := by decide +kernel
theorem dX11_put_30 : decode cX11_put 30 = .ok (.invokestatic 197, 3) := by decide +kernel
theorem dX11_put_33 : decode cX11_put 33 = .ok (.iload_n 2, 1) := by decide +kernel
theorem dX11_put_34 : decode cX11_put 34 = .ok (.if_icmp .ne 5, 3) := by decide +kernel
theorem dX11_put_37 : decode cX11_put 37 = .ok (.iconst 0, 1) := by decide +kernel
theorem dX11_put_38 : decode cX11_put 38 = .ok (.ireturn, 1) := by decide +kernel
theorem dX11_put_39 : decode cX11_put 39 = .ok (.aload_n 0, 1) := by decide +kernel
theorem dX11_put_40 : decode cX11_put 40 = .ok (.getfield 49, 3) := by decide +kernel
theorem dX11_put_43 : decode cX11_put 43 = .ok (.aload_n 0, 1) := by decide +kernel
theorem dX11_put_44 : decode cX11_put 44 = .ok (.getfield 49, 3) := by decide +kernel
theorem dX11_put_47 : decode cX11_put 47 = .ok (.getfield 150, 3) := by decide +kernel
theorem dX11_put_50 : decode cX11_put 50 = .ok (.iload_n 1, 1) := by decide +kernel
theorem dX11_put_51 : decode cX11_put 51 = .ok (.iload_n 2, 1) := by decide +kernel
theorem dX11_put_52 : decode cX11_put 52 = .ok (.invokestatic 242, 3) := by decide +kernel
theorem dX11_put_55 : decode cX11_put 55 = .ok (.putfield 150, 3) := by decide +kernel
theorem dX11_put_58 : decode cX11_put 58 = .ok (.iconst 1, 1) := by decide +kernel
theorem dX11_put_59 : decode cX11_put 59 = .ok (.ireturn, 1) := by decide +kernel
set_option maxRecDepth 100000 in
theorem c_X11_put {n : Nat} {F : Bool → sm_MI → sm_ML → Prop} {T : List sm_Sh} {I : sm_MI} {L : sm_ML} {a1 : Int32} {a2 : Int32} (hB : sm_Bs T)
    (h : sm_CZ n mX8_hasThing T I L [.ref 24, .int a1] (fun r2 I1 L1 => (r2 = false → F false I1 L1) ∧ (r2 = true → sm_CZ n mX8_hasHouse T I1 L1 [.ref 24, .int a2] (fun r4 I3 L3 => (r4 = false → F false I3 L3) ∧ (r4 = true → sm_CI n mX11_placeIn T I3 L3 [.int (I3 35 0), .int a1] (fun r6 I5 L5 => (¬ r6 = a2 → sm_CI n mX11_placed T I5 L5 [.int (I5 35 0), .int a1, .int a2] (fun r8 I7 L7 => F true (sm_uI I7 35 0 r8) L7)) ∧ (r6 = a2 → F false I5 L5))))))) :
    sm_CZ (n + 1) mX11_put T I L [.ref 0, .int a1, .int a2] F :=
  sm_CZ.of (by decide +kernel) rfl (fun x hx => show sm_V x 0 0 T I L 0 [some (.ref 0), some (.int a1), some (.int a2)] [] from
  sm_aload_n (z := 0) hx dX11_put_0 rfl (sm_getR hx dX11_put_1 fl_X11_42_11 (t_0 hB) rfl (sm_iload_n (z := a1) hx dX11_put_4 rfl (sm_callVZ (args := [.int a1]) (st := []) hx dX11_put_5 lv_X11_194_8 rfl rfl (t_24 hB) rfl rfl h (fun r2 I1 L1 hI1 => sm_ifeqZ (b := r2) hx dX11_put_8 (tgt := 37) (by decide) (fun q3 => sm_iconst (v := 0) hx dX11_put_37 sm_kc_0 (sm_iretZ (z := false) hx dX11_put_38 rfl (hI1.1 q3))) (fun q3 => sm_aload_n (z := 0) hx dX11_put_11 rfl (sm_getR hx dX11_put_12 fl_X11_42_11 (t_0 hB) rfl (sm_iload_n (z := a2) hx dX11_put_15 rfl (sm_callVZ (args := [.int a2]) (st := []) hx dX11_put_16 lv_X11_201_8 rfl rfl (t_24 hB) rfl rfl (hI1.2 q3) (fun r4 I3 L3 hI3 => sm_ifeqZ (b := r4) hx dX11_put_19 (tgt := 37) (by decide) (fun q2 => sm_iconst (v := 0) hx dX11_put_37 sm_kc_0 (sm_iretZ (z := false) hx dX11_put_38 rfl (hI3.1 q2))) (fun q2 => sm_aload_n (z := 0) hx dX11_put_22 rfl (sm_getR hx dX11_put_23 fl_X11_49_11 (t_0 hB) rfl (sm_getI hx dX11_put_26 fl_X11_150_7 (t_35 hB) rfl (sm_iload_n (z := a1) hx dX11_put_29 rfl (sm_callSI (args := [.int (I3 35 0), .int a1]) (st := []) hx dX11_put_30 ls_X11_197 rfl rfl rfl (hI3.2 q2) (fun r6 I5 L5 hI5 => sm_iload_n (z := a2) hx dX11_put_33 rfl (sm_icmpne (a := r6) (b := a2) hx dX11_put_34 (tgt := 39) (by decide) (fun q1 => sm_aload_n (z := 0) hx dX11_put_39 rfl (sm_getR hx dX11_put_40 fl_X11_49_11 (t_0 hB) rfl (sm_aload_n (z := 0) hx dX11_put_43 rfl (sm_getR hx dX11_put_44 fl_X11_49_11 (t_0 hB) rfl (sm_getI hx dX11_put_47 fl_X11_150_7 (t_35 hB) rfl (sm_iload_n (z := a1) hx dX11_put_50 rfl (sm_iload_n (z := a2) hx dX11_put_51 rfl (sm_callSI (args := [.int (I5 35 0), .int a1, .int a2]) (st := [.ref 35]) hx dX11_put_52 ls_X11_242 rfl rfl rfl (hI5.1 q1) (fun r8 I7 L7 hI7 => sm_putI hx dX11_put_55 fl_X11_150_7 (t_35 hB) rfl (sm_iconst (v := 1) hx dX11_put_58 sm_kc_1 (sm_iretZ (z := true) hx dX11_put_59 rfl hI7))))))))))) (fun q1 => sm_iconst (v := 0) hx dX11_put_37 sm_kc_0 (sm_iretZ (z := false) hx dX11_put_38 rfl (hI5.2 q1))))))))))))))))))))
theorem dX11_lock_0 : decode cX11_lock 0 = .ok (.aload_n 0, 1) := by decide +kernel
theorem dX11_lock_1 : decode cX11_lock 1 = .ok (.getfield 42, 3) := by decide +kernel
theorem dX11_lock_4 : decode cX11_lock 4 = .ok (.iload_n 1, 1) := by decide +kernel
theorem dX11_lock_5 : decode cX11_lock 5 = .ok (.invokevirtual 201, 3) := by decide +kernel
theorem dX11_lock_8 : decode cX11_lock 8 = .ok (.ifCond .eq 27, 3) := by decide +kernel
theorem dX11_lock_11 : decode cX11_lock 11 = .ok (.aload_n 0, 1) := by decide +kernel
theorem dX11_lock_12 : decode cX11_lock 12 = .ok (.getfield 49, 3) := by decide +kernel
theorem dX11_lock_15 : decode cX11_lock 15 = .ok (.getfield 156, 3) := by decide +kernel
theorem dX11_lock_18 : decode cX11_lock 18 = .ok (.iload_n 1, 1) := by decide +kernel
theorem dX11_lock_19 : decode cX11_lock 19 = .ok (.invokestatic 207, 3) := by decide +kernel
theorem dX11_lock_22 : decode cX11_lock 22 = .ok (.iconst 1, 1) := by decide +kernel
theorem dX11_lock_23 : decode cX11_lock 23 = .ok (.if_icmp .ne 7, 3) := by decide +kernel
theorem dX11_lock_26 : decode cX11_lock 26 = .ok (.iconst 1, 1) := by decide +kernel
theorem dX11_lock_27 : decode cX11_lock 27 = .ok (.goto 4, 3) := by decide +kernel
theorem dX11_lock_30 : decode cX11_lock 30 = .ok (.iconst 0, 1) := by decide +kernel
theorem dX11_lock_31 : decode cX11_lock 31 = .ok (.iload_n 2, 1) := by decide +kernel
theorem dX11_lock_32 : decode cX11_lock 32 = .ok (.if_icmp .ne 5, 3) := by decide +kernel
theorem dX11_lock_35 : decode cX11_lock 35 = .ok (.iconst 0, 1) := by decide +kernel
theorem dX11_lock_36 : decode cX11_lock 36 = .ok (.ireturn, 1) := by decide +kernel
theorem dX11_lock_37 : decode cX11_lock 37 = .ok (.aload_n 0, 1) := by decide +kernel
theorem dX11_lock_38 : decode cX11_lock 38 = .ok (.getfield 49, 3) := by decide +kernel
theorem dX11_lock_41 : decode cX11_lock 41 = .ok (.dup, 1) := by decide +kernel
theorem dX11_lock_42 : decode cX11_lock 42 = .ok (.getfield 156, 3) := by decide +kernel
theorem dX11_lock_45 : decode cX11_lock 45 = .ok (.iconst 1, 1) := by decide +kernel
theorem dX11_lock_46 : decode cX11_lock 46 = .ok (.iload_n 1, 1) := by decide +kernel
theorem dX11_lock_47 : decode cX11_lock 47 = .ok (.ishl, 1) := by decide +kernel
theorem dX11_lock_48 : decode cX11_lock 48 = .ok (.ixor, 1) := by decide +kernel
theorem dX11_lock_49 : decode cX11_lock 49 = .ok (.putfield 156, 3) := by decide +kernel
theorem dX11_lock_52 : decode cX11_lock 52 = .ok (.iconst 1, 1) := by decide +kernel
theorem dX11_lock_53 : decode cX11_lock 53 = .ok (.ireturn, 1) := by decide +kernel
set_option maxRecDepth 100000 in
theorem c_X11_lock {n : Nat} {F : Bool → sm_MI → sm_ML → Prop} {T : List sm_Sh} {I : sm_MI} {L : sm_ML} {a1 : Int32} {b2 : Bool} (hB : sm_Bs T)
    (h : sm_CZ n mX8_hasHouse T I L [.ref 24, .int a1] (fun r2 I1 L1 => (r2 = false → F false I1 L1) ∧ (r2 = true → sm_CI n mX11_bitOf T I1 L1 [.int (I1 35 2), .int a1] (fun r4 I3 L3 => (¬ r4 = 1 → (¬ 0 = (sm_z b2) → F true (sm_uI I3 35 2 ((I3 35 2) ^^^ (1 <<< (a1 &&& 31)))) L3) ∧ (0 = (sm_z b2) → F false I3 L3)) ∧ (r4 = 1 → (¬ 1 = (sm_z b2) → F true (sm_uI I3 35 2 ((I3 35 2) ^^^ (1 <<< (a1 &&& 31)))) L3) ∧ (1 = (sm_z b2) → F false I3 L3)))))) :
    sm_CZ (n + 1) mX11_lock T I L [.ref 0, .int a1, .int (sm_z b2)] F :=
  sm_CZ.of (by decide +kernel) rfl (fun x hx => show sm_V x 0 0 T I L 0 [some (.ref 0), some (.int a1), some (.int (sm_z b2))] [] from
  sm_aload_n (z := 0) hx dX11_lock_0 rfl (sm_getR hx dX11_lock_1 fl_X11_42_11 (t_0 hB) rfl (sm_iload_n (z := a1) hx dX11_lock_4 rfl (sm_callVZ (args := [.int a1]) (st := []) hx dX11_lock_5 lv_X11_201_8 rfl rfl (t_24 hB) rfl rfl h (fun r2 I1 L1 hI1 => sm_ifeqZ (b := r2) hx dX11_lock_8 (tgt := 35) (by decide) (fun q4 => sm_iconst (v := 0) hx dX11_lock_35 sm_kc_0 (sm_iretZ (z := false) hx dX11_lock_36 rfl (hI1.1 q4))) (fun q4 => sm_aload_n (z := 0) hx dX11_lock_11 rfl (sm_getR hx dX11_lock_12 fl_X11_49_11 (t_0 hB) rfl (sm_getI hx dX11_lock_15 fl_X11_156_7 (t_35 hB) rfl (sm_iload_n (z := a1) hx dX11_lock_18 rfl (sm_callSI (args := [.int (I1 35 2), .int a1]) (st := []) hx dX11_lock_19 ls_X11_207 rfl rfl rfl (hI1.2 q4) (fun r4 I3 L3 hI3 => sm_iconst (v := 1) hx dX11_lock_22 sm_kc_1 (sm_icmpne (a := r4) (b := 1) hx dX11_lock_23 (tgt := 30) (by decide) (fun q3 => sm_iconst (v := 0) hx dX11_lock_30 sm_kc_0 (sm_iload_n (z := (sm_z b2)) hx dX11_lock_31 rfl (sm_icmpne (a := 0) (b := (sm_z b2)) hx dX11_lock_32 (tgt := 37) (by decide) (fun q1 => sm_aload_n (z := 0) hx dX11_lock_37 rfl (sm_getR hx dX11_lock_38 fl_X11_49_11 (t_0 hB) rfl (sm_dup hx dX11_lock_41 rfl (sm_getI hx dX11_lock_42 fl_X11_156_7 (t_35 hB) rfl (sm_iconst (v := 1) hx dX11_lock_45 sm_kc_1 (sm_iload_n (z := a1) hx dX11_lock_46 rfl (sm_ishl (a := 1) (b := a1) hx dX11_lock_47 (sm_ixor (a := (I3 35 2)) (b := (1 <<< (a1 &&& 31))) hx dX11_lock_48 (sm_putI hx dX11_lock_49 fl_X11_156_7 (t_35 hB) rfl (sm_iconst (v := 1) hx dX11_lock_52 sm_kc_1 (sm_iretZ (z := true) hx dX11_lock_53 rfl ((hI3.1 q3).1 q1)))))))))))) (fun q1 => sm_iconst (v := 0) hx dX11_lock_35 sm_kc_0 (sm_iretZ (z := false) hx dX11_lock_36 rfl ((hI3.1 q3).2 q1)))))) (fun q3 => sm_iconst (v := 1) hx dX11_lock_26 sm_kc_1 (sm_goto hx dX11_lock_27 (tgt := 31) (by decide) (sm_iload_n (z := (sm_z b2)) hx dX11_lock_31 rfl (sm_icmpne (a := 1) (b := (sm_z b2)) hx dX11_lock_32 (tgt := 37) (by decide) (fun q2 => sm_aload_n (z := 0) hx dX11_lock_37 rfl (sm_getR hx dX11_lock_38 fl_X11_49_11 (t_0 hB) rfl (sm_dup hx dX11_lock_41 rfl (sm_getI hx dX11_lock_42 fl_X11_156_7 (t_35 hB) rfl (sm_iconst (v := 1) hx dX11_lock_45 sm_kc_1 (sm_iload_n (z := a1) hx dX11_lock_46 rfl (sm_ishl (a := 1) (b := a1) hx dX11_lock_47 (sm_ixor (a := (I3 35 2)) (b := (1 <<< (a1 &&& 31))) hx dX11_lock_48 (sm_putI hx dX11_lock_49 fl_X11_156_7 (t_35 hB) rfl (sm_iconst (v := 1) hx dX11_lock_52 sm_kc_1 (sm_iretZ (z := true) hx dX11_lock_53 rfl ((hI3.2 q3).1 q2)))))))))))) (fun q2 => sm_iconst (v := 0) hx dX11_lock_35 sm_kc_0 (sm_iretZ (z := false) hx dX11_lock_36 rfl ((hI3.2 q3).2 q2)))))))))))))))))))
theorem dX11_nights_0 : decode cX11_nights 0 = .ok (.aload_n 0, 1) := by decide +kernel
theorem dX11_nights_1 : decode cX11_nights 1 = .ok (.getfield 42, 3) := by decide +kernel
theorem dX11_nights_4 : decode cX11_nights 4 = .ok (.invokevirtual 210, 3) := by decide +kernel
theorem dX11_nights_7 : decode cX11_nights 7 = .ok (.ifCond .eq 13, 3) := by decide +kernel
theorem dX11_nights_10 : decode cX11_nights 10 = .ok (.iload_n 1, 1) := by decide +kernel
theorem dX11_nights_11 : decode cX11_nights 11 = .ok (.iconst 1, 1) := by decide +kernel
theorem dX11_nights_12 : decode cX11_nights 12 = .ok (.bipush 60, 2) := by decide +kernel
theorem dX11_nights_14 : decode cX11_nights 14 = .ok (.invokestatic 115, 3) := by decide +kernel
theorem dX11_nights_17 : decode cX11_nights 17 = .ok (.ifCond .ne 5, 3) := by decide +kernel
theorem dX11_nights_20 : decode cX11_nights 20 = .ok (.iconst (-1), 1) := by decide +kernel
theorem dX11_nights_21 : decode cX11_nights 21 = .ok (.ireturn, 1) := by decide +kernel
theorem dX11_nights_22 : decode cX11_nights 22 = .ok (.iconst 0, 1) := by decide +kernel
theorem dX11_nights_23 : decode cX11_nights 23 = .ok (.istore_n 2, 1) := by decide +kernel
theorem dX11_nights_24 : decode cX11_nights 24 = .ok (.iload_n 2, 1) := by decide +kernel
theorem dX11_nights_25 : decode cX11_nights 25 = .ok (.iload_n 1, 1) := by decide +kernel
theorem dX11_nights_26 : decode cX11_nights 26 = .ok (.if_icmp .ge 60, 3) := by decide +kernel
theorem dX11_nights_29 : decode cX11_nights 29 = .ok (.aload_n 0, 1) := by decide +kernel
theorem dX11_nights_30 : decode cX11_nights 30 = .ok (.getfield 63, 3) := by decide +kernel
theorem dX11_nights_33 : decode cX11_nights 33 = .ok (.aload_n 0, 1) := by decide +kernel
theorem dX11_nights_34 : decode cX11_nights 34 = .ok (.getfield 49, 3) := by decide +kernel
theorem dX11_nights_37 : decode cX11_nights 37 = .ok (.invokevirtual 246, 3) := by decide +kernel
theorem dX11_nights_40 : decode cX11_nights 40 = .ok (.aload_n 0, 1) := by decide +kernel
theorem dX11_nights_41 : decode cX11_nights 41 = .ok (.getfield 79, 3) := by decide +kernel
theorem dX11_nights_44 : decode cX11_nights 44 = .ok (.aload_n 0, 1) := by decide +kernel
theorem dX11_nights_45 : decode cX11_nights 45 = .ok (.getfield 49, 3) := by decide +kernel
theorem dX11_nights_48 : decode cX11_nights 48 = .ok (.invokevirtual 250, 3) := by decide +kernel
theorem dX11_nights_51 : decode cX11_nights 51 = .ok (.aload_n 0, 1) := by decide +kernel
theorem dX11_nights_52 : decode cX11_nights 52 = .ok (.getfield 79, 3) := by decide +kernel
theorem dX11_nights_55 : decode cX11_nights 55 = .ok (.aload_n 0, 1) := by decide +kernel
theorem dX11_nights_56 : decode cX11_nights 56 = .ok (.getfield 83, 3) := by decide +kernel
theorem dX11_nights_59 : decode cX11_nights 59 = .ok (.putfield 253, 3) := by decide +kernel
theorem dX11_nights_62 : decode cX11_nights 62 = .ok (.aload_n 0, 1) := by decide +kernel
theorem dX11_nights_63 : decode cX11_nights 63 = .ok (.getfield 79, 3) := by decide +kernel
theorem dX11_nights_66 : decode cX11_nights 66 = .ok (.invokevirtual 254, 3) := by decide +kernel
theorem dX11_nights_69 : decode cX11_nights 69 = .ok (.aload_n 0, 1) := by decide +kernel
theorem dX11_nights_70 : decode cX11_nights 70 = .ok (.getfield 49, 3) := by decide +kernel
theorem dX11_nights_73 : decode cX11_nights 73 = .ok (.aload_n 0, 1) := by decide +kernel
theorem dX11_nights_74 : decode cX11_nights 74 = .ok (.getfield 79, 3) := by decide +kernel
theorem dX11_nights_77 : decode cX11_nights 77 = .ok (.invokevirtual 257, 3) := by decide +kernel
theorem dX11_nights_80 : decode cX11_nights 80 = .ok (.iinc 2 1, 3) := by decide +kernel
theorem dX11_nights_83 : decode cX11_nights 83 = .ok (.goto (-59), 3) := by decide +kernel
theorem dX11_nights_86 : decode cX11_nights 86 = .ok (.aload_n 0, 1) := by decide +kernel
theorem dX11_nights_87 : decode cX11_nights 87 = .ok (.getfield 49, 3) := by decide +kernel
theorem dX11_nights_90 : decode cX11_nights 90 = .ok (.getfield 153, 3) := by decide +kernel
theorem dX11_nights_93 : decode cX11_nights 93 = .ok (.ireturn, 1) := by decide +kernel
set_option maxRecDepth 100000 in
theorem u_X11_nights_24 {x : sm_Cx} {n : Nat} {F : Int32 → sm_MI → sm_ML → Prop} {T : List sm_Sh} {I : sm_MI} {L : sm_ML} {a1 : Int32} {a2 : Int32} (hB : sm_Bs T) (hx : sm_Ok x mX11_nights (n + 1) (sm_KI T F))
    (h : (a1 ≤ a2 → F (I 35 1) I L) ∧ (¬ a1 ≤ a2 → sm_CV n mX1_keep T I L [.ref 37, .ref 35] (fun I1 L1 => sm_CV n mX0_begin T I1 L1 [.ref 53, .ref 35] (fun I2 L2 => sm_CV n mX0_goOneNight T (sm_uI I2 53 9 (I2 0 11)) L2 [.ref 53] (fun I3 L3 => sm_CV n mX7_copy T I3 L3 [.ref 35, .ref 53] (fun I4 L4 => sm_V x 0 0 T I4 L4 24 [some (.ref 0), some (.int a1), some (.int (a2 + 1))] [])))))) :
    sm_V x 0 0 T I L 24 [some (.ref 0), some (.int a1), some (.int a2)] [] :=
  sm_iload_n (z := a2) hx dX11_nights_24 rfl (sm_iload_n (z := a1) hx dX11_nights_25 rfl (sm_icmpge (a := a2) (b := a1) hx dX11_nights_26 (tgt := 86) (by decide) (fun q1 => sm_aload_n (z := 0) hx dX11_nights_86 rfl (sm_getR hx dX11_nights_87 fl_X11_49_11 (t_0 hB) rfl (sm_getI hx dX11_nights_90 fl_X11_153_7 (t_35 hB) rfl (sm_iretI hx dX11_nights_93 rfl (h.1 q1))))) (fun q1 => sm_aload_n (z := 0) hx dX11_nights_29 rfl (sm_getR hx dX11_nights_30 fl_X11_63_11 (t_0 hB) rfl (sm_aload_n (z := 0) hx dX11_nights_33 rfl (sm_getR hx dX11_nights_34 fl_X11_49_11 (t_0 hB) rfl (sm_callVV (args := [.ref 35]) (st := []) hx dX11_nights_37 lv_X11_246_2 rfl rfl (t_37 hB) rfl rfl (h.2 q1) (fun I1 L1 hI1 => sm_aload_n (z := 0) hx dX11_nights_40 rfl (sm_getR hx dX11_nights_41 fl_X11_79_11 (t_0 hB) rfl (sm_aload_n (z := 0) hx dX11_nights_44 rfl (sm_getR hx dX11_nights_45 fl_X11_49_11 (t_0 hB) rfl (sm_callVV (args := [.ref 35]) (st := []) hx dX11_nights_48 lv_X11_250_1 rfl rfl (t_53 hB) rfl rfl hI1 (fun I2 L2 hI2 => sm_aload_n (z := 0) hx dX11_nights_51 rfl (sm_getR hx dX11_nights_52 fl_X11_79_11 (t_0 hB) rfl (sm_aload_n (z := 0) hx dX11_nights_55 rfl (sm_getI hx dX11_nights_56 fl_X11_83_11 (t_0 hB) rfl (sm_putI hx dX11_nights_59 fl_X11_253_1 (t_53 hB) rfl (sm_aload_n (z := 0) hx dX11_nights_62 rfl (sm_getR hx dX11_nights_63 fl_X11_79_11 (t_0 hB) rfl (sm_callVV (args := []) (st := []) hx dX11_nights_66 lv_X11_254_1 rfl rfl (t_53 hB) rfl rfl hI2 (fun I3 L3 hI3 => sm_aload_n (z := 0) hx dX11_nights_69 rfl (sm_getR hx dX11_nights_70 fl_X11_49_11 (t_0 hB) rfl (sm_aload_n (z := 0) hx dX11_nights_73 rfl (sm_getR hx dX11_nights_74 fl_X11_79_11 (t_0 hB) rfl (sm_callVV (args := [.ref 53]) (st := []) hx dX11_nights_77 lv_X11_257_7 rfl rfl (t_35 hB) rfl rfl hI3 (fun I4 L4 hI4 => sm_iinc (ls' := [some (.ref 0), some (.int a1), some (.int (a2 + 1))]) (z := a2) (v := (a2 + 1)) hx dX11_nights_80 rfl (sm_kii_1 _) (by decide) rfl (sm_goto hx dX11_nights_83 (tgt := 24) (by decide) (hI4))))))))))))))))))))))))))))
set_option maxRecDepth 100000 in
theorem c_X11_nights {n : Nat} {F : Int32 → sm_MI → sm_ML → Prop} {T : List sm_Sh} {I : sm_MI} {L : sm_ML} {a1 : Int32} (hB : sm_Bs T)
    (h : ∀ x : sm_Cx, sm_Ok x mX11_nights (n + 1) (sm_KI T F) → sm_CZ n mX8_isTold T I L [.ref 24] (fun r2 I1 L1 => (r2 = false → F (-1) I1 L1) ∧ (r2 = true → sm_CZ n mX11_within T I1 L1 [.int a1, .int 1, .int 60] (fun r4 I3 L3 => (r4 = true → sm_V x 0 0 T I3 L3 24 [some (.ref 0), some (.int a1), some (.int 0)] []) ∧ (r4 = false → F (-1) I3 L3))))) :
    sm_CI (n + 1) mX11_nights T I L [.ref 0, .int a1] F :=
  sm_CI.of (by decide +kernel) rfl (fun x hx => show sm_V x 0 0 T I L 0 [some (.ref 0), some (.int a1), none] [] from
  sm_aload_n (z := 0) hx dX11_nights_0 rfl (sm_getR hx dX11_nights_1 fl_X11_42_11 (t_0 hB) rfl (sm_callVZ (args := []) (st := []) hx dX11_nights_4 lv_X11_210_8 rfl rfl (t_24 hB) rfl rfl (h x hx) (fun r2 I1 L1 hI1 => sm_ifeqZ (b := r2) hx dX11_nights_7 (tgt := 20) (by decide) (fun q3 => sm_iconst (v := (-1)) hx dX11_nights_20 sm_kc_m1 (sm_iretI hx dX11_nights_21 rfl (hI1.1 q3))) (fun q3 => sm_iload_n (z := a1) hx dX11_nights_10 rfl (sm_iconst (v := 1) hx dX11_nights_11 sm_kc_1 (sm_bipush (v := 60) hx dX11_nights_12 sm_kb_60 (sm_callSZ (args := [.int a1, .int 1, .int 60]) (st := []) hx dX11_nights_14 ls_X11_115 rfl rfl rfl (hI1.2 q3) (fun r4 I3 L3 hI3 => sm_ifneZ (b := r4) hx dX11_nights_17 (tgt := 22) (by decide) (fun q2 => sm_iconst (v := 0) hx dX11_nights_22 sm_kc_0 (sm_istore_n (ls' := [some (.ref 0), some (.int a1), some (.int 0)]) hx dX11_nights_23 (by decide) rfl ((hI3.1 q2)))) (fun q2 => sm_iconst (v := (-1)) hx dX11_nights_20 sm_kc_m1 (sm_iretI hx dX11_nights_21 rfl (hI3.2 q2))))))))))))
theorem dX11_undo_0 : decode cX11_undo 0 = .ok (.aload_n 0, 1) := by decide +kernel
theorem dX11_undo_1 : decode cX11_undo 1 = .ok (.getfield 63, 3) := by decide +kernel
theorem dX11_undo_4 : decode cX11_undo 4 = .ok (.aload_n 0, 1) := by decide +kernel
theorem dX11_undo_5 : decode cX11_undo 5 = .ok (.getfield 49, 3) := by decide +kernel
theorem dX11_undo_8 : decode cX11_undo 8 = .ok (.invokevirtual 259, 3) := by decide +kernel
theorem dX11_undo_11 : decode cX11_undo 11 = .ok (.ifCond .eq 13, 3) := by decide +kernel
theorem dX11_undo_14 : decode cX11_undo 14 = .ok (.aload_n 0, 1) := by decide +kernel
theorem dX11_undo_15 : decode cX11_undo 15 = .ok (.getfield 49, 3) := by decide +kernel
theorem dX11_undo_18 : decode cX11_undo 18 = .ok (.getfield 153, 3) := by decide +kernel
theorem dX11_undo_21 : decode cX11_undo 21 = .ok (.goto 4, 3) := by decide +kernel
theorem dX11_undo_24 : decode cX11_undo 24 = .ok (.iconst (-1), 1) := by decide +kernel
theorem dX11_undo_25 : decode cX11_undo 25 = .ok (.ireturn, 1) := by decide +kernel
set_option maxRecDepth 100000 in
theorem c_X11_undo {n : Nat} {F : Int32 → sm_MI → sm_ML → Prop} {T : List sm_Sh} {I : sm_MI} {L : sm_ML}  (hB : sm_Bs T)
    (h : sm_CZ n mX1_takeBack T I L [.ref 37, .ref 35] (fun r2 I1 L1 => (r2 = false → F (-1) I1 L1) ∧ (r2 = true → F (I1 35 1) I1 L1))) :
    sm_CI (n + 1) mX11_undo T I L [.ref 0] F :=
  sm_CI.of (by decide +kernel) rfl (fun x hx => show sm_V x 0 0 T I L 0 [some (.ref 0)] [] from
  sm_aload_n (z := 0) hx dX11_undo_0 rfl (sm_getR hx dX11_undo_1 fl_X11_63_11 (t_0 hB) rfl (sm_aload_n (z := 0) hx dX11_undo_4 rfl (sm_getR hx dX11_undo_5 fl_X11_49_11 (t_0 hB) rfl (sm_callVZ (args := [.ref 35]) (st := []) hx dX11_undo_8 lv_X11_259_2 rfl rfl (t_37 hB) rfl rfl h (fun r2 I1 L1 hI1 => sm_ifeqZ (b := r2) hx dX11_undo_11 (tgt := 24) (by decide) (fun q1 => sm_iconst (v := (-1)) hx dX11_undo_24 sm_kc_m1 (sm_iretI hx dX11_undo_25 rfl (hI1.1 q1))) (fun q1 => sm_aload_n (z := 0) hx dX11_undo_14 rfl (sm_getR hx dX11_undo_15 fl_X11_49_11 (t_0 hB) rfl (sm_getI hx dX11_undo_18 fl_X11_153_7 (t_35 hB) rfl (sm_goto hx dX11_undo_21 (tgt := 25) (by decide) (sm_iretI hx dX11_undo_25 rfl (hI1.2 q1))))))))))))
theorem dX11_image_0 : decode cX11_image 0 = .ok (.aload_n 0, 1) := by decide +kernel
theorem dX11_image_1 : decode cX11_image 1 = .ok (.getfield 42, 3) := by decide +kernel
theorem dX11_image_4 : decode cX11_image 4 = .ok (.invokevirtual 210, 3) := by decide +kernel
theorem dX11_image_7 : decode cX11_image 7 = .ok (.ifCond .ne 5, 3) := by decide +kernel
theorem dX11_image_10 : decode cX11_image 10 = .ok (.iconst (-1), 1) := by decide +kernel
theorem dX11_image_11 : decode cX11_image 11 = .ok (.ireturn, 1) := by decide +kernel
theorem dX11_image_12 : decode cX11_image 12 = .ok (.aload_n 0, 1) := by decide +kernel
theorem dX11_image_13 : decode cX11_image 13 = .ok (.getfield 53, 3) := by decide +kernel
theorem dX11_image_16 : decode cX11_image 16 = .ok (.aload_n 0, 1) := by decide +kernel
theorem dX11_image_17 : decode cX11_image 17 = .ok (.getfield 49, 3) := by decide +kernel
theorem dX11_image_20 : decode cX11_image 20 = .ok (.invokevirtual 257, 3) := by decide +kernel
theorem dX11_image_23 : decode cX11_image 23 = .ok (.aload_n 0, 1) := by decide +kernel
theorem dX11_image_24 : decode cX11_image 24 = .ok (.iconst 1, 1) := by decide +kernel
theorem dX11_image_25 : decode cX11_image 25 = .ok (.putfield 56, 3) := by decide +kernel
theorem dX11_image_28 : decode cX11_image 28 = .ok (.aload_n 0, 1) := by decide +kernel
theorem dX11_image_29 : decode cX11_image 29 = .ok (.getfield 49, 3) := by decide +kernel
theorem dX11_image_32 : decode cX11_image 32 = .ok (.getfield 153, 3) := by decide +kernel
theorem dX11_image_35 : decode cX11_image 35 = .ok (.ireturn, 1) := by decide +kernel
set_option maxRecDepth 100000 in
theorem c_X11_image {n : Nat} {F : Int32 → sm_MI → sm_ML → Prop} {T : List sm_Sh} {I : sm_MI} {L : sm_ML}  (hB : sm_Bs T)
    (h : sm_CZ n mX8_isTold T I L [.ref 24] (fun r2 I1 L1 => (r2 = true → sm_CV n mX7_copy T I1 L1 [.ref 36, .ref 35] (fun I3 L3 => ∀ I4 : sm_MI, I4 = (sm_uI I3 0 7 (sm_z true)) → F (I4 35 1) I4 L3)) ∧ (r2 = false → F (-1) I1 L1))) :
    sm_CI (n + 1) mX11_image T I L [.ref 0] F :=
  sm_CI.of (by decide +kernel) rfl (fun x hx => show sm_V x 0 0 T I L 0 [some (.ref 0)] [] from
  sm_aload_n (z := 0) hx dX11_image_0 rfl (sm_getR hx dX11_image_1 fl_X11_42_11 (t_0 hB) rfl (sm_callVZ (args := []) (st := []) hx dX11_image_4 lv_X11_210_8 rfl rfl (t_24 hB) rfl rfl h (fun r2 I1 L1 hI1 => sm_ifneZ (b := r2) hx dX11_image_7 (tgt := 12) (by decide) (fun q1 => sm_aload_n (z := 0) hx dX11_image_12 rfl (sm_getR hx dX11_image_13 fl_X11_53_11 (t_0 hB) rfl (sm_aload_n (z := 0) hx dX11_image_16 rfl (sm_getR hx dX11_image_17 fl_X11_49_11 (t_0 hB) rfl (sm_callVV (args := [.ref 35]) (st := []) hx dX11_image_20 lv_X11_257_7 rfl rfl (t_36 hB) rfl rfl (hI1.1 q1) (fun I3 L3 hI3 => sm_aload_n (z := 0) hx dX11_image_23 rfl (sm_iconst (v := 1) hx dX11_image_24 sm_kc_1 (sm_putZ (b := true) hx dX11_image_25 fl_X11_56_11 (t_0 hB) rfl (sm_aload_n (z := 0) hx dX11_image_28 rfl (sm_getR hx dX11_image_29 fl_X11_49_11 (t_0 hB) rfl (sm_getI hx dX11_image_32 fl_X11_153_7 (t_35 hB) rfl (sm_iretI hx dX11_image_35 rfl (hI3 _ rfl))))))))))))) (fun q1 => sm_iconst (v := (-1)) hx dX11_image_10 sm_kc_m1 (sm_iretI hx dX11_image_11 rfl (hI1.2 q1)))))))
theorem dX11_back_0 : decode cX11_back 0 = .ok (.aload_n 0, 1) := by decide +kernel
theorem dX11_back_1 : decode cX11_back 1 = .ok (.getfield 56, 3) := by decide +kernel
theorem dX11_back_4 : decode cX11_back 4 = .ok (.ifCond .ne 5, 3) := by decide +kernel
theorem dX11_back_7 : decode cX11_back 7 = .ok (.iconst (-1), 1) := by decide +kernel
theorem dX11_back_8 : decode cX11_back 8 = .ok (.ireturn, 1) := by decide +kernel
theorem dX11_back_9 : decode cX11_back 9 = .ok (.aload_n 0, 1) := by decide +kernel
theorem dX11_back_10 : decode cX11_back 10 = .ok (.getfield 49, 3) := by decide +kernel
theorem dX11_back_13 : decode cX11_back 13 = .ok (.aload_n 0, 1) := by decide +kernel
theorem dX11_back_14 : decode cX11_back 14 = .ok (.getfield 53, 3) := by decide +kernel
theorem dX11_back_17 : decode cX11_back 17 = .ok (.invokevirtual 257, 3) := by decide +kernel
theorem dX11_back_20 : decode cX11_back 20 = .ok (.aload_n 0, 1) := by decide +kernel
theorem dX11_back_21 : decode cX11_back 21 = .ok (.getfield 63, 3) := by decide +kernel
theorem dX11_back_24 : decode cX11_back 24 = .ok (.invokevirtual 159, 3) := by decide +kernel
theorem dX11_back_27 : decode cX11_back 27 = .ok (.aload_n 0, 1) := by decide +kernel
theorem dX11_back_28 : decode cX11_back 28 = .ok (.getfield 49, 3) := by decide +kernel
theorem dX11_back_31 : decode cX11_back 31 = .ok (.getfield 153, 3) := by decide +kernel
theorem dX11_back_34 : decode cX11_back 34 = .ok (.ireturn, 1) := by decide +kernel
set_option maxRecDepth 100000 in
theorem c_X11_back {n : Nat} {F : Int32 → sm_MI → sm_ML → Prop} {T : List sm_Sh} {I : sm_MI} {L : sm_ML}  (hB : sm_Bs T)
    (h : (¬ (I 0 7) = 0 → sm_CV n mX7_copy T I L [.ref 35, .ref 36] (fun I1 L1 => sm_CV n mX1_forget T I1 L1 [.ref 37] (fun I2 L2 => F (I2 35 1) I2 L2))) ∧ ((I 0 7) = 0 → F (-1) I L)) :
    sm_CI (n + 1) mX11_back T I L [.ref 0] F :=
  sm_CI.of (by decide +kernel) rfl (fun x hx => show sm_V x 0 0 T I L 0 [some (.ref 0)] [] from
  sm_aload_n (z := 0) hx dX11_back_0 rfl (sm_getI hx dX11_back_1 fl_X11_56_11 (t_0 hB) rfl (sm_ifne (a := (I 0 7)) hx dX11_back_4 (tgt := 9) (by decide) (fun q1 => sm_aload_n (z := 0) hx dX11_back_9 rfl (sm_getR hx dX11_back_10 fl_X11_49_11 (t_0 hB) rfl (sm_aload_n (z := 0) hx dX11_back_13 rfl (sm_getR hx dX11_back_14 fl_X11_53_11 (t_0 hB) rfl (sm_callVV (args := [.ref 36]) (st := []) hx dX11_back_17 lv_X11_257_7 rfl rfl (t_35 hB) rfl rfl (h.1 q1) (fun I1 L1 hI1 => sm_aload_n (z := 0) hx dX11_back_20 rfl (sm_getR hx dX11_back_21 fl_X11_63_11 (t_0 hB) rfl (sm_callVV (args := []) (st := []) hx dX11_back_24 lv_X11_159_2 rfl rfl (t_37 hB) rfl rfl hI1 (fun I2 L2 hI2 => sm_aload_n (z := 0) hx dX11_back_27 rfl (sm_getR hx dX11_back_28 fl_X11_49_11 (t_0 hB) rfl (sm_getI hx dX11_back_31 fl_X11_153_7 (t_35 hB) rfl (sm_iretI hx dX11_back_34 rfl hI2)))))))))))) (fun q1 => sm_iconst (v := (-1)) hx dX11_back_7 sm_kc_m1 (sm_iretI hx dX11_back_8 rfl (h.2 q1))))))
theorem dX11_where_0 : decode cX11_where 0 = .ok (.aload_n 0, 1) := by decide +kernel
theorem dX11_where_1 : decode cX11_where 1 = .ok (.getfield 42, 3) := by decide +kernel
theorem dX11_where_4 : decode cX11_where 4 = .ok (.iload_n 1, 1) := by decide +kernel
theorem dX11_where_5 : decode cX11_where 5 = .ok (.invokevirtual 194, 3) := by decide +kernel
theorem dX11_where_8 : decode cX11_where 8 = .ok (.ifCond .eq 13, 3) := by decide +kernel
theorem dX11_where_11 : decode cX11_where 11 = .ok (.iload_n 2, 1) := by decide +kernel
theorem dX11_where_12 : decode cX11_where 12 = .ok (.iconst 1, 1) := by decide +kernel
theorem dX11_where_13 : decode cX11_where 13 = .ok (.bipush 60, 2) := by decide +kernel
theorem dX11_where_15 : decode cX11_where 15 = .ok (.invokestatic 115, 3) := by decide +kernel
theorem dX11_where_18 : decode cX11_where 18 = .ok (.ifCond .ne 5, 3) := by decide +kernel
theorem dX11_where_21 : decode cX11_where 21 = .ok (.iconst (-1), 1) := by decide +kernel
theorem dX11_where_22 : decode cX11_where 22 = .ok (.ireturn, 1) := by decide +kernel
theorem dX11_where_23 : decode cX11_where 23 = .ok (.aload_n 0, 1) := by decide +kernel
theorem dX11_where_24 : decode cX11_where 24 = .ok (.iload_n 2, 1) := by decide +kernel
theorem dX11_where_25 : decode cX11_where 25 = .ok (.invokevirtual 263, 3) := by decide +kernel
theorem dX11_where_28 : decode cX11_where 28 = .ok (.aload_n 0, 1) := by decide +kernel
theorem dX11_where_29 : decode cX11_where 29 = .ok (.getfield 79, 3) := by decide +kernel
theorem dX11_where_32 : decode cX11_where 32 = .ok (.getfield 266, 3) := by decide +kernel
theorem dX11_where_35 : decode cX11_where 35 = .ok (.iload_n 1, 1) := by decide +kernel
theorem dX11_where_36 : decode cX11_where 36 = .ok (.invokestatic 197, 3) := by decide +kernel
theorem dX11_where_39 : decode cX11_where 39 = .ok (.ireturn, 1) := by decide +kernel
set_option maxRecDepth 100000 in
theorem c_X11_where {n : Nat} {F : Int32 → sm_MI → sm_ML → Prop} {T : List sm_Sh} {I : sm_MI} {L : sm_ML} {a1 : Int32} {a2 : Int32} (hB : sm_Bs T)
    (h : sm_CZ n mX8_hasThing T I L [.ref 24, .int a1] (fun r2 I1 L1 => (r2 = false → F (-1) I1 L1) ∧ (r2 = true → sm_CZ n mX11_within T I1 L1 [.int a2, .int 1, .int 60] (fun r4 I3 L3 => (r4 = true → sm_CV n mX11_dreamOf T I3 L3 [.ref 0, .int a2] (fun I5 L5 => sm_CI n mX11_placeIn T I5 L5 [.int (I5 53 0), .int a1] (fun r7 I6 L6 => F r7 I6 L6))) ∧ (r4 = false → F (-1) I3 L3))))) :
    sm_CI (n + 1) mX11_where T I L [.ref 0, .int a1, .int a2] F :=
  sm_CI.of (by decide +kernel) rfl (fun x hx => show sm_V x 0 0 T I L 0 [some (.ref 0), some (.int a1), some (.int a2)] [] from
  sm_aload_n (z := 0) hx dX11_where_0 rfl (sm_getR hx dX11_where_1 fl_X11_42_11 (t_0 hB) rfl (sm_iload_n (z := a1) hx dX11_where_4 rfl (sm_callVZ (args := [.int a1]) (st := []) hx dX11_where_5 lv_X11_194_8 rfl rfl (t_24 hB) rfl rfl h (fun r2 I1 L1 hI1 => sm_ifeqZ (b := r2) hx dX11_where_8 (tgt := 21) (by decide) (fun q2 => sm_iconst (v := (-1)) hx dX11_where_21 sm_kc_m1 (sm_iretI hx dX11_where_22 rfl (hI1.1 q2))) (fun q2 => sm_iload_n (z := a2) hx dX11_where_11 rfl (sm_iconst (v := 1) hx dX11_where_12 sm_kc_1 (sm_bipush (v := 60) hx dX11_where_13 sm_kb_60 (sm_callSZ (args := [.int a2, .int 1, .int 60]) (st := []) hx dX11_where_15 ls_X11_115 rfl rfl rfl (hI1.2 q2) (fun r4 I3 L3 hI3 => sm_ifneZ (b := r4) hx dX11_where_18 (tgt := 23) (by decide) (fun q1 => sm_aload_n (z := 0) hx dX11_where_23 rfl (sm_iload_n (z := a2) hx dX11_where_24 rfl (sm_callVV (args := [.int a2]) (st := []) hx dX11_where_25 lv_X11_263_11 rfl rfl (t_0 hB) rfl rfl (hI3.1 q1) (fun I5 L5 hI5 => sm_aload_n (z := 0) hx dX11_where_28 rfl (sm_getR hx dX11_where_29 fl_X11_79_11 (t_0 hB) rfl (sm_getI hx dX11_where_32 fl_X11_266_1 (t_53 hB) rfl (sm_iload_n (z := a1) hx dX11_where_35 rfl (sm_callSI (args := [.int (I5 53 0), .int a1]) (st := []) hx dX11_where_36 ls_X11_197 rfl rfl rfl hI5 (fun r7 I6 L6 hI6 => sm_iretI hx dX11_where_39 rfl hI6))))))))) (fun q1 => sm_iconst (v := (-1)) hx dX11_where_21 sm_kc_m1 (sm_iretI hx dX11_where_22 rfl (hI3.2 q1)))))))))))))
theorem dX11_carries_0 : decode cX11_carries 0 = .ok (.aload_n 0, 1) := by decide +kernel
theorem dX11_carries_1 : decode cX11_carries 1 = .ok (.getfield 42, 3) := by decide +kernel
theorem dX11_carries_4 : decode cX11_carries 4 = .ok (.iload_n 1, 1) := by decide +kernel
theorem dX11_carries_5 : decode cX11_carries 5 = .ok (.invokevirtual 163, 3) := by decide +kernel
theorem dX11_carries_8 : decode cX11_carries 8 = .ok (.ifCond .eq 13, 3) := by decide +kernel
theorem dX11_carries_11 : decode cX11_carries 11 = .ok (.iload_n 2, 1) := by decide +kernel
theorem dX11_carries_12 : decode cX11_carries 12 = .ok (.iconst 1, 1) := by decide +kernel
theorem dX11_carries_13 : decode cX11_carries 13 = .ok (.bipush 60, 2) := by decide +kernel
theorem dX11_carries_15 : decode cX11_carries 15 = .ok (.invokestatic 115, 3) := by decide +kernel
theorem dX11_carries_18 : decode cX11_carries 18 = .ok (.ifCond .ne 5, 3) := by decide +kernel
theorem dX11_carries_21 : decode cX11_carries 21 = .ok (.iconst (-1), 1) := by decide +kernel
theorem dX11_carries_22 : decode cX11_carries 22 = .ok (.ireturn, 1) := by decide +kernel
theorem dX11_carries_23 : decode cX11_carries 23 = .ok (.aload_n 0, 1) := by decide +kernel
theorem dX11_carries_24 : decode cX11_carries 24 = .ok (.iload_n 2, 1) := by decide +kernel
theorem dX11_carries_25 : decode cX11_carries 25 = .ok (.invokevirtual 263, 3) := by decide +kernel
theorem dX11_carries_28 : decode cX11_carries 28 = .ok (.aload_n 0, 1) := by decide +kernel
theorem dX11_carries_29 : decode cX11_carries 29 = .ok (.getfield 79, 3) := by decide +kernel
theorem dX11_carries_32 : decode cX11_carries 32 = .ok (.getfield 267, 3) := by decide +kernel
theorem dX11_carries_35 : decode cX11_carries 35 = .ok (.iload_n 1, 1) := by decide +kernel
theorem dX11_carries_36 : decode cX11_carries 36 = .ok (.invokevirtual 177, 3) := by decide +kernel
theorem dX11_carries_39 : decode cX11_carries 39 = .ok (.ireturn, 1) := by decide +kernel
set_option maxRecDepth 100000 in
theorem c_X11_carries {n : Nat} {F : Int32 → sm_MI → sm_ML → Prop} {T : List sm_Sh} {I : sm_MI} {L : sm_ML} {a1 : Int32} {a2 : Int32} (hB : sm_Bs T)
    (h : sm_CZ n mX8_hasSleeper T I L [.ref 24, .int a1] (fun r2 I1 L1 => (r2 = false → F (-1) I1 L1) ∧ (r2 = true → sm_CZ n mX11_within T I1 L1 [.int a2, .int 1, .int 60] (fun r4 I3 L3 => (r4 = true → sm_CV n mX11_dreamOf T I3 L3 [.ref 0, .int a2] (fun I5 L5 => sm_CI n mX3_at T I5 L5 [.ref 56, .int a1] (fun r7 I6 L6 => F r7 I6 L6))) ∧ (r4 = false → F (-1) I3 L3))))) :
    sm_CI (n + 1) mX11_carries T I L [.ref 0, .int a1, .int a2] F :=
  sm_CI.of (by decide +kernel) rfl (fun x hx => show sm_V x 0 0 T I L 0 [some (.ref 0), some (.int a1), some (.int a2)] [] from
  sm_aload_n (z := 0) hx dX11_carries_0 rfl (sm_getR hx dX11_carries_1 fl_X11_42_11 (t_0 hB) rfl (sm_iload_n (z := a1) hx dX11_carries_4 rfl (sm_callVZ (args := [.int a1]) (st := []) hx dX11_carries_5 lv_X11_163_8 rfl rfl (t_24 hB) rfl rfl h (fun r2 I1 L1 hI1 => sm_ifeqZ (b := r2) hx dX11_carries_8 (tgt := 21) (by decide) (fun q2 => sm_iconst (v := (-1)) hx dX11_carries_21 sm_kc_m1 (sm_iretI hx dX11_carries_22 rfl (hI1.1 q2))) (fun q2 => sm_iload_n (z := a2) hx dX11_carries_11 rfl (sm_iconst (v := 1) hx dX11_carries_12 sm_kc_1 (sm_bipush (v := 60) hx dX11_carries_13 sm_kb_60 (sm_callSZ (args := [.int a2, .int 1, .int 60]) (st := []) hx dX11_carries_15 ls_X11_115 rfl rfl rfl (hI1.2 q2) (fun r4 I3 L3 hI3 => sm_ifneZ (b := r4) hx dX11_carries_18 (tgt := 23) (by decide) (fun q1 => sm_aload_n (z := 0) hx dX11_carries_23 rfl (sm_iload_n (z := a2) hx dX11_carries_24 rfl (sm_callVV (args := [.int a2]) (st := []) hx dX11_carries_25 lv_X11_263_11 rfl rfl (t_0 hB) rfl rfl (hI3.1 q1) (fun I5 L5 hI5 => sm_aload_n (z := 0) hx dX11_carries_28 rfl (sm_getR hx dX11_carries_29 fl_X11_79_11 (t_0 hB) rfl (sm_getR hx dX11_carries_32 fl_X11_267_1 (t_53 hB) rfl (sm_iload_n (z := a1) hx dX11_carries_35 rfl (sm_callVI (args := [.int a1]) (st := []) hx dX11_carries_36 lv_X11_177_3 rfl rfl (t_56 hB) rfl rfl hI5 (fun r7 I6 L6 hI6 => sm_iretI hx dX11_carries_39 rfl hI6))))))))) (fun q1 => sm_iconst (v := (-1)) hx dX11_carries_21 sm_kc_m1 (sm_iretI hx dX11_carries_22 rfl (hI3.2 q1)))))))))))))
theorem dX11_touched_0 : decode cX11_touched 0 = .ok (.aload_n 0, 1) := by decide +kernel
theorem dX11_touched_1 : decode cX11_touched 1 = .ok (.getfield 42, 3) := by decide +kernel
theorem dX11_touched_4 : decode cX11_touched 4 = .ok (.iload_n 1, 1) := by decide +kernel
theorem dX11_touched_5 : decode cX11_touched 5 = .ok (.invokevirtual 194, 3) := by decide +kernel
theorem dX11_touched_8 : decode cX11_touched 8 = .ok (.ifCond .eq 13, 3) := by decide +kernel
theorem dX11_touched_11 : decode cX11_touched 11 = .ok (.iload_n 2, 1) := by decide +kernel
theorem dX11_touched_12 : decode cX11_touched 12 = .ok (.iconst 1, 1) := by decide +kernel
theorem dX11_touched_13 : decode cX11_touched 13 = .ok (.bipush 60, 2) := by decide +kernel
theorem dX11_touched_15 : decode cX11_touched 15 = .ok (.invokestatic 115, 3) := by decide +kernel
theorem dX11_touched_18 : decode cX11_touched 18 = .ok (.ifCond .ne 5, 3) := by decide +kernel
theorem dX11_touched_21 : decode cX11_touched 21 = .ok (.iconst (-1), 1) := by decide +kernel
theorem dX11_touched_22 : decode cX11_touched 22 = .ok (.ireturn, 1) := by decide +kernel
theorem dX11_touched_23 : decode cX11_touched 23 = .ok (.aload_n 0, 1) := by decide +kernel
theorem dX11_touched_24 : decode cX11_touched 24 = .ok (.iload_n 2, 1) := by decide +kernel
theorem dX11_touched_25 : decode cX11_touched 25 = .ok (.invokevirtual 263, 3) := by decide +kernel
theorem dX11_touched_28 : decode cX11_touched 28 = .ok (.aload_n 0, 1) := by decide +kernel
theorem dX11_touched_29 : decode cX11_touched 29 = .ok (.getfield 79, 3) := by decide +kernel
theorem dX11_touched_32 : decode cX11_touched 32 = .ok (.getfield 270, 3) := by decide +kernel
theorem dX11_touched_35 : decode cX11_touched 35 = .ok (.iload_n 1, 1) := by decide +kernel
theorem dX11_touched_36 : decode cX11_touched 36 = .ok (.invokevirtual 177, 3) := by decide +kernel
theorem dX11_touched_39 : decode cX11_touched 39 = .ok (.ireturn, 1) := by decide +kernel
set_option maxRecDepth 100000 in
theorem c_X11_touched {n : Nat} {F : Int32 → sm_MI → sm_ML → Prop} {T : List sm_Sh} {I : sm_MI} {L : sm_ML} {a1 : Int32} {a2 : Int32} (hB : sm_Bs T)
    (h : sm_CZ n mX8_hasThing T I L [.ref 24, .int a1] (fun r2 I1 L1 => (r2 = false → F (-1) I1 L1) ∧ (r2 = true → sm_CZ n mX11_within T I1 L1 [.int a2, .int 1, .int 60] (fun r4 I3 L3 => (r4 = true → sm_CV n mX11_dreamOf T I3 L3 [.ref 0, .int a2] (fun I5 L5 => sm_CI n mX3_at T I5 L5 [.ref 58, .int a1] (fun r7 I6 L6 => F r7 I6 L6))) ∧ (r4 = false → F (-1) I3 L3))))) :
    sm_CI (n + 1) mX11_touched T I L [.ref 0, .int a1, .int a2] F :=
  sm_CI.of (by decide +kernel) rfl (fun x hx => show sm_V x 0 0 T I L 0 [some (.ref 0), some (.int a1), some (.int a2)] [] from
  sm_aload_n (z := 0) hx dX11_touched_0 rfl (sm_getR hx dX11_touched_1 fl_X11_42_11 (t_0 hB) rfl (sm_iload_n (z := a1) hx dX11_touched_4 rfl (sm_callVZ (args := [.int a1]) (st := []) hx dX11_touched_5 lv_X11_194_8 rfl rfl (t_24 hB) rfl rfl h (fun r2 I1 L1 hI1 => sm_ifeqZ (b := r2) hx dX11_touched_8 (tgt := 21) (by decide) (fun q2 => sm_iconst (v := (-1)) hx dX11_touched_21 sm_kc_m1 (sm_iretI hx dX11_touched_22 rfl (hI1.1 q2))) (fun q2 => sm_iload_n (z := a2) hx dX11_touched_11 rfl (sm_iconst (v := 1) hx dX11_touched_12 sm_kc_1 (sm_bipush (v := 60) hx dX11_touched_13 sm_kb_60 (sm_callSZ (args := [.int a2, .int 1, .int 60]) (st := []) hx dX11_touched_15 ls_X11_115 rfl rfl rfl (hI1.2 q2) (fun r4 I3 L3 hI3 => sm_ifneZ (b := r4) hx dX11_touched_18 (tgt := 23) (by decide) (fun q1 => sm_aload_n (z := 0) hx dX11_touched_23 rfl (sm_iload_n (z := a2) hx dX11_touched_24 rfl (sm_callVV (args := [.int a2]) (st := []) hx dX11_touched_25 lv_X11_263_11 rfl rfl (t_0 hB) rfl rfl (hI3.1 q1) (fun I5 L5 hI5 => sm_aload_n (z := 0) hx dX11_touched_28 rfl (sm_getR hx dX11_touched_29 fl_X11_79_11 (t_0 hB) rfl (sm_getR hx dX11_touched_32 fl_X11_270_1 (t_53 hB) rfl (sm_iload_n (z := a1) hx dX11_touched_35 rfl (sm_callVI (args := [.int a1]) (st := []) hx dX11_touched_36 lv_X11_177_3 rfl rfl (t_58 hB) rfl rfl hI5 (fun r7 I6 L6 hI6 => sm_iretI hx dX11_touched_39 rfl hI6))))))))) (fun q1 => sm_iconst (v := (-1)) hx dX11_touched_21 sm_kc_m1 (sm_iretI hx dX11_touched_22 rfl (hI3.2 q1)))))))))))))
theorem dX11_empty_0 : decode cX11_empty 0 = .ok (.aload_n 0, 1) := by decide +kernel
theorem dX11_empty_1 : decode cX11_empty 1 = .ok (.getfield 42, 3) := by decide +kernel
theorem dX11_empty_4 : decode cX11_empty 4 = .ok (.iload_n 1, 1) := by decide +kernel
theorem dX11_empty_5 : decode cX11_empty 5 = .ok (.invokevirtual 201, 3) := by decide +kernel
theorem dX11_empty_8 : decode cX11_empty 8 = .ok (.ifCond .eq 13, 3) := by decide +kernel
theorem dX11_empty_11 : decode cX11_empty 11 = .ok (.iload_n 2, 1) := by decide +kernel
theorem dX11_empty_12 : decode cX11_empty 12 = .ok (.iconst 1, 1) := by decide +kernel
theorem dX11_empty_13 : decode cX11_empty 13 = .ok (.bipush 60, 2) := by decide +kernel
theorem dX11_empty_15 : decode cX11_empty 15 = .ok (.invokestatic 115, 3) := by decide +kernel
theorem dX11_empty_18 : decode cX11_empty 18 = .ok (.ifCond .ne 5, 3) := by decide +kernel
theorem dX11_empty_21 : decode cX11_empty 21 = .ok (.iconst (-1), 1) := by decide +kernel
theorem dX11_empty_22 : decode cX11_empty 22 = .ok (.ireturn, 1) := by decide +kernel
theorem dX11_empty_23 : decode cX11_empty 23 = .ok (.iconst 0, 1) := by decide +kernel
theorem dX11_empty_24 : decode cX11_empty 24 = .ok (.istore_n 3, 1) := by decide +kernel
theorem dX11_empty_25 : decode cX11_empty 25 = .ok (.aload_n 0, 1) := by decide +kernel
theorem dX11_empty_26 : decode cX11_empty 26 = .ok (.getfield 79, 3) := by decide +kernel
theorem dX11_empty_29 : decode cX11_empty 29 = .ok (.aload_n 0, 1) := by decide +kernel
theorem dX11_empty_30 : decode cX11_empty 30 = .ok (.getfield 49, 3) := by decide +kernel
theorem dX11_empty_33 : decode cX11_empty 33 = .ok (.invokevirtual 250, 3) := by decide +kernel
theorem dX11_empty_36 : decode cX11_empty 36 = .ok (.iconst 0, 1) := by decide +kernel
theorem dX11_empty_37 : decode cX11_empty 37 = .ok (.istore 4, 2) := by decide +kernel
theorem dX11_empty_39 : decode cX11_empty 39 = .ok (.iload 4, 2) := by decide +kernel
theorem dX11_empty_41 : decode cX11_empty 41 = .ok (.iload_n 2, 1) := by decide +kernel
theorem dX11_empty_42 : decode cX11_empty 42 = .ok (.if_icmp .ge 37, 3) := by decide +kernel
theorem dX11_empty_45 : decode cX11_empty 45 = .ok (.aload_n 0, 1) := by decide +kernel
theorem dX11_empty_46 : decode cX11_empty 46 = .ok (.getfield 79, 3) := by decide +kernel
theorem dX11_empty_49 : decode cX11_empty 49 = .ok (.invokevirtual 254, 3) := by decide +kernel
theorem dX11_empty_52 : decode cX11_empty 52 = .ok (.aload_n 0, 1) := by decide +kernel
theorem dX11_empty_53 : decode cX11_empty 53 = .ok (.getfield 42, 3) := by decide +kernel
theorem dX11_empty_56 : decode cX11_empty 56 = .ok (.aload_n 0, 1) := by decide +kernel
theorem dX11_empty_57 : decode cX11_empty 57 = .ok (.getfield 79, 3) := by decide +kernel
theorem dX11_empty_60 : decode cX11_empty 60 = .ok (.getfield 266, 3) := by decide +kernel
theorem dX11_empty_63 : decode cX11_empty 63 = .ok (.iload_n 1, 1) := by decide +kernel
theorem dX11_empty_64 : decode cX11_empty 64 = .ok (.invokevirtual 204, 3) := by decide +kernel
theorem dX11_empty_67 : decode cX11_empty 67 = .ok (.ifCond .ne 6, 3) := by decide +kernel
theorem dX11_empty_70 : decode cX11_empty 70 = .ok (.iinc 3 1, 3) := by decide +kernel
theorem dX11_empty_73 : decode cX11_empty 73 = .ok (.iinc 4 1, 3) := by decide +kernel
theorem dX11_empty_76 : decode cX11_empty 76 = .ok (.goto (-37), 3) := by decide +kernel
theorem dX11_empty_79 : decode cX11_empty 79 = .ok (.iload_n 3, 1) := by decide +kernel
theorem dX11_empty_80 : decode cX11_empty 80 = .ok (.ireturn, 1) := by decide +kernel
set_option maxRecDepth 100000 in
theorem u_X11_empty_39 {x : sm_Cx} {n : Nat} {F : Int32 → sm_MI → sm_ML → Prop} {T : List sm_Sh} {I : sm_MI} {L : sm_ML} {a1 : Int32} {a2 : Int32} {a3 : Int32} {a4 : Int32} (hB : sm_Bs T) (hx : sm_Ok x mX11_empty (n + 1) (sm_KI T F))
    (h : (a2 ≤ a4 → F a3 I L) ∧ (¬ a2 ≤ a4 → sm_CV n mX0_goOneNight T I L [.ref 53] (fun I1 L1 => sm_CI n mX8_thingsIn T I1 L1 [.ref 24, .int (I1 53 0), .int a1] (fun r3 I2 L2 => (¬ r3 = 0 → sm_V x 0 0 T I2 L2 39 [some (.ref 0), some (.int a1), some (.int a2), some (.int a3), some (.int (a4 + 1))] []) ∧ (r3 = 0 → sm_V x 0 0 T I2 L2 39 [some (.ref 0), some (.int a1), some (.int a2), some (.int (a3 + 1)), some (.int (a4 + 1))] []))))) :
    sm_V x 0 0 T I L 39 [some (.ref 0), some (.int a1), some (.int a2), some (.int a3), some (.int a4)] [] :=
  sm_iload (z := a4) hx dX11_empty_39 rfl (sm_iload_n (z := a2) hx dX11_empty_41 rfl (sm_icmpge (a := a4) (b := a2) hx dX11_empty_42 (tgt := 79) (by decide) (fun q2 => sm_iload_n (z := a3) hx dX11_empty_79 rfl (sm_iretI hx dX11_empty_80 rfl (h.1 q2))) (fun q2 => sm_aload_n (z := 0) hx dX11_empty_45 rfl (sm_getR hx dX11_empty_46 fl_X11_79_11 (t_0 hB) rfl (sm_callVV (args := []) (st := []) hx dX11_empty_49 lv_X11_254_1 rfl rfl (t_53 hB) rfl rfl (h.2 q2) (fun I1 L1 hI1 => sm_aload_n (z := 0) hx dX11_empty_52 rfl (sm_getR hx dX11_empty_53 fl_X11_42_11 (t_0 hB) rfl (sm_aload_n (z := 0) hx dX11_empty_56 rfl (sm_getR hx dX11_empty_57 fl_X11_79_11 (t_0 hB) rfl (sm_getI hx dX11_empty_60 fl_X11_266_1 (t_53 hB) rfl (sm_iload_n (z := a1) hx dX11_empty_63 rfl (sm_callVI (args := [.int (I1 53 0), .int a1]) (st := []) hx dX11_empty_64 lv_X11_204_8 rfl rfl (t_24 hB) rfl rfl hI1 (fun r3 I2 L2 hI2 => sm_ifne (a := r3) hx dX11_empty_67 (tgt := 73) (by decide) (fun q1 => sm_iinc (ls' := [some (.ref 0), some (.int a1), some (.int a2), some (.int a3), some (.int (a4 + 1))]) (z := a4) (v := (a4 + 1)) hx dX11_empty_73 rfl (sm_kii_1 _) (by decide) rfl (sm_goto hx dX11_empty_76 (tgt := 39) (by decide) ((hI2.1 q1)))) (fun q1 => sm_iinc (ls' := [some (.ref 0), some (.int a1), some (.int a2), some (.int (a3 + 1)), some (.int a4)]) (z := a3) (v := (a3 + 1)) hx dX11_empty_70 rfl (sm_kii_1 _) (by decide) rfl (sm_iinc (ls' := [some (.ref 0), some (.int a1), some (.int a2), some (.int (a3 + 1)), some (.int (a4 + 1))]) (z := a4) (v := (a4 + 1)) hx dX11_empty_73 rfl (sm_kii_1 _) (by decide) rfl (sm_goto hx dX11_empty_76 (tgt := 39) (by decide) ((hI2.2 q1))))))))))))))))))
set_option maxRecDepth 100000 in
theorem c_X11_empty {n : Nat} {F : Int32 → sm_MI → sm_ML → Prop} {T : List sm_Sh} {I : sm_MI} {L : sm_ML} {a1 : Int32} {a2 : Int32} (hB : sm_Bs T)
    (h : ∀ x : sm_Cx, sm_Ok x mX11_empty (n + 1) (sm_KI T F) → sm_CZ n mX8_hasHouse T I L [.ref 24, .int a1] (fun r2 I1 L1 => (r2 = false → F (-1) I1 L1) ∧ (r2 = true → sm_CZ n mX11_within T I1 L1 [.int a2, .int 1, .int 60] (fun r4 I3 L3 => (r4 = true → sm_CV n mX0_begin T I3 L3 [.ref 53, .ref 35] (fun I5 L5 => sm_V x 0 0 T I5 L5 39 [some (.ref 0), some (.int a1), some (.int a2), some (.int 0), some (.int 0)] [])) ∧ (r4 = false → F (-1) I3 L3))))) :
    sm_CI (n + 1) mX11_empty T I L [.ref 0, .int a1, .int a2] F :=
  sm_CI.of (by decide +kernel) rfl (fun x hx => show sm_V x 0 0 T I L 0 [some (.ref 0), some (.int a1), some (.int a2), none, none] [] from
  sm_aload_n (z := 0) hx dX11_empty_0 rfl (sm_getR hx dX11_empty_1 fl_X11_42_11 (t_0 hB) rfl (sm_iload_n (z := a1) hx dX11_empty_4 rfl (sm_callVZ (args := [.int a1]) (st := []) hx dX11_empty_5 lv_X11_201_8 rfl rfl (t_24 hB) rfl rfl (h x hx) (fun r2 I1 L1 hI1 => sm_ifeqZ (b := r2) hx dX11_empty_8 (tgt := 21) (by decide) (fun q4 => sm_iconst (v := (-1)) hx dX11_empty_21 sm_kc_m1 (sm_iretI hx dX11_empty_22 rfl (hI1.1 q4))) (fun q4 => sm_iload_n (z := a2) hx dX11_empty_11 rfl (sm_iconst (v := 1) hx dX11_empty_12 sm_kc_1 (sm_bipush (v := 60) hx dX11_empty_13 sm_kb_60 (sm_callSZ (args := [.int a2, .int 1, .int 60]) (st := []) hx dX11_empty_15 ls_X11_115 rfl rfl rfl (hI1.2 q4) (fun r4 I3 L3 hI3 => sm_ifneZ (b := r4) hx dX11_empty_18 (tgt := 23) (by decide) (fun q3 => sm_iconst (v := 0) hx dX11_empty_23 sm_kc_0 (sm_istore_n (ls' := [some (.ref 0), some (.int a1), some (.int a2), some (.int 0), none]) hx dX11_empty_24 (by decide) rfl (sm_aload_n (z := 0) hx dX11_empty_25 rfl (sm_getR hx dX11_empty_26 fl_X11_79_11 (t_0 hB) rfl (sm_aload_n (z := 0) hx dX11_empty_29 rfl (sm_getR hx dX11_empty_30 fl_X11_49_11 (t_0 hB) rfl (sm_callVV (args := [.ref 35]) (st := []) hx dX11_empty_33 lv_X11_250_1 rfl rfl (t_53 hB) rfl rfl (hI3.1 q3) (fun I5 L5 hI5 => sm_iconst (v := 0) hx dX11_empty_36 sm_kc_0 (sm_istore (ls' := [some (.ref 0), some (.int a1), some (.int a2), some (.int 0), some (.int 0)]) hx dX11_empty_37 (by decide) rfl (hI5)))))))))) (fun q3 => sm_iconst (v := (-1)) hx dX11_empty_21 sm_kc_m1 (sm_iretI hx dX11_empty_22 rfl (hI3.2 q3)))))))))))))
theorem dX11_met_0 : decode cX11_met 0 = .ok (.aload_n 0, 1) := by decide +kernel
theorem dX11_met_1 : decode cX11_met 1 = .ok (.getfield 42, 3) := by decide +kernel
theorem dX11_met_4 : decode cX11_met 4 = .ok (.iload_n 1, 1) := by decide +kernel
theorem dX11_met_5 : decode cX11_met 5 = .ok (.invokevirtual 194, 3) := by decide +kernel
theorem dX11_met_8 : decode cX11_met 8 = .ok (.ifCond .eq 19, 3) := by decide +kernel
theorem dX11_met_11 : decode cX11_met 11 = .ok (.aload_n 0, 1) := by decide +kernel
theorem dX11_met_12 : decode cX11_met 12 = .ok (.getfield 42, 3) := by decide +kernel
theorem dX11_met_15 : decode cX11_met 15 = .ok (.iload_n 2, 1) := by decide +kernel
theorem dX11_met_16 : decode cX11_met 16 = .ok (.invokevirtual 194, 3) := by decide +kernel
theorem dX11_met_19 : decode cX11_met 19 = .ok (.ifCond .eq 8, 3) := by decide +kernel
theorem dX11_met_22 : decode cX11_met 22 = .ok (.iload_n 1, 1) := by decide +kernel
theorem dX11_met_23 : decode cX11_met 23 = .ok (.iload_n 2, 1) := by decide +kernel
theorem dX11_met_24 : decode cX11_met 24 = .ok (.if_icmp .ne 6, 3) := by decide +kernel
theorem dX11_met_27 : decode cX11_met 27 = .ok (.ldc 230, 2) := by decide +kernel
theorem dX11_met_29 : decode cX11_met 29 = .ok (.ireturn, 1) := by decide +kernel
theorem dX11_met_30 : decode cX11_met 30 = .ok (.iload_n 3, 1) := by decide +kernel
theorem dX11_met_31 : decode cX11_met 31 = .ok (.iconst 1, 1) := by decide +kernel
theorem dX11_met_32 : decode cX11_met 32 = .ok (.bipush 60, 2) := by decide +kernel
theorem dX11_met_34 : decode cX11_met 34 = .ok (.invokestatic 115, 3) := by decide +kernel
theorem dX11_met_37 : decode cX11_met 37 = .ok (.ifCond .eq 13, 3) := by decide +kernel
theorem dX11_met_40 : decode cX11_met 40 = .ok (.iload 4, 2) := by decide +kernel
theorem dX11_met_42 : decode cX11_met 42 = .ok (.iconst 0, 1) := by decide +kernel
theorem dX11_met_43 : decode cX11_met 43 = .ok (.iconst 1, 1) := by decide +kernel
theorem dX11_met_44 : decode cX11_met 44 = .ok (.invokestatic 115, 3) := by decide +kernel
theorem dX11_met_47 : decode cX11_met 47 = .ok (.ifCond .ne 6, 3) := by decide +kernel
theorem dX11_met_50 : decode cX11_met 50 = .ok (.ldc 230, 2) := by decide +kernel
theorem dX11_met_52 : decode cX11_met 52 = .ok (.ireturn, 1) := by decide +kernel
theorem dX11_met_53 : decode cX11_met 53 = .ok (.iconst 0, 1) := by decide +kernel
theorem dX11_met_54 : decode cX11_met 54 = .ok (.istore 5, 2) := by decide +kernel
theorem dX11_met_56 : decode cX11_met 56 = .ok (.iconst (-1), 1) := by decide +kernel
theorem dX11_met_57 : decode cX11_met 57 = .ok (.istore 6, 2) := by decide +kernel
theorem dX11_met_59 : decode cX11_met 59 = .ok (.aload_n 0, 1) := by decide +kernel
theorem dX11_met_60 : decode cX11_met 60 = .ok (.getfield 79, 3) := by decide +kernel
theorem dX11_met_63 : decode cX11_met 63 = .ok (.aload_n 0, 1) := by decide +kernel
theorem dX11_met_64 : decode cX11_met 64 = .ok (.getfield 49, 3) := by decide +kernel
theorem dX11_met_67 : decode cX11_met 67 = .ok (.invokevirtual 250, 3) := by decide +kernel
theorem dX11_met_70 : decode cX11_met 70 = .ok (.iconst 1, 1) := by decide +kernel
theorem dX11_met_71 : decode cX11_met 71 = .ok (.istore 7, 2) := by decide +kernel
theorem dX11_met_73 : decode cX11_met 73 = .ok (.iload 7, 2) := by decide +kernel
theorem dX11_met_75 : decode cX11_met 75 = .ok (.iload_n 3, 1) := by decide +kernel
theorem dX11_met_76 : decode cX11_met 76 = .ok (.if_icmp .gt 59, 3) := by decide +kernel
theorem dX11_met_79 : decode cX11_met 79 = .ok (.aload_n 0, 1) := by decide +kernel
theorem dX11_met_80 : decode cX11_met 80 = .ok (.getfield 79, 3) := by decide +kernel
theorem dX11_met_83 : decode cX11_met 83 = .ok (.invokevirtual 254, 3) := by decide +kernel
theorem dX11_met_86 : decode cX11_met 86 = .ok (.aload_n 0, 1) := by decide +kernel
theorem dX11_met_87 : decode cX11_met 87 = .ok (.getfield 79, 3) := by decide +kernel
theorem dX11_met_90 : decode cX11_met 90 = .ok (.getfield 266, 3) := by decide +kernel
theorem dX11_met_93 : decode cX11_met 93 = .ok (.iload_n 1, 1) := by decide +kernel
theorem dX11_met_94 : decode cX11_met 94 = .ok (.invokestatic 197, 3) := by decide +kernel
theorem dX11_met_97 : decode cX11_met 97 = .ok (.aload_n 0, 1) := by decide +kernel
theorem dX11_met_98 : decode cX11_met 98 = .ok (.getfield 79, 3) := by decide +kernel
theorem dX11_met_101 : decode cX11_met 101 = .ok (.getfield 266, 3) := by decide +kernel
theorem dX11_met_104 : decode cX11_met 104 = .ok (.iload_n 2, 1) := by decide +kernel
theorem dX11_met_105 : decode cX11_met 105 = .ok (.invokestatic 197, 3) := by decide +kernel
theorem dX11_met_108 : decode cX11_met 108 = .ok (.if_icmp .ne 21, 3) := by decide +kernel
theorem dX11_met_111 : decode cX11_met 111 = .ok (.iinc 5 1, 3) := by decide +kernel
theorem dX11_met_114 : decode cX11_met 114 = .ok (.iload 6, 2) := by decide +kernel
theorem dX11_met_116 : decode cX11_met 116 = .ok (.iconst (-1), 1) := by decide +kernel
theorem dX11_met_117 : decode cX11_met 117 = .ok (.if_icmp .ne 8, 3) := by decide +kernel
theorem dX11_met_120 : decode cX11_met 120 = .ok (.iload 7, 2) := by decide +kernel
theorem dX11_met_122 : decode cX11_met 122 = .ok (.goto 5, 3) := by decide +kernel
theorem dX11_met_125 : decode cX11_met 125 = .ok (.iload 6, 2) := by decide +kernel
theorem dX11_met_127 : decode cX11_met 127 = .ok (.istore 6, 2) := by decide +kernel
theorem dX11_met_129 : decode cX11_met 129 = .ok (.iinc 7 1, 3) := by decide +kernel
theorem dX11_met_132 : decode cX11_met 132 = .ok (.goto (-59), 3) := by decide +kernel
theorem dX11_met_135 : decode cX11_met 135 = .ok (.iload 4, 2) := by decide +kernel
theorem dX11_met_137 : decode cX11_met 137 = .ok (.ifCond .ne 8, 3) := by decide +kernel
theorem dX11_met_140 : decode cX11_met 140 = .ok (.iload 5, 2) := by decide +kernel
theorem dX11_met_142 : decode cX11_met 142 = .ok (.goto 5, 3) := by decide +kernel
theorem dX11_met_145 : decode cX11_met 145 = .ok (.iload 6, 2) := by decide +kernel
theorem dX11_met_147 : decode cX11_met 147 = .ok (.ireturn, 1) := by decide +kernel
set_option maxRecDepth 100000 in
theorem u_X11_met_73 {x : sm_Cx} {n : Nat} {F : Int32 → sm_MI → sm_ML → Prop} {T : List sm_Sh} {I : sm_MI} {L : sm_ML} {a1 : Int32} {a2 : Int32} {a3 : Int32} {a4 : Int32} {a5 : Int32} {a6 : Int32} {a7 : Int32} (hB : sm_Bs T) (hx : sm_Ok x mX11_met (n + 1) (sm_KI T F))
    (h : (a3 < a7 → (¬ a4 = 0 → F a6 I L) ∧ (a4 = 0 → F a5 I L)) ∧ (¬ a3 < a7 → sm_CV n mX0_goOneNight T I L [.ref 53] (fun I1 L1 => sm_CI n mX11_placeIn T I1 L1 [.int (I1 53 0), .int a1] (fun r3 I2 L2 => sm_CI n mX11_placeIn T I2 L2 [.int (I2 53 0), .int a2] (fun r5 I4 L4 => (¬ r3 = r5 → sm_V x 0 0 T I4 L4 73 [some (.ref 0), some (.int a1), some (.int a2), some (.int a3), some (.int a4), some (.int a5), some (.int a6), some (.int (a7 + 1))] []) ∧ (r3 = r5 → (¬ a6 = (-1) → sm_V x 0 0 T I4 L4 73 [some (.ref 0), some (.int a1), some (.int a2), some (.int a3), some (.int a4), some (.int (a5 + 1)), some (.int a6), some (.int (a7 + 1))] []) ∧ (a6 = (-1) → sm_V x 0 0 T I4 L4 73 [some (.ref 0), some (.int a1), some (.int a2), some (.int a3), some (.int a4), some (.int (a5 + 1)), some (.int a7), some (.int (a7 + 1))] []))))))) :
    sm_V x 0 0 T I L 73 [some (.ref 0), some (.int a1), some (.int a2), some (.int a3), some (.int a4), some (.int a5), some (.int a6), some (.int a7)] [] :=
  sm_iload (z := a7) hx dX11_met_73 rfl (sm_iload_n (z := a3) hx dX11_met_75 rfl (sm_icmpgt (a := a7) (b := a3) hx dX11_met_76 (tgt := 135) (by decide) (fun q4 => sm_iload (z := a4) hx dX11_met_135 rfl (sm_ifne (a := a4) hx dX11_met_137 (tgt := 145) (by decide) (fun q1 => sm_iload (z := a6) hx dX11_met_145 rfl (sm_iretI hx dX11_met_147 rfl ((h.1 q4).1 q1))) (fun q1 => sm_iload (z := a5) hx dX11_met_140 rfl (sm_goto hx dX11_met_142 (tgt := 147) (by decide) (sm_iretI hx dX11_met_147 rfl ((h.1 q4).2 q1)))))) (fun q4 => sm_aload_n (z := 0) hx dX11_met_79 rfl (sm_getR hx dX11_met_80 fl_X11_79_11 (t_0 hB) rfl (sm_callVV (args := []) (st := []) hx dX11_met_83 lv_X11_254_1 rfl rfl (t_53 hB) rfl rfl (h.2 q4) (fun I1 L1 hI1 => sm_aload_n (z := 0) hx dX11_met_86 rfl (sm_getR hx dX11_met_87 fl_X11_79_11 (t_0 hB) rfl (sm_getI hx dX11_met_90 fl_X11_266_1 (t_53 hB) rfl (sm_iload_n (z := a1) hx dX11_met_93 rfl (sm_callSI (args := [.int (I1 53 0), .int a1]) (st := []) hx dX11_met_94 ls_X11_197 rfl rfl rfl hI1 (fun r3 I2 L2 hI2 => sm_aload_n (z := 0) hx dX11_met_97 rfl (sm_getR hx dX11_met_98 fl_X11_79_11 (t_0 hB) rfl (sm_getI hx dX11_met_101 fl_X11_266_1 (t_53 hB) rfl (sm_iload_n (z := a2) hx dX11_met_104 rfl (sm_callSI (args := [.int (I2 53 0), .int a2]) (st := [.int r3]) hx dX11_met_105 ls_X11_197 rfl rfl rfl hI2 (fun r5 I4 L4 hI4 => sm_icmpne (a := r3) (b := r5) hx dX11_met_108 (tgt := 129) (by decide) (fun q3 => sm_iinc (ls' := [some (.ref 0), some (.int a1), some (.int a2), some (.int a3), some (.int a4), some (.int a5), some (.int a6), some (.int (a7 + 1))]) (z := a7) (v := (a7 + 1)) hx dX11_met_129 rfl (sm_kii_1 _) (by decide) rfl (sm_goto hx dX11_met_132 (tgt := 73) (by decide) ((hI4.1 q3)))) (fun q3 => sm_iinc (ls' := [some (.ref 0), some (.int a1), some (.int a2), some (.int a3), some (.int a4), some (.int (a5 + 1)), some (.int a6), some (.int a7)]) (z := a5) (v := (a5 + 1)) hx dX11_met_111 rfl (sm_kii_1 _) (by decide) rfl (sm_iload (z := a6) hx dX11_met_114 rfl (sm_iconst (v := (-1)) hx dX11_met_116 sm_kc_m1 (sm_icmpne (a := a6) (b := (-1)) hx dX11_met_117 (tgt := 125) (by decide) (fun q2 => sm_iload (z := a6) hx dX11_met_125 rfl (sm_istore (ls' := [some (.ref 0), some (.int a1), some (.int a2), some (.int a3), some (.int a4), some (.int (a5 + 1)), some (.int a6), some (.int a7)]) hx dX11_met_127 (by decide) rfl (sm_iinc (ls' := [some (.ref 0), some (.int a1), some (.int a2), some (.int a3), some (.int a4), some (.int (a5 + 1)), some (.int a6), some (.int (a7 + 1))]) (z := a7) (v := (a7 + 1)) hx dX11_met_129 rfl (sm_kii_1 _) (by decide) rfl (sm_goto hx dX11_met_132 (tgt := 73) (by decide) (((hI4.2 q3).1 q2)))))) (fun q2 => sm_iload (z := a7) hx dX11_met_120 rfl (sm_goto hx dX11_met_122 (tgt := 127) (by decide) (sm_istore (ls' := [some (.ref 0), some (.int a1), some (.int a2), some (.int a3), some (.int a4), some (.int (a5 + 1)), some (.int a7), some (.int a7)]) hx dX11_met_127 (by decide) rfl (sm_iinc (ls' := [some (.ref 0), some (.int a1), some (.int a2), some (.int a3), some (.int a4), some (.int (a5 + 1)), some (.int a7), some (.int (a7 + 1))]) (z := a7) (v := (a7 + 1)) hx dX11_met_129 rfl (sm_kii_1 _) (by decide) rfl (sm_goto hx dX11_met_132 (tgt := 73) (by decide) (((hI4.2 q3).2 q2)))))))))))))))))))))))))))
set_option maxRecDepth 100000 in
theorem c_X11_met {n : Nat} {F : Int32 → sm_MI → sm_ML → Prop} {T : List sm_Sh} {I : sm_MI} {L : sm_ML} {a1 : Int32} {a2 : Int32} {a3 : Int32} {a4 : Int32} (hB : sm_Bs T)
    (h : ∀ x : sm_Cx, sm_Ok x mX11_met (n + 1) (sm_KI T F) → sm_CZ n mX8_hasThing T I L [.ref 24, .int a1] (fun r2 I1 L1 => (r2 = false → F (-1000000) I1 L1) ∧ (r2 = true → sm_CZ n mX8_hasThing T I1 L1 [.ref 24, .int a2] (fun r4 I3 L3 => (r4 = false → F (-1000000) I3 L3) ∧ (r4 = true → (¬ a1 = a2 → sm_CZ n mX11_within T I3 L3 [.int a3, .int 1, .int 60] (fun r6 I5 L5 => (r6 = false → F (-1000000) I5 L5) ∧ (r6 = true → sm_CZ n mX11_within T I5 L5 [.int a4, .int 0, .int 1] (fun r8 I7 L7 => (r8 = true → sm_CV n mX0_begin T I7 L7 [.ref 53, .ref 35] (fun I9 L9 => sm_V x 0 0 T I9 L9 73 [some (.ref 0), some (.int a1), some (.int a2), some (.int a3), some (.int a4), some (.int 0), some (.int (-1)), some (.int 1)] [])) ∧ (r8 = false → F (-1000000) I7 L7))))) ∧ (a1 = a2 → F (-1000000) I3 L3)))))) :
    sm_CI (n + 1) mX11_met T I L [.ref 0, .int a1, .int a2, .int a3, .int a4] F :=
  sm_CI.of (by decide +kernel) rfl (fun x hx => show sm_V x 0 0 T I L 0 [some (.ref 0), some (.int a1), some (.int a2), some (.int a3), some (.int a4), none, none, none] [] from
  sm_aload_n (z := 0) hx dX11_met_0 rfl (sm_getR hx dX11_met_1 fl_X11_42_11 (t_0 hB) rfl (sm_iload_n (z := a1) hx dX11_met_4 rfl (sm_callVZ (args := [.int a1]) (st := []) hx dX11_met_5 lv_X11_194_8 rfl rfl (t_24 hB) rfl rfl (h x hx) (fun r2 I1 L1 hI1 => sm_ifeqZ (b := r2) hx dX11_met_8 (tgt := 27) (by decide) (fun q9 => sm_ldc (v := (-1000000)) hx dX11_met_27 k_X11_230 (sm_iretI hx dX11_met_29 rfl (hI1.1 q9))) (fun q9 => sm_aload_n (z := 0) hx dX11_met_11 rfl (sm_getR hx dX11_met_12 fl_X11_42_11 (t_0 hB) rfl (sm_iload_n (z := a2) hx dX11_met_15 rfl (sm_callVZ (args := [.int a2]) (st := []) hx dX11_met_16 lv_X11_194_8 rfl rfl (t_24 hB) rfl rfl (hI1.2 q9) (fun r4 I3 L3 hI3 => sm_ifeqZ (b := r4) hx dX11_met_19 (tgt := 27) (by decide) (fun q8 => sm_ldc (v := (-1000000)) hx dX11_met_27 k_X11_230 (sm_iretI hx dX11_met_29 rfl (hI3.1 q8))) (fun q8 => sm_iload_n (z := a1) hx dX11_met_22 rfl (sm_iload_n (z := a2) hx dX11_met_23 rfl (sm_icmpne (a := a1) (b := a2) hx dX11_met_24 (tgt := 30) (by decide) (fun q7 => sm_iload_n (z := a3) hx dX11_met_30 rfl (sm_iconst (v := 1) hx dX11_met_31 sm_kc_1 (sm_bipush (v := 60) hx dX11_met_32 sm_kb_60 (sm_callSZ (args := [.int a3, .int 1, .int 60]) (st := []) hx dX11_met_34 ls_X11_115 rfl rfl rfl ((hI3.2 q8).1 q7) (fun r6 I5 L5 hI5 => sm_ifeqZ (b := r6) hx dX11_met_37 (tgt := 50) (by decide) (fun q6 => sm_ldc (v := (-1000000)) hx dX11_met_50 k_X11_230 (sm_iretI hx dX11_met_52 rfl (hI5.1 q6))) (fun q6 => sm_iload (z := a4) hx dX11_met_40 rfl (sm_iconst (v := 0) hx dX11_met_42 sm_kc_0 (sm_iconst (v := 1) hx dX11_met_43 sm_kc_1 (sm_callSZ (args := [.int a4, .int 0, .int 1]) (st := []) hx dX11_met_44 ls_X11_115 rfl rfl rfl (hI5.2 q6) (fun r8 I7 L7 hI7 => sm_ifneZ (b := r8) hx dX11_met_47 (tgt := 53) (by decide) (fun q5 => sm_iconst (v := 0) hx dX11_met_53 sm_kc_0 (sm_istore (ls' := [some (.ref 0), some (.int a1), some (.int a2), some (.int a3), some (.int a4), some (.int 0), none, none]) hx dX11_met_54 (by decide) rfl (sm_iconst (v := (-1)) hx dX11_met_56 sm_kc_m1 (sm_istore (ls' := [some (.ref 0), some (.int a1), some (.int a2), some (.int a3), some (.int a4), some (.int 0), some (.int (-1)), none]) hx dX11_met_57 (by decide) rfl (sm_aload_n (z := 0) hx dX11_met_59 rfl (sm_getR hx dX11_met_60 fl_X11_79_11 (t_0 hB) rfl (sm_aload_n (z := 0) hx dX11_met_63 rfl (sm_getR hx dX11_met_64 fl_X11_49_11 (t_0 hB) rfl (sm_callVV (args := [.ref 35]) (st := []) hx dX11_met_67 lv_X11_250_1 rfl rfl (t_53 hB) rfl rfl (hI7.1 q5) (fun I9 L9 hI9 => sm_iconst (v := 1) hx dX11_met_70 sm_kc_1 (sm_istore (ls' := [some (.ref 0), some (.int a1), some (.int a2), some (.int a3), some (.int a4), some (.int 0), some (.int (-1)), some (.int 1)]) hx dX11_met_71 (by decide) rfl (hI9)))))))))))) (fun q5 => sm_ldc (v := (-1000000)) hx dX11_met_50 k_X11_230 (sm_iretI hx dX11_met_52 rfl (hI7.2 q5))))))))))))) (fun q7 => sm_ldc (v := (-1000000)) hx dX11_met_27 k_X11_230 (sm_iretI hx dX11_met_29 rfl ((hI3.2 q8).2 q7))))))))))))))))
theorem dX11_round_0 : decode cX11_round 0 = .ok (.aload_n 0, 1) := by decide +kernel
theorem dX11_round_1 : decode cX11_round 1 = .ok (.getfield 42, 3) := by decide +kernel
theorem dX11_round_4 : decode cX11_round 4 = .ok (.invokevirtual 210, 3) := by decide +kernel
theorem dX11_round_7 : decode cX11_round 7 = .ok (.ifCond .eq 12, 3) := by decide +kernel
theorem dX11_round_10 : decode cX11_round 10 = .ok (.iload_n 1, 1) := by decide +kernel
theorem dX11_round_11 : decode cX11_round 11 = .ok (.iconst 0, 1) := by decide +kernel
theorem dX11_round_12 : decode cX11_round 12 = .ok (.iconst 1, 1) := by decide +kernel
theorem dX11_round_13 : decode cX11_round 13 = .ok (.invokestatic 115, 3) := by decide +kernel
theorem dX11_round_16 : decode cX11_round 16 = .ok (.ifCond .ne 5, 3) := by decide +kernel
theorem dX11_round_19 : decode cX11_round 19 = .ok (.iconst (-1), 1) := by decide +kernel
theorem dX11_round_20 : decode cX11_round 20 = .ok (.ireturn, 1) := by decide +kernel
theorem dX11_round_21 : decode cX11_round 21 = .ok (.aload_n 0, 1) := by decide +kernel
theorem dX11_round_22 : decode cX11_round 22 = .ok (.getfield 79, 3) := by decide +kernel
theorem dX11_round_25 : decode cX11_round 25 = .ok (.aload_n 0, 1) := by decide +kernel
theorem dX11_round_26 : decode cX11_round 26 = .ok (.getfield 49, 3) := by decide +kernel
theorem dX11_round_29 : decode cX11_round 29 = .ok (.invokevirtual 250, 3) := by decide +kernel
theorem dX11_round_32 : decode cX11_round 32 = .ok (.aload_n 0, 1) := by decide +kernel
theorem dX11_round_33 : decode cX11_round 33 = .ok (.getfield 92, 3) := by decide +kernel
theorem dX11_round_36 : decode cX11_round 36 = .ok (.iconst 0, 1) := by decide +kernel
theorem dX11_round_37 : decode cX11_round 37 = .ok (.aload_n 0, 1) := by decide +kernel
theorem dX11_round_38 : decode cX11_round 38 = .ok (.getfield 79, 3) := by decide +kernel
theorem dX11_round_41 : decode cX11_round 41 = .ok (.invokevirtual 273, 3) := by decide +kernel
theorem dX11_round_44 : decode cX11_round 44 = .ok (.invokevirtual 231, 3) := by decide +kernel
theorem dX11_round_47 : decode cX11_round 47 = .ok (.iconst 1, 1) := by decide +kernel
theorem dX11_round_48 : decode cX11_round 48 = .ok (.istore_n 2, 1) := by decide +kernel
theorem dX11_round_49 : decode cX11_round 49 = .ok (.iload_n 2, 1) := by decide +kernel
theorem dX11_round_50 : decode cX11_round 50 = .ok (.sipush 200, 3) := by decide +kernel
theorem dX11_round_53 : decode cX11_round 53 = .ok (.if_icmp .gt 63, 3) := by decide +kernel
theorem dX11_round_56 : decode cX11_round 56 = .ok (.aload_n 0, 1) := by decide +kernel
theorem dX11_round_57 : decode cX11_round 57 = .ok (.getfield 79, 3) := by decide +kernel
theorem dX11_round_60 : decode cX11_round 60 = .ok (.invokevirtual 254, 3) := by decide +kernel
theorem dX11_round_63 : decode cX11_round 63 = .ok (.aload_n 0, 1) := by decide +kernel
theorem dX11_round_64 : decode cX11_round 64 = .ok (.getfield 92, 3) := by decide +kernel
theorem dX11_round_67 : decode cX11_round 67 = .ok (.iload_n 2, 1) := by decide +kernel
theorem dX11_round_68 : decode cX11_round 68 = .ok (.aload_n 0, 1) := by decide +kernel
theorem dX11_round_69 : decode cX11_round 69 = .ok (.getfield 79, 3) := by decide +kernel
theorem dX11_round_72 : decode cX11_round 72 = .ok (.invokevirtual 273, 3) := by decide +kernel
theorem dX11_round_75 : decode cX11_round 75 = .ok (.invokevirtual 231, 3) := by decide +kernel
theorem dX11_round_78 : decode cX11_round 78 = .ok (.aload_n 0, 1) := by decide +kernel
theorem dX11_round_79 : decode cX11_round 79 = .ok (.getfield 92, 3) := by decide +kernel
theorem dX11_round_82 : decode cX11_round 82 = .ok (.aload_n 0, 1) := by decide +kernel
theorem dX11_round_83 : decode cX11_round 83 = .ok (.getfield 79, 3) := by decide +kernel
theorem dX11_round_86 : decode cX11_round 86 = .ok (.invokevirtual 273, 3) := by decide +kernel
theorem dX11_round_89 : decode cX11_round 89 = .ok (.invokestatic 276, 3) := by decide +kernel
theorem dX11_round_92 : decode cX11_round 92 = .ok (.istore_n 3, 1) := by decide +kernel
theorem dX11_round_93 : decode cX11_round 93 = .ok (.iload_n 3, 1) := by decide +kernel
theorem dX11_round_94 : decode cX11_round 94 = .ok (.iload_n 2, 1) := by decide +kernel
theorem dX11_round_95 : decode cX11_round 95 = .ok (.if_icmp .ge 15, 3) := by decide +kernel
theorem dX11_round_98 : decode cX11_round 98 = .ok (.iload_n 1, 1) := by decide +kernel
theorem dX11_round_99 : decode cX11_round 99 = .ok (.ifCond .ne 7, 3) := by decide +kernel
theorem dX11_round_102 : decode cX11_round 102 = .ok (.iload_n 3, 1) := by decide +kernel
theorem dX11_round_103 : decode cX11_round 103 = .ok (.goto 6, 3) := by decide +kernel
theorem dX11_round_106 : decode cX11_round 106 = .ok (.iload_n 2, 1) := by decide +kernel
theorem dX11_round_107 : decode cX11_round 107 = .ok (.iload_n 3, 1) := by decide +kernel
theorem dX11_round_108 : decode cX11_round 108 = .ok (.isub, 1) := by decide +kernel
theorem dX11_round_109 : decode cX11_round 109 = .ok (.ireturn, 1) := by decide +kernel
theorem dX11_round_110 : decode cX11_round 110 = .ok (.iinc 2 1, 3) := by decide +kernel
theorem dX11_round_113 : decode cX11_round 113 = .ok (.goto (-64), 3) := by decide +kernel
theorem dX11_round_116 : decode cX11_round 116 = .ok (.iconst (-1), 1) := by decide +kernel
theorem dX11_round_117 : decode cX11_round 117 = .ok (.ireturn, 1) := by decide +kernel
set_option maxRecDepth 100000 in
theorem u_X11_round_49 {x : sm_Cx} {n : Nat} {F : Int32 → sm_MI → sm_ML → Prop} {T : List sm_Sh} {I : sm_MI} {L : sm_ML} {a1 : Int32} {a2 : Int32} {u3 : Option Value} (hB : sm_Bs T) (hx : sm_Ok x mX11_round (n + 1) (sm_KI T F))
    (h : (200 < a2 → F (-1) I L) ∧ (¬ 200 < a2 → sm_CV n mX0_goOneNight T I L [.ref 53] (fun I1 L1 => sm_CI n mX0_roundKey T I1 L1 [.ref 53] (fun r3 I2 L2 => sm_CV n mX3_set T I2 L2 [.ref 68, .int a2, .int r3] (fun I4 L4 => sm_CI n mX0_roundKey T I4 L4 [.ref 53] (fun r6 I5 L5 => sm_CI n mX11_firstOf T I5 L5 [.ref 68, .int r6] (fun r8 I7 L7 => (a2 ≤ r8 → sm_V x 0 0 T I7 L7 49 [some (.ref 0), some (.int a1), some (.int (a2 + 1)), some (.int r8)] []) ∧ (¬ a2 ≤ r8 → (¬ a1 = 0 → F (a2 - r8) I7 L7) ∧ (a1 = 0 → F r8 I7 L7))))))))) :
    sm_V x 0 0 T I L 49 [some (.ref 0), some (.int a1), some (.int a2), u3] [] :=
  sm_iload_n (z := a2) hx dX11_round_49 rfl (sm_sipush (v := 200) hx dX11_round_50 sm_ks_200 (sm_icmpgt (a := a2) (b := 200) hx dX11_round_53 (tgt := 116) (by decide) (fun q3 => sm_iconst (v := (-1)) hx dX11_round_116 sm_kc_m1 (sm_iretI hx dX11_round_117 rfl (h.1 q3))) (fun q3 => sm_aload_n (z := 0) hx dX11_round_56 rfl (sm_getR hx dX11_round_57 fl_X11_79_11 (t_0 hB) rfl (sm_callVV (args := []) (st := []) hx dX11_round_60 lv_X11_254_1 rfl rfl (t_53 hB) rfl rfl (h.2 q3) (fun I1 L1 hI1 => sm_aload_n (z := 0) hx dX11_round_63 rfl (sm_getR hx dX11_round_64 fl_X11_92_11 (t_0 hB) rfl (sm_iload_n (z := a2) hx dX11_round_67 rfl (sm_aload_n (z := 0) hx dX11_round_68 rfl (sm_getR hx dX11_round_69 fl_X11_79_11 (t_0 hB) rfl (sm_callVI (args := []) (st := [.int a2, .ref 68]) hx dX11_round_72 lv_X11_273_1 rfl rfl (t_53 hB) rfl rfl hI1 (fun r3 I2 L2 hI2 => sm_callVV (args := [.int a2, .int r3]) (st := []) hx dX11_round_75 lv_X11_231_3 rfl rfl (t_68 hB) rfl rfl hI2 (fun I4 L4 hI4 => sm_aload_n (z := 0) hx dX11_round_78 rfl (sm_getR hx dX11_round_79 fl_X11_92_11 (t_0 hB) rfl (sm_aload_n (z := 0) hx dX11_round_82 rfl (sm_getR hx dX11_round_83 fl_X11_79_11 (t_0 hB) rfl (sm_callVI (args := []) (st := [.ref 68]) hx dX11_round_86 lv_X11_273_1 rfl rfl (t_53 hB) rfl rfl hI4 (fun r6 I5 L5 hI5 => sm_callSI (args := [.ref 68, .int r6]) (st := []) hx dX11_round_89 ls_X11_276 rfl rfl rfl hI5 (fun r8 I7 L7 hI7 => sm_istore_n (ls' := [some (.ref 0), some (.int a1), some (.int a2), some (.int r8)]) hx dX11_round_92 (by decide) rfl (sm_iload_n (z := r8) hx dX11_round_93 rfl (sm_iload_n (z := a2) hx dX11_round_94 rfl (sm_icmpge (a := r8) (b := a2) hx dX11_round_95 (tgt := 110) (by decide) (fun q2 => sm_iinc (ls' := [some (.ref 0), some (.int a1), some (.int (a2 + 1)), some (.int r8)]) (z := a2) (v := (a2 + 1)) hx dX11_round_110 rfl (sm_kii_1 _) (by decide) rfl (sm_goto hx dX11_round_113 (tgt := 49) (by decide) ((hI7.1 q2)))) (fun q2 => sm_iload_n (z := a1) hx dX11_round_98 rfl (sm_ifne (a := a1) hx dX11_round_99 (tgt := 106) (by decide) (fun q1 => sm_iload_n (z := a2) hx dX11_round_106 rfl (sm_iload_n (z := r8) hx dX11_round_107 rfl (sm_isub (a := a2) (b := r8) hx dX11_round_108 (sm_iretI hx dX11_round_109 rfl ((hI7.2 q2).1 q1))))) (fun q1 => sm_iload_n (z := r8) hx dX11_round_102 rfl (sm_goto hx dX11_round_103 (tgt := 109) (by decide) (sm_iretI hx dX11_round_109 rfl ((hI7.2 q2).2 q1))))))))))))))))))))))))))))
set_option maxRecDepth 100000 in
theorem c_X11_round {n : Nat} {F : Int32 → sm_MI → sm_ML → Prop} {T : List sm_Sh} {I : sm_MI} {L : sm_ML} {a1 : Int32} (hB : sm_Bs T)
    (h : ∀ x : sm_Cx, sm_Ok x mX11_round (n + 1) (sm_KI T F) → sm_CZ n mX8_isTold T I L [.ref 24] (fun r2 I1 L1 => (r2 = false → F (-1) I1 L1) ∧ (r2 = true → sm_CZ n mX11_within T I1 L1 [.int a1, .int 0, .int 1] (fun r4 I3 L3 => (r4 = true → sm_CV n mX0_begin T I3 L3 [.ref 53, .ref 35] (fun I5 L5 => sm_CI n mX0_roundKey T I5 L5 [.ref 53] (fun r7 I6 L6 => sm_CV n mX3_set T I6 L6 [.ref 68, .int 0, .int r7] (fun I8 L8 => sm_V x 0 0 T I8 L8 49 [some (.ref 0), some (.int a1), some (.int 1), none] [])))) ∧ (r4 = false → F (-1) I3 L3))))) :
    sm_CI (n + 1) mX11_round T I L [.ref 0, .int a1] F :=
  sm_CI.of (by decide +kernel) rfl (fun x hx => show sm_V x 0 0 T I L 0 [some (.ref 0), some (.int a1), none, none] [] from
  sm_aload_n (z := 0) hx dX11_round_0 rfl (sm_getR hx dX11_round_1 fl_X11_42_11 (t_0 hB) rfl (sm_callVZ (args := []) (st := []) hx dX11_round_4 lv_X11_210_8 rfl rfl (t_24 hB) rfl rfl (h x hx) (fun r2 I1 L1 hI1 => sm_ifeqZ (b := r2) hx dX11_round_7 (tgt := 19) (by decide) (fun q5 => sm_iconst (v := (-1)) hx dX11_round_19 sm_kc_m1 (sm_iretI hx dX11_round_20 rfl (hI1.1 q5))) (fun q5 => sm_iload_n (z := a1) hx dX11_round_10 rfl (sm_iconst (v := 0) hx dX11_round_11 sm_kc_0 (sm_iconst (v := 1) hx dX11_round_12 sm_kc_1 (sm_callSZ (args := [.int a1, .int 0, .int 1]) (st := []) hx dX11_round_13 ls_X11_115 rfl rfl rfl (hI1.2 q5) (fun r4 I3 L3 hI3 => sm_ifneZ (b := r4) hx dX11_round_16 (tgt := 21) (by decide) (fun q4 => sm_aload_n (z := 0) hx dX11_round_21 rfl (sm_getR hx dX11_round_22 fl_X11_79_11 (t_0 hB) rfl (sm_aload_n (z := 0) hx dX11_round_25 rfl (sm_getR hx dX11_round_26 fl_X11_49_11 (t_0 hB) rfl (sm_callVV (args := [.ref 35]) (st := []) hx dX11_round_29 lv_X11_250_1 rfl rfl (t_53 hB) rfl rfl (hI3.1 q4) (fun I5 L5 hI5 => sm_aload_n (z := 0) hx dX11_round_32 rfl (sm_getR hx dX11_round_33 fl_X11_92_11 (t_0 hB) rfl (sm_iconst (v := 0) hx dX11_round_36 sm_kc_0 (sm_aload_n (z := 0) hx dX11_round_37 rfl (sm_getR hx dX11_round_38 fl_X11_79_11 (t_0 hB) rfl (sm_callVI (args := []) (st := [.int 0, .ref 68]) hx dX11_round_41 lv_X11_273_1 rfl rfl (t_53 hB) rfl rfl hI5 (fun r7 I6 L6 hI6 => sm_callVV (args := [.int 0, .int r7]) (st := []) hx dX11_round_44 lv_X11_231_3 rfl rfl (t_68 hB) rfl rfl hI6 (fun I8 L8 hI8 => sm_iconst (v := 1) hx dX11_round_47 sm_kc_1 (sm_istore_n (ls' := [some (.ref 0), some (.int a1), some (.int 1), none]) hx dX11_round_48 (by decide) rfl (hI8))))))))))))))) (fun q4 => sm_iconst (v := (-1)) hx dX11_round_19 sm_kc_m1 (sm_iretI hx dX11_round_20 rfl (hI3.2 q4))))))))))))
theorem dX11_path_0 : decode cX11_path 0 = .ok (.aload_n 0, 1) := by decide +kernel
theorem dX11_path_1 : decode cX11_path 1 = .ok (.getfield 42, 3) := by decide +kernel
theorem dX11_path_4 : decode cX11_path 4 = .ok (.iload_n 1, 1) := by decide +kernel
theorem dX11_path_5 : decode cX11_path 5 = .ok (.invokevirtual 194, 3) := by decide +kernel
theorem dX11_path_8 : decode cX11_path 8 = .ok (.ifCond .eq 13, 3) := by decide +kernel
theorem dX11_path_11 : decode cX11_path 11 = .ok (.iload_n 2, 1) := by decide +kernel
theorem dX11_path_12 : decode cX11_path 12 = .ok (.iconst 1, 1) := by decide +kernel
theorem dX11_path_13 : decode cX11_path 13 = .ok (.bipush 60, 2) := by decide +kernel
theorem dX11_path_15 : decode cX11_path 15 = .ok (.invokestatic 115, 3) := by decide +kernel
theorem dX11_path_18 : decode cX11_path 18 = .ok (.ifCond .ne 6, 3) := by decide +kernel
theorem dX11_path_21 : decode cX11_path 21 = .ok (.ldc 230, 2) := by decide +kernel
theorem dX11_path_23 : decode cX11_path 23 = .ok (.ireturn, 1) := by decide +kernel
theorem dX11_path_24 : decode cX11_path 24 = .ok (.iconst 0, 1) := by decide +kernel
theorem dX11_path_25 : decode cX11_path 25 = .ok (.istore 4, 2) := by decide +kernel
theorem dX11_path_27 : decode cX11_path 27 = .ok (.aload_n 0, 1) := by decide +kernel
theorem dX11_path_28 : decode cX11_path 28 = .ok (.getfield 79, 3) := by decide +kernel
theorem dX11_path_31 : decode cX11_path 31 = .ok (.aload_n 0, 1) := by decide +kernel
theorem dX11_path_32 : decode cX11_path 32 = .ok (.getfield 49, 3) := by decide +kernel
theorem dX11_path_35 : decode cX11_path 35 = .ok (.invokevirtual 250, 3) := by decide +kernel
theorem dX11_path_38 : decode cX11_path 38 = .ok (.iconst 0, 1) := by decide +kernel
theorem dX11_path_39 : decode cX11_path 39 = .ok (.istore 5, 2) := by decide +kernel
theorem dX11_path_41 : decode cX11_path 41 = .ok (.iload 5, 2) := by decide +kernel
theorem dX11_path_43 : decode cX11_path 43 = .ok (.iload_n 2, 1) := by decide +kernel
theorem dX11_path_44 : decode cX11_path 44 = .ok (.if_icmp .ge 68, 3) := by decide +kernel
theorem dX11_path_47 : decode cX11_path 47 = .ok (.aload_n 0, 1) := by decide +kernel
theorem dX11_path_48 : decode cX11_path 48 = .ok (.getfield 79, 3) := by decide +kernel
theorem dX11_path_51 : decode cX11_path 51 = .ok (.getfield 266, 3) := by decide +kernel
theorem dX11_path_54 : decode cX11_path 54 = .ok (.iload_n 1, 1) := by decide +kernel
theorem dX11_path_55 : decode cX11_path 55 = .ok (.invokestatic 197, 3) := by decide +kernel
theorem dX11_path_58 : decode cX11_path 58 = .ok (.istore 6, 2) := by decide +kernel
theorem dX11_path_60 : decode cX11_path 60 = .ok (.aload_n 0, 1) := by decide +kernel
theorem dX11_path_61 : decode cX11_path 61 = .ok (.getfield 79, 3) := by decide +kernel
theorem dX11_path_64 : decode cX11_path 64 = .ok (.invokevirtual 254, 3) := by decide +kernel
theorem dX11_path_67 : decode cX11_path 67 = .ok (.aload_n 0, 1) := by decide +kernel
theorem dX11_path_68 : decode cX11_path 68 = .ok (.getfield 79, 3) := by decide +kernel
theorem dX11_path_71 : decode cX11_path 71 = .ok (.getfield 266, 3) := by decide +kernel
theorem dX11_path_74 : decode cX11_path 74 = .ok (.iload_n 1, 1) := by decide +kernel
theorem dX11_path_75 : decode cX11_path 75 = .ok (.invokestatic 197, 3) := by decide +kernel
theorem dX11_path_78 : decode cX11_path 78 = .ok (.istore 7, 2) := by decide +kernel
theorem dX11_path_80 : decode cX11_path 80 = .ok (.iload 7, 2) := by decide +kernel
theorem dX11_path_82 : decode cX11_path 82 = .ok (.iload 6, 2) := by decide +kernel
theorem dX11_path_84 : decode cX11_path 84 = .ok (.if_icmp .eq 12, 3) := by decide +kernel
theorem dX11_path_87 : decode cX11_path 87 = .ok (.iload 4, 2) := by decide +kernel
theorem dX11_path_89 : decode cX11_path 89 = .ok (.iload_n 3, 1) := by decide +kernel
theorem dX11_path_90 : decode cX11_path 90 = .ok (.if_icmp .ne 6, 3) := by decide +kernel
theorem dX11_path_93 : decode cX11_path 93 = .ok (.iload 7, 2) := by decide +kernel
theorem dX11_path_95 : decode cX11_path 95 = .ok (.ireturn, 1) := by decide +kernel
theorem dX11_path_96 : decode cX11_path 96 = .ok (.iload 7, 2) := by decide +kernel
theorem dX11_path_98 : decode cX11_path 98 = .ok (.iload 6, 2) := by decide +kernel
theorem dX11_path_100 : decode cX11_path 100 = .ok (.if_icmp .eq 6, 3) := by decide +kernel
theorem dX11_path_103 : decode cX11_path 103 = .ok (.iinc 4 1, 3) := by decide +kernel
theorem dX11_path_106 : decode cX11_path 106 = .ok (.iinc 5 1, 3) := by decide +kernel
theorem dX11_path_109 : decode cX11_path 109 = .ok (.goto (-68), 3) := by decide +kernel
theorem dX11_path_112 : decode cX11_path 112 = .ok (.iload_n 3, 1) := by decide +kernel
theorem dX11_path_113 : decode cX11_path 113 = .ok (.iconst (-1), 1) := by decide +kernel
theorem dX11_path_114 : decode cX11_path 114 = .ok (.if_icmp .ne 8, 3) := by decide +kernel
theorem dX11_path_117 : decode cX11_path 117 = .ok (.iload 4, 2) := by decide +kernel
theorem dX11_path_119 : decode cX11_path 119 = .ok (.goto 4, 3) := by decide +kernel
theorem dX11_path_122 : decode cX11_path 122 = .ok (.iconst (-1), 1) := by decide +kernel
theorem dX11_path_123 : decode cX11_path 123 = .ok (.ireturn, 1) := by decide +kernel
set_option maxRecDepth 100000 in
theorem u_X11_path_41 {x : sm_Cx} {n : Nat} {F : Int32 → sm_MI → sm_ML → Prop} {T : List sm_Sh} {I : sm_MI} {L : sm_ML} {a1 : Int32} {a2 : Int32} {a3 : Int32} {a4 : Int32} {a5 : Int32} {u6 : Option Value} {u7 : Option Value} (hB : sm_Bs T) (hx : sm_Ok x mX11_path (n + 1) (sm_KI T F))
    (h : (a2 ≤ a5 → (¬ a3 = (-1) → F (-1) I L) ∧ (a3 = (-1) → F a4 I L)) ∧ (¬ a2 ≤ a5 → sm_CI n mX11_placeIn T I L [.int (I 53 0), .int a1] (fun r2 I1 L1 => sm_CV n mX0_goOneNight T I1 L1 [.ref 53] (fun I3 L3 => sm_CI n mX11_placeIn T I3 L3 [.int (I3 53 0), .int a1] (fun r5 I4 L4 => (r5 = r2 → (r5 = r2 → sm_V x 0 0 T I4 L4 41 [some (.ref 0), some (.int a1), some (.int a2), some (.int a3), some (.int a4), some (.int (a5 + 1)), some (.int r2), some (.int r5)] []) ∧ (¬ r5 = r2 → sm_V x 0 0 T I4 L4 41 [some (.ref 0), some (.int a1), some (.int a2), some (.int a3), some (.int (a4 + 1)), some (.int (a5 + 1)), some (.int r2), some (.int r5)] [])) ∧ (¬ r5 = r2 → (¬ a4 = a3 → (r5 = r2 → sm_V x 0 0 T I4 L4 41 [some (.ref 0), some (.int a1), some (.int a2), some (.int a3), some (.int a4), some (.int (a5 + 1)), some (.int r2), some (.int r5)] []) ∧ (¬ r5 = r2 → sm_V x 0 0 T I4 L4 41 [some (.ref 0), some (.int a1), some (.int a2), some (.int a3), some (.int (a4 + 1)), some (.int (a5 + 1)), some (.int r2), some (.int r5)] [])) ∧ (a4 = a3 → F r5 I4 L4))))))) :
    sm_V x 0 0 T I L 41 [some (.ref 0), some (.int a1), some (.int a2), some (.int a3), some (.int a4), some (.int a5), u6, u7] [] :=
  sm_iload (z := a5) hx dX11_path_41 rfl (sm_iload_n (z := a2) hx dX11_path_43 rfl (sm_icmpge (a := a5) (b := a2) hx dX11_path_44 (tgt := 112) (by decide) (fun q6 => sm_iload_n (z := a3) hx dX11_path_112 rfl (sm_iconst (v := (-1)) hx dX11_path_113 sm_kc_m1 (sm_icmpne (a := a3) (b := (-1)) hx dX11_path_114 (tgt := 122) (by decide) (fun q1 => sm_iconst (v := (-1)) hx dX11_path_122 sm_kc_m1 (sm_iretI hx dX11_path_123 rfl ((h.1 q6).1 q1))) (fun q1 => sm_iload (z := a4) hx dX11_path_117 rfl (sm_goto hx dX11_path_119 (tgt := 123) (by decide) (sm_iretI hx dX11_path_123 rfl ((h.1 q6).2 q1))))))) (fun q6 => sm_aload_n (z := 0) hx dX11_path_47 rfl (sm_getR hx dX11_path_48 fl_X11_79_11 (t_0 hB) rfl (sm_getI hx dX11_path_51 fl_X11_266_1 (t_53 hB) rfl (sm_iload_n (z := a1) hx dX11_path_54 rfl (sm_callSI (args := [.int (I 53 0), .int a1]) (st := []) hx dX11_path_55 ls_X11_197 rfl rfl rfl (h.2 q6) (fun r2 I1 L1 hI1 => sm_istore (ls' := [some (.ref 0), some (.int a1), some (.int a2), some (.int a3), some (.int a4), some (.int a5), some (.int r2), u7]) hx dX11_path_58 (by decide) rfl (sm_aload_n (z := 0) hx dX11_path_60 rfl (sm_getR hx dX11_path_61 fl_X11_79_11 (t_0 hB) rfl (sm_callVV (args := []) (st := []) hx dX11_path_64 lv_X11_254_1 rfl rfl (t_53 hB) rfl rfl hI1 (fun I3 L3 hI3 => sm_aload_n (z := 0) hx dX11_path_67 rfl (sm_getR hx dX11_path_68 fl_X11_79_11 (t_0 hB) rfl (sm_getI hx dX11_path_71 fl_X11_266_1 (t_53 hB) rfl (sm_iload_n (z := a1) hx dX11_path_74 rfl (sm_callSI (args := [.int (I3 53 0), .int a1]) (st := []) hx dX11_path_75 ls_X11_197 rfl rfl rfl hI3 (fun r5 I4 L4 hI4 => sm_istore (ls' := [some (.ref 0), some (.int a1), some (.int a2), some (.int a3), some (.int a4), some (.int a5), some (.int r2), some (.int r5)]) hx dX11_path_78 (by decide) rfl (sm_iload (z := r5) hx dX11_path_80 rfl (sm_iload (z := r2) hx dX11_path_82 rfl (sm_icmpeq (a := r5) (b := r2) hx dX11_path_84 (tgt := 96) (by decide) (fun q5 => sm_iload (z := r5) hx dX11_path_96 rfl (sm_iload (z := r2) hx dX11_path_98 rfl (sm_icmpeq (a := r5) (b := r2) hx dX11_path_100 (tgt := 106) (by decide) (fun q2 => sm_iinc (ls' := [some (.ref 0), some (.int a1), some (.int a2), some (.int a3), some (.int a4), some (.int (a5 + 1)), some (.int r2), some (.int r5)]) (z := a5) (v := (a5 + 1)) hx dX11_path_106 rfl (sm_kii_1 _) (by decide) rfl (sm_goto hx dX11_path_109 (tgt := 41) (by decide) (((hI4.1 q5).1 q2)))) (fun q2 => sm_iinc (ls' := [some (.ref 0), some (.int a1), some (.int a2), some (.int a3), some (.int (a4 + 1)), some (.int a5), some (.int r2), some (.int r5)]) (z := a4) (v := (a4 + 1)) hx dX11_path_103 rfl (sm_kii_1 _) (by decide) rfl (sm_iinc (ls' := [some (.ref 0), some (.int a1), some (.int a2), some (.int a3), some (.int (a4 + 1)), some (.int (a5 + 1)), some (.int r2), some (.int r5)]) (z := a5) (v := (a5 + 1)) hx dX11_path_106 rfl (sm_kii_1 _) (by decide) rfl (sm_goto hx dX11_path_109 (tgt := 41) (by decide) (((hI4.1 q5).2 q2)))))))) (fun q5 => sm_iload (z := a4) hx dX11_path_87 rfl (sm_iload_n (z := a3) hx dX11_path_89 rfl (sm_icmpne (a := a4) (b := a3) hx dX11_path_90 (tgt := 96) (by decide) (fun q4 => sm_iload (z := r5) hx dX11_path_96 rfl (sm_iload (z := r2) hx dX11_path_98 rfl (sm_icmpeq (a := r5) (b := r2) hx dX11_path_100 (tgt := 106) (by decide) (fun q3 => sm_iinc (ls' := [some (.ref 0), some (.int a1), some (.int a2), some (.int a3), some (.int a4), some (.int (a5 + 1)), some (.int r2), some (.int r5)]) (z := a5) (v := (a5 + 1)) hx dX11_path_106 rfl (sm_kii_1 _) (by decide) rfl (sm_goto hx dX11_path_109 (tgt := 41) (by decide) ((((hI4.2 q5).1 q4).1 q3)))) (fun q3 => sm_iinc (ls' := [some (.ref 0), some (.int a1), some (.int a2), some (.int a3), some (.int (a4 + 1)), some (.int a5), some (.int r2), some (.int r5)]) (z := a4) (v := (a4 + 1)) hx dX11_path_103 rfl (sm_kii_1 _) (by decide) rfl (sm_iinc (ls' := [some (.ref 0), some (.int a1), some (.int a2), some (.int a3), some (.int (a4 + 1)), some (.int (a5 + 1)), some (.int r2), some (.int r5)]) (z := a5) (v := (a5 + 1)) hx dX11_path_106 rfl (sm_kii_1 _) (by decide) rfl (sm_goto hx dX11_path_109 (tgt := 41) (by decide) ((((hI4.2 q5).1 q4).2 q3)))))))) (fun q4 => sm_iload (z := r5) hx dX11_path_93 rfl (sm_iretI hx dX11_path_95 rfl ((hI4.2 q5).2 q4))))))))))))))))))))))))))
set_option maxRecDepth 100000 in
theorem c_X11_path {n : Nat} {F : Int32 → sm_MI → sm_ML → Prop} {T : List sm_Sh} {I : sm_MI} {L : sm_ML} {a1 : Int32} {a2 : Int32} {a3 : Int32} (hB : sm_Bs T)
    (h : ∀ x : sm_Cx, sm_Ok x mX11_path (n + 1) (sm_KI T F) → sm_CZ n mX8_hasThing T I L [.ref 24, .int a1] (fun r2 I1 L1 => (r2 = false → F (-1000000) I1 L1) ∧ (r2 = true → sm_CZ n mX11_within T I1 L1 [.int a2, .int 1, .int 60] (fun r4 I3 L3 => (r4 = true → sm_CV n mX0_begin T I3 L3 [.ref 53, .ref 35] (fun I5 L5 => sm_V x 0 0 T I5 L5 41 [some (.ref 0), some (.int a1), some (.int a2), some (.int a3), some (.int 0), some (.int 0), none, none] [])) ∧ (r4 = false → F (-1000000) I3 L3))))) :
    sm_CI (n + 1) mX11_path T I L [.ref 0, .int a1, .int a2, .int a3] F :=
  sm_CI.of (by decide +kernel) rfl (fun x hx => show sm_V x 0 0 T I L 0 [some (.ref 0), some (.int a1), some (.int a2), some (.int a3), none, none, none, none] [] from
  sm_aload_n (z := 0) hx dX11_path_0 rfl (sm_getR hx dX11_path_1 fl_X11_42_11 (t_0 hB) rfl (sm_iload_n (z := a1) hx dX11_path_4 rfl (sm_callVZ (args := [.int a1]) (st := []) hx dX11_path_5 lv_X11_194_8 rfl rfl (t_24 hB) rfl rfl (h x hx) (fun r2 I1 L1 hI1 => sm_ifeqZ (b := r2) hx dX11_path_8 (tgt := 21) (by decide) (fun q8 => sm_ldc (v := (-1000000)) hx dX11_path_21 k_X11_230 (sm_iretI hx dX11_path_23 rfl (hI1.1 q8))) (fun q8 => sm_iload_n (z := a2) hx dX11_path_11 rfl (sm_iconst (v := 1) hx dX11_path_12 sm_kc_1 (sm_bipush (v := 60) hx dX11_path_13 sm_kb_60 (sm_callSZ (args := [.int a2, .int 1, .int 60]) (st := []) hx dX11_path_15 ls_X11_115 rfl rfl rfl (hI1.2 q8) (fun r4 I3 L3 hI3 => sm_ifneZ (b := r4) hx dX11_path_18 (tgt := 24) (by decide) (fun q7 => sm_iconst (v := 0) hx dX11_path_24 sm_kc_0 (sm_istore (ls' := [some (.ref 0), some (.int a1), some (.int a2), some (.int a3), some (.int 0), none, none, none]) hx dX11_path_25 (by decide) rfl (sm_aload_n (z := 0) hx dX11_path_27 rfl (sm_getR hx dX11_path_28 fl_X11_79_11 (t_0 hB) rfl (sm_aload_n (z := 0) hx dX11_path_31 rfl (sm_getR hx dX11_path_32 fl_X11_49_11 (t_0 hB) rfl (sm_callVV (args := [.ref 35]) (st := []) hx dX11_path_35 lv_X11_250_1 rfl rfl (t_53 hB) rfl rfl (hI3.1 q7) (fun I5 L5 hI5 => sm_iconst (v := 0) hx dX11_path_38 sm_kc_0 (sm_istore (ls' := [some (.ref 0), some (.int a1), some (.int a2), some (.int a3), some (.int 0), some (.int 0), none, none]) hx dX11_path_39 (by decide) rfl (hI5)))))))))) (fun q7 => sm_ldc (v := (-1000000)) hx dX11_path_21 k_X11_230 (sm_iretI hx dX11_path_23 rfl (hI3.2 q7)))))))))))))
theorem dX11_span_0 : decode cX11_span 0 = .ok (.aload_n 0, 1) := by decide +kernel
theorem dX11_span_1 : decode cX11_span 1 = .ok (.getfield 42, 3) := by decide +kernel
theorem dX11_span_4 : decode cX11_span 4 = .ok (.iload_n 1, 1) := by decide +kernel
theorem dX11_span_5 : decode cX11_span 5 = .ok (.invokevirtual 194, 3) := by decide +kernel
theorem dX11_span_8 : decode cX11_span 8 = .ok (.ifCond .eq 13, 3) := by decide +kernel
theorem dX11_span_11 : decode cX11_span 11 = .ok (.iload_n 2, 1) := by decide +kernel
theorem dX11_span_12 : decode cX11_span 12 = .ok (.iconst 1, 1) := by decide +kernel
theorem dX11_span_13 : decode cX11_span 13 = .ok (.bipush 60, 2) := by decide +kernel
theorem dX11_span_15 : decode cX11_span 15 = .ok (.invokestatic 115, 3) := by decide +kernel
theorem dX11_span_18 : decode cX11_span 18 = .ok (.ifCond .ne 5, 3) := by decide +kernel
theorem dX11_span_21 : decode cX11_span 21 = .ok (.iconst (-1), 1) := by decide +kernel
theorem dX11_span_22 : decode cX11_span 22 = .ok (.ireturn, 1) := by decide +kernel
theorem dX11_span_23 : decode cX11_span 23 = .ok (.iconst 0, 1) := by decide +kernel
theorem dX11_span_24 : decode cX11_span 24 = .ok (.istore_n 3, 1) := by decide +kernel
theorem dX11_span_25 : decode cX11_span 25 = .ok (.iconst 0, 1) := by decide +kernel
theorem dX11_span_26 : decode cX11_span 26 = .ok (.istore 4, 2) := by decide +kernel
theorem dX11_span_28 : decode cX11_span 28 = .ok (.aload_n 0, 1) := by decide +kernel
theorem dX11_span_29 : decode cX11_span 29 = .ok (.getfield 79, 3) := by decide +kernel
theorem dX11_span_32 : decode cX11_span 32 = .ok (.aload_n 0, 1) := by decide +kernel
theorem dX11_span_33 : decode cX11_span 33 = .ok (.getfield 49, 3) := by decide +kernel
theorem dX11_span_36 : decode cX11_span 36 = .ok (.invokevirtual 250, 3) := by decide +kernel
theorem dX11_span_39 : decode cX11_span 39 = .ok (.iconst 0, 1) := by decide +kernel
theorem dX11_span_40 : decode cX11_span 40 = .ok (.istore 5, 2) := by decide +kernel
theorem dX11_span_42 : decode cX11_span 42 = .ok (.iload 5, 2) := by decide +kernel
theorem dX11_span_44 : decode cX11_span 44 = .ok (.iload_n 2, 1) := by decide +kernel
theorem dX11_span_45 : decode cX11_span 45 = .ok (.if_icmp .ge 62, 3) := by decide +kernel
theorem dX11_span_48 : decode cX11_span 48 = .ok (.aload_n 0, 1) := by decide +kernel
theorem dX11_span_49 : decode cX11_span 49 = .ok (.getfield 79, 3) := by decide +kernel
theorem dX11_span_52 : decode cX11_span 52 = .ok (.getfield 266, 3) := by decide +kernel
theorem dX11_span_55 : decode cX11_span 55 = .ok (.iload_n 1, 1) := by decide +kernel
theorem dX11_span_56 : decode cX11_span 56 = .ok (.invokestatic 197, 3) := by decide +kernel
theorem dX11_span_59 : decode cX11_span 59 = .ok (.istore 6, 2) := by decide +kernel
theorem dX11_span_61 : decode cX11_span 61 = .ok (.aload_n 0, 1) := by decide +kernel
theorem dX11_span_62 : decode cX11_span 62 = .ok (.getfield 79, 3) := by decide +kernel
theorem dX11_span_65 : decode cX11_span 65 = .ok (.invokevirtual 254, 3) := by decide +kernel
theorem dX11_span_68 : decode cX11_span 68 = .ok (.aload_n 0, 1) := by decide +kernel
theorem dX11_span_69 : decode cX11_span 69 = .ok (.getfield 79, 3) := by decide +kernel
theorem dX11_span_72 : decode cX11_span 72 = .ok (.getfield 266, 3) := by decide +kernel
theorem dX11_span_75 : decode cX11_span 75 = .ok (.iload_n 1, 1) := by decide +kernel
theorem dX11_span_76 : decode cX11_span 76 = .ok (.invokestatic 197, 3) := by decide +kernel
theorem dX11_span_79 : decode cX11_span 79 = .ok (.iload 6, 2) := by decide +kernel
theorem dX11_span_81 : decode cX11_span 81 = .ok (.if_icmp .ne 10, 3) := by decide +kernel
theorem dX11_span_84 : decode cX11_span 84 = .ok (.iload 4, 2) := by decide +kernel
theorem dX11_span_86 : decode cX11_span 86 = .ok (.iconst 1, 1) := by decide +kernel
theorem dX11_span_87 : decode cX11_span 87 = .ok (.iadd, 1) := by decide +kernel
theorem dX11_span_88 : decode cX11_span 88 = .ok (.goto 4, 3) := by decide +kernel
theorem dX11_span_91 : decode cX11_span 91 = .ok (.iconst 0, 1) := by decide +kernel
theorem dX11_span_92 : decode cX11_span 92 = .ok (.istore 4, 2) := by decide +kernel
theorem dX11_span_94 : decode cX11_span 94 = .ok (.iload_n 3, 1) := by decide +kernel
theorem dX11_span_95 : decode cX11_span 95 = .ok (.iload 4, 2) := by decide +kernel
theorem dX11_span_97 : decode cX11_span 97 = .ok (.invokestatic 280, 3) := by decide +kernel
theorem dX11_span_100 : decode cX11_span 100 = .ok (.istore_n 3, 1) := by decide +kernel
theorem dX11_span_101 : decode cX11_span 101 = .ok (.iinc 5 1, 3) := by decide +kernel
theorem dX11_span_104 : decode cX11_span 104 = .ok (.goto (-62), 3) := by decide +kernel
theorem dX11_span_107 : decode cX11_span 107 = .ok (.iload_n 3, 1) := by decide +kernel
theorem dX11_span_108 : decode cX11_span 108 = .ok (.ireturn, 1) := by decide +kernel
set_option maxRecDepth 100000 in
theorem u_X11_span_42 {x : sm_Cx} {n : Nat} {F : Int32 → sm_MI → sm_ML → Prop} {T : List sm_Sh} {I : sm_MI} {L : sm_ML} {a1 : Int32} {a2 : Int32} {a3 : Int32} {a4 : Int32} {a5 : Int32} {u6 : Option Value} (hB : sm_Bs T) (hx : sm_Ok x mX11_span (n + 1) (sm_KI T F))
    (h : (a2 ≤ a5 → F a3 I L) ∧ (¬ a2 ≤ a5 → sm_CI n mX11_placeIn T I L [.int (I 53 0), .int a1] (fun r2 I1 L1 => sm_CV n mX0_goOneNight T I1 L1 [.ref 53] (fun I3 L3 => sm_CI n mX11_placeIn T I3 L3 [.int (I3 53 0), .int a1] (fun r5 I4 L4 => (¬ r5 = r2 → sm_V x 0 0 T I4 L4 42 [some (.ref 0), some (.int a1), some (.int a2), some (.int (if a3 < 0 then 0 else a3)), some (.int 0), some (.int (a5 + 1)), some (.int r2)] []) ∧ (r5 = r2 → sm_V x 0 0 T I4 L4 42 [some (.ref 0), some (.int a1), some (.int a2), some (.int (if a3 < (a4 + 1) then (a4 + 1) else a3)), some (.int (a4 + 1)), some (.int (a5 + 1)), some (.int r2)] [])))))) :
    sm_V x 0 0 T I L 42 [some (.ref 0), some (.int a1), some (.int a2), some (.int a3), some (.int a4), some (.int a5), u6] [] :=
  sm_iload (z := a5) hx dX11_span_42 rfl (sm_iload_n (z := a2) hx dX11_span_44 rfl (sm_icmpge (a := a5) (b := a2) hx dX11_span_45 (tgt := 107) (by decide) (fun q2 => sm_iload_n (z := a3) hx dX11_span_107 rfl (sm_iretI hx dX11_span_108 rfl (h.1 q2))) (fun q2 => sm_aload_n (z := 0) hx dX11_span_48 rfl (sm_getR hx dX11_span_49 fl_X11_79_11 (t_0 hB) rfl (sm_getI hx dX11_span_52 fl_X11_266_1 (t_53 hB) rfl (sm_iload_n (z := a1) hx dX11_span_55 rfl (sm_callSI (args := [.int (I 53 0), .int a1]) (st := []) hx dX11_span_56 ls_X11_197 rfl rfl rfl (h.2 q2) (fun r2 I1 L1 hI1 => sm_istore (ls' := [some (.ref 0), some (.int a1), some (.int a2), some (.int a3), some (.int a4), some (.int a5), some (.int r2)]) hx dX11_span_59 (by decide) rfl (sm_aload_n (z := 0) hx dX11_span_61 rfl (sm_getR hx dX11_span_62 fl_X11_79_11 (t_0 hB) rfl (sm_callVV (args := []) (st := []) hx dX11_span_65 lv_X11_254_1 rfl rfl (t_53 hB) rfl rfl hI1 (fun I3 L3 hI3 => sm_aload_n (z := 0) hx dX11_span_68 rfl (sm_getR hx dX11_span_69 fl_X11_79_11 (t_0 hB) rfl (sm_getI hx dX11_span_72 fl_X11_266_1 (t_53 hB) rfl (sm_iload_n (z := a1) hx dX11_span_75 rfl (sm_callSI (args := [.int (I3 53 0), .int a1]) (st := []) hx dX11_span_76 ls_X11_197 rfl rfl rfl hI3 (fun r5 I4 L4 hI4 => sm_iload (z := r2) hx dX11_span_79 rfl (sm_icmpne (a := r5) (b := r2) hx dX11_span_81 (tgt := 91) (by decide) (fun q1 => sm_iconst (v := 0) hx dX11_span_91 sm_kc_0 (sm_istore (ls' := [some (.ref 0), some (.int a1), some (.int a2), some (.int a3), some (.int 0), some (.int a5), some (.int r2)]) hx dX11_span_92 (by decide) rfl (sm_iload_n (z := a3) hx dX11_span_94 rfl (sm_iload (z := 0) hx dX11_span_95 rfl (sm_mmax (a := a3) (b := 0) hx dX11_span_97 ml_X11_280 mm_max1 mm_2 mm_max3 rfl (sm_istore_n (ls' := [some (.ref 0), some (.int a1), some (.int a2), some (.int (if a3 < 0 then 0 else a3)), some (.int 0), some (.int a5), some (.int r2)]) hx dX11_span_100 (by decide) rfl (sm_iinc (ls' := [some (.ref 0), some (.int a1), some (.int a2), some (.int (if a3 < 0 then 0 else a3)), some (.int 0), some (.int (a5 + 1)), some (.int r2)]) (z := a5) (v := (a5 + 1)) hx dX11_span_101 rfl (sm_kii_1 _) (by decide) rfl (sm_goto hx dX11_span_104 (tgt := 42) (by decide) ((hI4.1 q1)))))))))) (fun q1 => sm_iload (z := a4) hx dX11_span_84 rfl (sm_iconst (v := 1) hx dX11_span_86 sm_kc_1 (sm_iadd (a := a4) (b := 1) hx dX11_span_87 (sm_goto hx dX11_span_88 (tgt := 92) (by decide) (sm_istore (ls' := [some (.ref 0), some (.int a1), some (.int a2), some (.int a3), some (.int (a4 + 1)), some (.int a5), some (.int r2)]) hx dX11_span_92 (by decide) rfl (sm_iload_n (z := a3) hx dX11_span_94 rfl (sm_iload (z := (a4 + 1)) hx dX11_span_95 rfl (sm_mmax (a := a3) (b := (a4 + 1)) hx dX11_span_97 ml_X11_280 mm_max1 mm_2 mm_max3 rfl (sm_istore_n (ls' := [some (.ref 0), some (.int a1), some (.int a2), some (.int (if a3 < (a4 + 1) then (a4 + 1) else a3)), some (.int (a4 + 1)), some (.int a5), some (.int r2)]) hx dX11_span_100 (by decide) rfl (sm_iinc (ls' := [some (.ref 0), some (.int a1), some (.int a2), some (.int (if a3 < (a4 + 1) then (a4 + 1) else a3)), some (.int (a4 + 1)), some (.int (a5 + 1)), some (.int r2)]) (z := a5) (v := (a5 + 1)) hx dX11_span_101 rfl (sm_kii_1 _) (by decide) rfl (sm_goto hx dX11_span_104 (tgt := 42) (by decide) ((hI4.2 q1)))))))))))))))))))))))))))))))
set_option maxRecDepth 100000 in
theorem c_X11_span {n : Nat} {F : Int32 → sm_MI → sm_ML → Prop} {T : List sm_Sh} {I : sm_MI} {L : sm_ML} {a1 : Int32} {a2 : Int32} (hB : sm_Bs T)
    (h : ∀ x : sm_Cx, sm_Ok x mX11_span (n + 1) (sm_KI T F) → sm_CZ n mX8_hasThing T I L [.ref 24, .int a1] (fun r2 I1 L1 => (r2 = false → F (-1) I1 L1) ∧ (r2 = true → sm_CZ n mX11_within T I1 L1 [.int a2, .int 1, .int 60] (fun r4 I3 L3 => (r4 = true → sm_CV n mX0_begin T I3 L3 [.ref 53, .ref 35] (fun I5 L5 => sm_V x 0 0 T I5 L5 42 [some (.ref 0), some (.int a1), some (.int a2), some (.int 0), some (.int 0), some (.int 0), none] [])) ∧ (r4 = false → F (-1) I3 L3))))) :
    sm_CI (n + 1) mX11_span T I L [.ref 0, .int a1, .int a2] F :=
  sm_CI.of (by decide +kernel) rfl (fun x hx => show sm_V x 0 0 T I L 0 [some (.ref 0), some (.int a1), some (.int a2), none, none, none, none] [] from
  sm_aload_n (z := 0) hx dX11_span_0 rfl (sm_getR hx dX11_span_1 fl_X11_42_11 (t_0 hB) rfl (sm_iload_n (z := a1) hx dX11_span_4 rfl (sm_callVZ (args := [.int a1]) (st := []) hx dX11_span_5 lv_X11_194_8 rfl rfl (t_24 hB) rfl rfl (h x hx) (fun r2 I1 L1 hI1 => sm_ifeqZ (b := r2) hx dX11_span_8 (tgt := 21) (by decide) (fun q4 => sm_iconst (v := (-1)) hx dX11_span_21 sm_kc_m1 (sm_iretI hx dX11_span_22 rfl (hI1.1 q4))) (fun q4 => sm_iload_n (z := a2) hx dX11_span_11 rfl (sm_iconst (v := 1) hx dX11_span_12 sm_kc_1 (sm_bipush (v := 60) hx dX11_span_13 sm_kb_60 (sm_callSZ (args := [.int a2, .int 1, .int 60]) (st := []) hx dX11_span_15 ls_X11_115 rfl rfl rfl (hI1.2 q4) (fun r4 I3 L3 hI3 => sm_ifneZ (b := r4) hx dX11_span_18 (tgt := 23) (by decide) (fun q3 => sm_iconst (v := 0) hx dX11_span_23 sm_kc_0 (sm_istore_n (ls' := [some (.ref 0), some (.int a1), some (.int a2), some (.int 0), none, none, none]) hx dX11_span_24 (by decide) rfl (sm_iconst (v := 0) hx dX11_span_25 sm_kc_0 (sm_istore (ls' := [some (.ref 0), some (.int a1), some (.int a2), some (.int 0), some (.int 0), none, none]) hx dX11_span_26 (by decide) rfl (sm_aload_n (z := 0) hx dX11_span_28 rfl (sm_getR hx dX11_span_29 fl_X11_79_11 (t_0 hB) rfl (sm_aload_n (z := 0) hx dX11_span_32 rfl (sm_getR hx dX11_span_33 fl_X11_49_11 (t_0 hB) rfl (sm_callVV (args := [.ref 35]) (st := []) hx dX11_span_36 lv_X11_250_1 rfl rfl (t_53 hB) rfl rfl (hI3.1 q3) (fun I5 L5 hI5 => sm_iconst (v := 0) hx dX11_span_39 sm_kc_0 (sm_istore (ls' := [some (.ref 0), some (.int a1), some (.int a2), some (.int 0), some (.int 0), some (.int 0), none]) hx dX11_span_40 (by decide) rfl (hI5)))))))))))) (fun q3 => sm_iconst (v := (-1)) hx dX11_span_21 sm_kc_m1 (sm_iretI hx dX11_span_22 rfl (hI3.2 q3)))))))))))))
theorem dX11_fullest_0 : decode cX11_fullest 0 = .ok (.aload_n 0, 1) := by decide +kernel
theorem dX11_fullest_1 : decode cX11_fullest 1 = .ok (.getfield 42, 3) := by decide +kernel
theorem dX11_fullest_4 : decode cX11_fullest 4 = .ok (.invokevirtual 210, 3) := by decide +kernel
theorem dX11_fullest_7 : decode cX11_fullest 7 = .ok (.ifCond .eq 22, 3) := by decide +kernel
theorem dX11_fullest_10 : decode cX11_fullest 10 = .ok (.iload_n 1, 1) := by decide +kernel
theorem dX11_fullest_11 : decode cX11_fullest 11 = .ok (.iconst 1, 1) := by decide +kernel
theorem dX11_fullest_12 : decode cX11_fullest 12 = .ok (.bipush 60, 2) := by decide +kernel
theorem dX11_fullest_14 : decode cX11_fullest 14 = .ok (.invokestatic 115, 3) := by decide +kernel
theorem dX11_fullest_17 : decode cX11_fullest 17 = .ok (.ifCond .eq 12, 3) := by decide +kernel
theorem dX11_fullest_20 : decode cX11_fullest 20 = .ok (.iload_n 2, 1) := by decide +kernel
theorem dX11_fullest_21 : decode cX11_fullest 21 = .ok (.iconst 0, 1) := by decide +kernel
theorem dX11_fullest_22 : decode cX11_fullest 22 = .ok (.iconst 2, 1) := by decide +kernel
theorem dX11_fullest_23 : decode cX11_fullest 23 = .ok (.invokestatic 115, 3) := by decide +kernel
theorem dX11_fullest_26 : decode cX11_fullest 26 = .ok (.ifCond .ne 5, 3) := by decide +kernel
theorem dX11_fullest_29 : decode cX11_fullest 29 = .ok (.iconst (-1), 1) := by decide +kernel
theorem dX11_fullest_30 : decode cX11_fullest 30 = .ok (.ireturn, 1) := by decide +kernel
theorem dX11_fullest_31 : decode cX11_fullest 31 = .ok (.iconst 0, 1) := by decide +kernel
theorem dX11_fullest_32 : decode cX11_fullest 32 = .ok (.istore_n 3, 1) := by decide +kernel
theorem dX11_fullest_33 : decode cX11_fullest 33 = .ok (.iconst (-1), 1) := by decide +kernel
theorem dX11_fullest_34 : decode cX11_fullest 34 = .ok (.istore 4, 2) := by decide +kernel
theorem dX11_fullest_36 : decode cX11_fullest 36 = .ok (.iconst (-1), 1) := by decide +kernel
theorem dX11_fullest_37 : decode cX11_fullest 37 = .ok (.istore 5, 2) := by decide +kernel
theorem dX11_fullest_39 : decode cX11_fullest 39 = .ok (.aload_n 0, 1) := by decide +kernel
theorem dX11_fullest_40 : decode cX11_fullest 40 = .ok (.getfield 79, 3) := by decide +kernel
theorem dX11_fullest_43 : decode cX11_fullest 43 = .ok (.aload_n 0, 1) := by decide +kernel
theorem dX11_fullest_44 : decode cX11_fullest 44 = .ok (.getfield 49, 3) := by decide +kernel
theorem dX11_fullest_47 : decode cX11_fullest 47 = .ok (.invokevirtual 250, 3) := by decide +kernel
theorem dX11_fullest_50 : decode cX11_fullest 50 = .ok (.iconst 1, 1) := by decide +kernel
theorem dX11_fullest_51 : decode cX11_fullest 51 = .ok (.istore 6, 2) := by decide +kernel
theorem dX11_fullest_53 : decode cX11_fullest 53 = .ok (.iload 6, 2) := by decide +kernel
theorem dX11_fullest_55 : decode cX11_fullest 55 = .ok (.iload_n 1, 1) := by decide +kernel
theorem dX11_fullest_56 : decode cX11_fullest 56 = .ok (.if_icmp .gt 70, 3) := by decide +kernel
theorem dX11_fullest_59 : decode cX11_fullest 59 = .ok (.aload_n 0, 1) := by decide +kernel
theorem dX11_fullest_60 : decode cX11_fullest 60 = .ok (.getfield 79, 3) := by decide +kernel
theorem dX11_fullest_63 : decode cX11_fullest 63 = .ok (.invokevirtual 254, 3) := by decide +kernel
theorem dX11_fullest_66 : decode cX11_fullest 66 = .ok (.aload_n 0, 1) := by decide +kernel
theorem dX11_fullest_67 : decode cX11_fullest 67 = .ok (.getfield 42, 3) := by decide +kernel
theorem dX11_fullest_70 : decode cX11_fullest 70 = .ok (.aload_n 0, 1) := by decide +kernel
theorem dX11_fullest_71 : decode cX11_fullest 71 = .ok (.getfield 79, 3) := by decide +kernel
theorem dX11_fullest_74 : decode cX11_fullest 74 = .ok (.getfield 266, 3) := by decide +kernel
theorem dX11_fullest_77 : decode cX11_fullest 77 = .ok (.invokevirtual 285, 3) := by decide +kernel
theorem dX11_fullest_80 : decode cX11_fullest 80 = .ok (.istore 7, 2) := by decide +kernel
theorem dX11_fullest_82 : decode cX11_fullest 82 = .ok (.aload_n 0, 1) := by decide +kernel
theorem dX11_fullest_83 : decode cX11_fullest 83 = .ok (.getfield 42, 3) := by decide +kernel
theorem dX11_fullest_86 : decode cX11_fullest 86 = .ok (.aload_n 0, 1) := by decide +kernel
theorem dX11_fullest_87 : decode cX11_fullest 87 = .ok (.getfield 79, 3) := by decide +kernel
theorem dX11_fullest_90 : decode cX11_fullest 90 = .ok (.getfield 266, 3) := by decide +kernel
theorem dX11_fullest_93 : decode cX11_fullest 93 = .ok (.iload 7, 2) := by decide +kernel
theorem dX11_fullest_95 : decode cX11_fullest 95 = .ok (.invokevirtual 204, 3) := by decide +kernel
theorem dX11_fullest_98 : decode cX11_fullest 98 = .ok (.invokestatic 288, 3) := by decide +kernel
theorem dX11_fullest_101 : decode cX11_fullest 101 = .ok (.istore 8, 2) := by decide +kernel
theorem dX11_fullest_103 : decode cX11_fullest 103 = .ok (.iload 8, 2) := by decide +kernel
theorem dX11_fullest_105 : decode cX11_fullest 105 = .ok (.iload_n 3, 1) := by decide +kernel
theorem dX11_fullest_106 : decode cX11_fullest 106 = .ok (.if_icmp .le 14, 3) := by decide +kernel
theorem dX11_fullest_109 : decode cX11_fullest 109 = .ok (.iload 8, 2) := by decide +kernel
theorem dX11_fullest_111 : decode cX11_fullest 111 = .ok (.istore_n 3, 1) := by decide +kernel
theorem dX11_fullest_112 : decode cX11_fullest 112 = .ok (.iload 6, 2) := by decide +kernel
theorem dX11_fullest_114 : decode cX11_fullest 114 = .ok (.istore 4, 2) := by decide +kernel
theorem dX11_fullest_116 : decode cX11_fullest 116 = .ok (.iload 7, 2) := by decide +kernel
theorem dX11_fullest_118 : decode cX11_fullest 118 = .ok (.istore 5, 2) := by decide +kernel
theorem dX11_fullest_120 : decode cX11_fullest 120 = .ok (.iinc 6 1, 3) := by decide +kernel
theorem dX11_fullest_123 : decode cX11_fullest 123 = .ok (.goto (-70), 3) := by decide +kernel
theorem dX11_fullest_126 : decode cX11_fullest 126 = .ok (.iload_n 2, 1) := by decide +kernel
theorem dX11_fullest_127 : decode cX11_fullest 127 = .ok (.ifCond .ne 5, 3) := by decide +kernel
theorem dX11_fullest_130 : decode cX11_fullest 130 = .ok (.iload_n 3, 1) := by decide +kernel
theorem dX11_fullest_131 : decode cX11_fullest 131 = .ok (.ireturn, 1) := by decide +kernel
theorem dX11_fullest_132 : decode cX11_fullest 132 = .ok (.iload_n 2, 1) := by decide +kernel
theorem dX11_fullest_133 : decode cX11_fullest 133 = .ok (.iconst 1, 1) := by decide +kernel
theorem dX11_fullest_134 : decode cX11_fullest 134 = .ok (.if_icmp .ne 8, 3) := by decide +kernel
theorem dX11_fullest_137 : decode cX11_fullest 137 = .ok (.iload 4, 2) := by decide +kernel
theorem dX11_fullest_139 : decode cX11_fullest 139 = .ok (.goto 5, 3) := by decide +kernel
theorem dX11_fullest_142 : decode cX11_fullest 142 = .ok (.iload 5, 2) := by decide +kernel
theorem dX11_fullest_144 : decode cX11_fullest 144 = .ok (.ireturn, 1) := by decide +kernel
set_option maxRecDepth 100000 in
theorem u_X11_fullest_53 {x : sm_Cx} {n : Nat} {F : Int32 → sm_MI → sm_ML → Prop} {T : List sm_Sh} {I : sm_MI} {L : sm_ML} {a1 : Int32} {a2 : Int32} {a3 : Int32} {a4 : Int32} {a5 : Int32} {a6 : Int32} {u7 : Option Value} {u8 : Option Value} (hB : sm_Bs T) (hx : sm_Ok x mX11_fullest (n + 1) (sm_KI T F))
    (h : (a1 < a6 → (¬ a2 = 0 → (¬ a2 = 1 → F a5 I L) ∧ (a2 = 1 → F a4 I L)) ∧ (a2 = 0 → F a3 I L)) ∧ (¬ a1 < a6 → sm_CV n mX0_goOneNight T I L [.ref 53] (fun I1 L1 => sm_CI n mX8_fullestHouse T I1 L1 [.ref 24, .int (I1 53 0)] (fun r3 I2 L2 => sm_CI n mX8_thingsIn T I2 L2 [.ref 24, .int (I2 53 0), .int r3] (fun r5 I4 L4 => sm_CI n mJ6_bitCount_0f7a4 T I4 L4 [.int r5] (fun r7 I6 L6 => (r7 ≤ a3 → sm_V x 0 0 T I6 L6 53 [some (.ref 0), some (.int a1), some (.int a2), some (.int a3), some (.int a4), some (.int a5), some (.int (a6 + 1)), some (.int r3), some (.int r7)] []) ∧ (¬ r7 ≤ a3 → sm_V x 0 0 T I6 L6 53 [some (.ref 0), some (.int a1), some (.int a2), some (.int r7), some (.int a6), some (.int r3), some (.int (a6 + 1)), some (.int r3), some (.int r7)] []))))))) :
    sm_V x 0 0 T I L 53 [some (.ref 0), some (.int a1), some (.int a2), some (.int a3), some (.int a4), some (.int a5), some (.int a6), u7, u8] [] :=
  sm_iload (z := a6) hx dX11_fullest_53 rfl (sm_iload_n (z := a1) hx dX11_fullest_55 rfl (sm_icmpgt (a := a6) (b := a1) hx dX11_fullest_56 (tgt := 126) (by decide) (fun q4 => sm_iload_n (z := a2) hx dX11_fullest_126 rfl (sm_ifne (a := a2) hx dX11_fullest_127 (tgt := 132) (by decide) (fun q2 => sm_iload_n (z := a2) hx dX11_fullest_132 rfl (sm_iconst (v := 1) hx dX11_fullest_133 sm_kc_1 (sm_icmpne (a := a2) (b := 1) hx dX11_fullest_134 (tgt := 142) (by decide) (fun q1 => sm_iload (z := a5) hx dX11_fullest_142 rfl (sm_iretI hx dX11_fullest_144 rfl (((h.1 q4).1 q2).1 q1))) (fun q1 => sm_iload (z := a4) hx dX11_fullest_137 rfl (sm_goto hx dX11_fullest_139 (tgt := 144) (by decide) (sm_iretI hx dX11_fullest_144 rfl (((h.1 q4).1 q2).2 q1))))))) (fun q2 => sm_iload_n (z := a3) hx dX11_fullest_130 rfl (sm_iretI hx dX11_fullest_131 rfl ((h.1 q4).2 q2))))) (fun q4 => sm_aload_n (z := 0) hx dX11_fullest_59 rfl (sm_getR hx dX11_fullest_60 fl_X11_79_11 (t_0 hB) rfl (sm_callVV (args := []) (st := []) hx dX11_fullest_63 lv_X11_254_1 rfl rfl (t_53 hB) rfl rfl (h.2 q4) (fun I1 L1 hI1 => sm_aload_n (z := 0) hx dX11_fullest_66 rfl (sm_getR hx dX11_fullest_67 fl_X11_42_11 (t_0 hB) rfl (sm_aload_n (z := 0) hx dX11_fullest_70 rfl (sm_getR hx dX11_fullest_71 fl_X11_79_11 (t_0 hB) rfl (sm_getI hx dX11_fullest_74 fl_X11_266_1 (t_53 hB) rfl (sm_callVI (args := [.int (I1 53 0)]) (st := []) hx dX11_fullest_77 lv_X11_285_8 rfl rfl (t_24 hB) rfl rfl hI1 (fun r3 I2 L2 hI2 => sm_istore (ls' := [some (.ref 0), some (.int a1), some (.int a2), some (.int a3), some (.int a4), some (.int a5), some (.int a6), some (.int r3), u8]) hx dX11_fullest_80 (by decide) rfl (sm_aload_n (z := 0) hx dX11_fullest_82 rfl (sm_getR hx dX11_fullest_83 fl_X11_42_11 (t_0 hB) rfl (sm_aload_n (z := 0) hx dX11_fullest_86 rfl (sm_getR hx dX11_fullest_87 fl_X11_79_11 (t_0 hB) rfl (sm_getI hx dX11_fullest_90 fl_X11_266_1 (t_53 hB) rfl (sm_iload (z := r3) hx dX11_fullest_93 rfl (sm_callVI (args := [.int (I2 53 0), .int r3]) (st := []) hx dX11_fullest_95 lv_X11_204_8 rfl rfl (t_24 hB) rfl rfl hI2 (fun r5 I4 L4 hI4 => sm_callSI (args := [.int r5]) (st := []) hx dX11_fullest_98 ls_X11_288 rfl rfl rfl hI4 (fun r7 I6 L6 hI6 => sm_istore (ls' := [some (.ref 0), some (.int a1), some (.int a2), some (.int a3), some (.int a4), some (.int a5), some (.int a6), some (.int r3), some (.int r7)]) hx dX11_fullest_101 (by decide) rfl (sm_iload (z := r7) hx dX11_fullest_103 rfl (sm_iload_n (z := a3) hx dX11_fullest_105 rfl (sm_icmple (a := r7) (b := a3) hx dX11_fullest_106 (tgt := 120) (by decide) (fun q3 => sm_iinc (ls' := [some (.ref 0), some (.int a1), some (.int a2), some (.int a3), some (.int a4), some (.int a5), some (.int (a6 + 1)), some (.int r3), some (.int r7)]) (z := a6) (v := (a6 + 1)) hx dX11_fullest_120 rfl (sm_kii_1 _) (by decide) rfl (sm_goto hx dX11_fullest_123 (tgt := 53) (by decide) ((hI6.1 q3)))) (fun q3 => sm_iload (z := r7) hx dX11_fullest_109 rfl (sm_istore_n (ls' := [some (.ref 0), some (.int a1), some (.int a2), some (.int r7), some (.int a4), some (.int a5), some (.int a6), some (.int r3), some (.int r7)]) hx dX11_fullest_111 (by decide) rfl (sm_iload (z := a6) hx dX11_fullest_112 rfl (sm_istore (ls' := [some (.ref 0), some (.int a1), some (.int a2), some (.int r7), some (.int a6), some (.int a5), some (.int a6), some (.int r3), some (.int r7)]) hx dX11_fullest_114 (by decide) rfl (sm_iload (z := r3) hx dX11_fullest_116 rfl (sm_istore (ls' := [some (.ref 0), some (.int a1), some (.int a2), some (.int r7), some (.int a6), some (.int r3), some (.int a6), some (.int r3), some (.int r7)]) hx dX11_fullest_118 (by decide) rfl (sm_iinc (ls' := [some (.ref 0), some (.int a1), some (.int a2), some (.int r7), some (.int a6), some (.int r3), some (.int (a6 + 1)), some (.int r3), some (.int r7)]) (z := a6) (v := (a6 + 1)) hx dX11_fullest_120 rfl (sm_kii_1 _) (by decide) rfl (sm_goto hx dX11_fullest_123 (tgt := 53) (by decide) ((hI6.2 q3))))))))))))))))))))))))))))))))))
set_option maxRecDepth 100000 in
theorem c_X11_fullest {n : Nat} {F : Int32 → sm_MI → sm_ML → Prop} {T : List sm_Sh} {I : sm_MI} {L : sm_ML} {a1 : Int32} {a2 : Int32} (hB : sm_Bs T)
    (h : ∀ x : sm_Cx, sm_Ok x mX11_fullest (n + 1) (sm_KI T F) → sm_CZ n mX8_isTold T I L [.ref 24] (fun r2 I1 L1 => (r2 = false → F (-1) I1 L1) ∧ (r2 = true → sm_CZ n mX11_within T I1 L1 [.int a1, .int 1, .int 60] (fun r4 I3 L3 => (r4 = false → F (-1) I3 L3) ∧ (r4 = true → sm_CZ n mX11_within T I3 L3 [.int a2, .int 0, .int 2] (fun r6 I5 L5 => (r6 = true → sm_CV n mX0_begin T I5 L5 [.ref 53, .ref 35] (fun I7 L7 => sm_V x 0 0 T I7 L7 53 [some (.ref 0), some (.int a1), some (.int a2), some (.int 0), some (.int (-1)), some (.int (-1)), some (.int 1), none, none] [])) ∧ (r6 = false → F (-1) I5 L5))))))) :
    sm_CI (n + 1) mX11_fullest T I L [.ref 0, .int a1, .int a2] F :=
  sm_CI.of (by decide +kernel) rfl (fun x hx => show sm_V x 0 0 T I L 0 [some (.ref 0), some (.int a1), some (.int a2), none, none, none, none, none, none] [] from
  sm_aload_n (z := 0) hx dX11_fullest_0 rfl (sm_getR hx dX11_fullest_1 fl_X11_42_11 (t_0 hB) rfl (sm_callVZ (args := []) (st := []) hx dX11_fullest_4 lv_X11_210_8 rfl rfl (t_24 hB) rfl rfl (h x hx) (fun r2 I1 L1 hI1 => sm_ifeqZ (b := r2) hx dX11_fullest_7 (tgt := 29) (by decide) (fun q7 => sm_iconst (v := (-1)) hx dX11_fullest_29 sm_kc_m1 (sm_iretI hx dX11_fullest_30 rfl (hI1.1 q7))) (fun q7 => sm_iload_n (z := a1) hx dX11_fullest_10 rfl (sm_iconst (v := 1) hx dX11_fullest_11 sm_kc_1 (sm_bipush (v := 60) hx dX11_fullest_12 sm_kb_60 (sm_callSZ (args := [.int a1, .int 1, .int 60]) (st := []) hx dX11_fullest_14 ls_X11_115 rfl rfl rfl (hI1.2 q7) (fun r4 I3 L3 hI3 => sm_ifeqZ (b := r4) hx dX11_fullest_17 (tgt := 29) (by decide) (fun q6 => sm_iconst (v := (-1)) hx dX11_fullest_29 sm_kc_m1 (sm_iretI hx dX11_fullest_30 rfl (hI3.1 q6))) (fun q6 => sm_iload_n (z := a2) hx dX11_fullest_20 rfl (sm_iconst (v := 0) hx dX11_fullest_21 sm_kc_0 (sm_iconst (v := 2) hx dX11_fullest_22 sm_kc_2 (sm_callSZ (args := [.int a2, .int 0, .int 2]) (st := []) hx dX11_fullest_23 ls_X11_115 rfl rfl rfl (hI3.2 q6) (fun r6 I5 L5 hI5 => sm_ifneZ (b := r6) hx dX11_fullest_26 (tgt := 31) (by decide) (fun q5 => sm_iconst (v := 0) hx dX11_fullest_31 sm_kc_0 (sm_istore_n (ls' := [some (.ref 0), some (.int a1), some (.int a2), some (.int 0), none, none, none, none, none]) hx dX11_fullest_32 (by decide) rfl (sm_iconst (v := (-1)) hx dX11_fullest_33 sm_kc_m1 (sm_istore (ls' := [some (.ref 0), some (.int a1), some (.int a2), some (.int 0), some (.int (-1)), none, none, none, none]) hx dX11_fullest_34 (by decide) rfl (sm_iconst (v := (-1)) hx dX11_fullest_36 sm_kc_m1 (sm_istore (ls' := [some (.ref 0), some (.int a1), some (.int a2), some (.int 0), some (.int (-1)), some (.int (-1)), none, none, none]) hx dX11_fullest_37 (by decide) rfl (sm_aload_n (z := 0) hx dX11_fullest_39 rfl (sm_getR hx dX11_fullest_40 fl_X11_79_11 (t_0 hB) rfl (sm_aload_n (z := 0) hx dX11_fullest_43 rfl (sm_getR hx dX11_fullest_44 fl_X11_49_11 (t_0 hB) rfl (sm_callVV (args := [.ref 35]) (st := []) hx dX11_fullest_47 lv_X11_250_1 rfl rfl (t_53 hB) rfl rfl (hI5.1 q5) (fun I7 L7 hI7 => sm_iconst (v := 1) hx dX11_fullest_50 sm_kc_1 (sm_istore (ls' := [some (.ref 0), some (.int a1), some (.int a2), some (.int 0), some (.int (-1)), some (.int (-1)), some (.int 1), none, none]) hx dX11_fullest_51 (by decide) rfl (hI7)))))))))))))) (fun q5 => sm_iconst (v := (-1)) hx dX11_fullest_29 sm_kc_m1 (sm_iretI hx dX11_fullest_30 rfl (hI5.2 q5)))))))))))))))))
theorem dX11_astray_0 : decode cX11_astray 0 = .ok (.aload_n 0, 1) := by decide +kernel
theorem dX11_astray_1 : decode cX11_astray 1 = .ok (.getfield 42, 3) := by decide +kernel
theorem dX11_astray_4 : decode cX11_astray 4 = .ok (.invokevirtual 210, 3) := by decide +kernel
theorem dX11_astray_7 : decode cX11_astray 7 = .ok (.ifCond .eq 13, 3) := by decide +kernel
theorem dX11_astray_10 : decode cX11_astray 10 = .ok (.iload_n 1, 1) := by decide +kernel
theorem dX11_astray_11 : decode cX11_astray 11 = .ok (.iconst 0, 1) := by decide +kernel
theorem dX11_astray_12 : decode cX11_astray 12 = .ok (.bipush 60, 2) := by decide +kernel
theorem dX11_astray_14 : decode cX11_astray 14 = .ok (.invokestatic 115, 3) := by decide +kernel
theorem dX11_astray_17 : decode cX11_astray 17 = .ok (.ifCond .ne 5, 3) := by decide +kernel
theorem dX11_astray_20 : decode cX11_astray 20 = .ok (.iconst (-1), 1) := by decide +kernel
theorem dX11_astray_21 : decode cX11_astray 21 = .ok (.ireturn, 1) := by decide +kernel
theorem dX11_astray_22 : decode cX11_astray 22 = .ok (.aload_n 0, 1) := by decide +kernel
theorem dX11_astray_23 : decode cX11_astray 23 = .ok (.iload_n 1, 1) := by decide +kernel
theorem dX11_astray_24 : decode cX11_astray 24 = .ok (.invokevirtual 263, 3) := by decide +kernel
theorem dX11_astray_27 : decode cX11_astray 27 = .ok (.aload_n 0, 1) := by decide +kernel
theorem dX11_astray_28 : decode cX11_astray 28 = .ok (.getfield 42, 3) := by decide +kernel
theorem dX11_astray_31 : decode cX11_astray 31 = .ok (.aload_n 0, 1) := by decide +kernel
theorem dX11_astray_32 : decode cX11_astray 32 = .ok (.getfield 79, 3) := by decide +kernel
theorem dX11_astray_35 : decode cX11_astray 35 = .ok (.getfield 266, 3) := by decide +kernel
theorem dX11_astray_38 : decode cX11_astray 38 = .ok (.aload_n 0, 1) := by decide +kernel
theorem dX11_astray_39 : decode cX11_astray 39 = .ok (.getfield 42, 3) := by decide +kernel
theorem dX11_astray_42 : decode cX11_astray 42 = .ok (.getfield 147, 3) := by decide +kernel
theorem dX11_astray_45 : decode cX11_astray 45 = .ok (.invokevirtual 293, 3) := by decide +kernel
theorem dX11_astray_48 : decode cX11_astray 48 = .ok (.ireturn, 1) := by decide +kernel
set_option maxRecDepth 100000 in
theorem c_X11_astray {n : Nat} {F : Int32 → sm_MI → sm_ML → Prop} {T : List sm_Sh} {I : sm_MI} {L : sm_ML} {a1 : Int32} (hB : sm_Bs T)
    (h : sm_CZ n mX8_isTold T I L [.ref 24] (fun r2 I1 L1 => (r2 = false → F (-1) I1 L1) ∧ (r2 = true → sm_CZ n mX11_within T I1 L1 [.int a1, .int 0, .int 60] (fun r4 I3 L3 => (r4 = true → sm_CV n mX11_dreamOf T I3 L3 [.ref 0, .int a1] (fun I5 L5 => sm_CI n mX8_elsewhere T I5 L5 [.ref 24, .int (I5 53 0), .int (I5 24 3)] (fun r7 I6 L6 => F r7 I6 L6))) ∧ (r4 = false → F (-1) I3 L3))))) :
    sm_CI (n + 1) mX11_astray T I L [.ref 0, .int a1] F :=
  sm_CI.of (by decide +kernel) rfl (fun x hx => show sm_V x 0 0 T I L 0 [some (.ref 0), some (.int a1)] [] from
  sm_aload_n (z := 0) hx dX11_astray_0 rfl (sm_getR hx dX11_astray_1 fl_X11_42_11 (t_0 hB) rfl (sm_callVZ (args := []) (st := []) hx dX11_astray_4 lv_X11_210_8 rfl rfl (t_24 hB) rfl rfl h (fun r2 I1 L1 hI1 => sm_ifeqZ (b := r2) hx dX11_astray_7 (tgt := 20) (by decide) (fun q2 => sm_iconst (v := (-1)) hx dX11_astray_20 sm_kc_m1 (sm_iretI hx dX11_astray_21 rfl (hI1.1 q2))) (fun q2 => sm_iload_n (z := a1) hx dX11_astray_10 rfl (sm_iconst (v := 0) hx dX11_astray_11 sm_kc_0 (sm_bipush (v := 60) hx dX11_astray_12 sm_kb_60 (sm_callSZ (args := [.int a1, .int 0, .int 60]) (st := []) hx dX11_astray_14 ls_X11_115 rfl rfl rfl (hI1.2 q2) (fun r4 I3 L3 hI3 => sm_ifneZ (b := r4) hx dX11_astray_17 (tgt := 22) (by decide) (fun q1 => sm_aload_n (z := 0) hx dX11_astray_22 rfl (sm_iload_n (z := a1) hx dX11_astray_23 rfl (sm_callVV (args := [.int a1]) (st := []) hx dX11_astray_24 lv_X11_263_11 rfl rfl (t_0 hB) rfl rfl (hI3.1 q1) (fun I5 L5 hI5 => sm_aload_n (z := 0) hx dX11_astray_27 rfl (sm_getR hx dX11_astray_28 fl_X11_42_11 (t_0 hB) rfl (sm_aload_n (z := 0) hx dX11_astray_31 rfl (sm_getR hx dX11_astray_32 fl_X11_79_11 (t_0 hB) rfl (sm_getI hx dX11_astray_35 fl_X11_266_1 (t_53 hB) rfl (sm_aload_n (z := 0) hx dX11_astray_38 rfl (sm_getR hx dX11_astray_39 fl_X11_42_11 (t_0 hB) rfl (sm_getI hx dX11_astray_42 fl_X11_147_8 (t_24 hB) rfl (sm_callVI (args := [.int (I5 53 0), .int (I5 24 3)]) (st := []) hx dX11_astray_45 lv_X11_293_8 rfl rfl (t_24 hB) rfl rfl hI5 (fun r7 I6 L6 hI6 => sm_iretI hx dX11_astray_48 rfl hI6))))))))))))) (fun q1 => sm_iconst (v := (-1)) hx dX11_astray_20 sm_kc_m1 (sm_iretI hx dX11_astray_21 rfl (hI3.2 q1))))))))))))
theorem dX11_see_0 : decode cX11_see 0 = .ok (.aload_n 0, 1) := by decide +kernel
theorem dX11_see_1 : decode cX11_see 1 = .ok (.getfield 42, 3) := by decide +kernel
theorem dX11_see_4 : decode cX11_see 4 = .ok (.iload_n 1, 1) := by decide +kernel
theorem dX11_see_5 : decode cX11_see 5 = .ok (.invokevirtual 194, 3) := by decide +kernel
theorem dX11_see_8 : decode cX11_see 8 = .ok (.ifCond .eq 14, 3) := by decide +kernel
theorem dX11_see_11 : decode cX11_see 11 = .ok (.aload_n 0, 1) := by decide +kernel
theorem dX11_see_12 : decode cX11_see 12 = .ok (.getfield 42, 3) := by decide +kernel
theorem dX11_see_15 : decode cX11_see 15 = .ok (.iload_n 3, 1) := by decide +kernel
theorem dX11_see_16 : decode cX11_see 16 = .ok (.invokevirtual 201, 3) := by decide +kernel
theorem dX11_see_19 : decode cX11_see 19 = .ok (.ifCond .ne 5, 3) := by decide +kernel
theorem dX11_see_22 : decode cX11_see 22 = .ok (.iconst (-1), 1) := by decide +kernel
theorem dX11_see_23 : decode cX11_see 23 = .ok (.ireturn, 1) := by decide +kernel
theorem dX11_see_24 : decode cX11_see 24 = .ok (.iload_n 2, 1) := by decide +kernel
theorem dX11_see_25 : decode cX11_see 25 = .ok (.iconst 1, 1) := by decide +kernel
theorem dX11_see_26 : decode cX11_see 26 = .ok (.bipush 30, 2) := by decide +kernel
theorem dX11_see_28 : decode cX11_see 28 = .ok (.invokestatic 115, 3) := by decide +kernel
theorem dX11_see_31 : decode cX11_see 31 = .ok (.ifCond .eq 15, 3) := by decide +kernel
theorem dX11_see_34 : decode cX11_see 34 = .ok (.aload_n 0, 1) := by decide +kernel
theorem dX11_see_35 : decode cX11_see 35 = .ok (.getfield 70, 3) := by decide +kernel
theorem dX11_see_38 : decode cX11_see 38 = .ok (.getfield 226, 3) := by decide +kernel
theorem dX11_see_41 : decode cX11_see 41 = .ok (.bipush 20, 2) := by decide +kernel
theorem dX11_see_43 : decode cX11_see 43 = .ok (.if_icmp .lt 5, 3) := by decide +kernel
theorem dX11_see_46 : decode cX11_see 46 = .ok (.iconst (-1), 1) := by decide +kernel
theorem dX11_see_47 : decode cX11_see 47 = .ok (.ireturn, 1) := by decide +kernel
theorem dX11_see_48 : decode cX11_see 48 = .ok (.aload_n 0, 1) := by decide +kernel
theorem dX11_see_49 : decode cX11_see 49 = .ok (.getfield 70, 3) := by decide +kernel
theorem dX11_see_52 : decode cX11_see 52 = .ok (.iload_n 1, 1) := by decide +kernel
theorem dX11_see_53 : decode cX11_see 53 = .ok (.iload_n 2, 1) := by decide +kernel
theorem dX11_see_54 : decode cX11_see 54 = .ok (.iload_n 3, 1) := by decide +kernel
theorem dX11_see_55 : decode cX11_see 55 = .ok (.iload 4, 2) := by decide +kernel
theorem dX11_see_57 : decode cX11_see 57 = .ok (.invokevirtual 296, 3) := by decide +kernel
theorem dX11_see_60 : decode cX11_see 60 = .ok (.aload_n 0, 1) := by decide +kernel
theorem dX11_see_61 : decode cX11_see 61 = .ok (.getfield 70, 3) := by decide +kernel
theorem dX11_see_64 : decode cX11_see 64 = .ok (.getfield 226, 3) := by decide +kernel
theorem dX11_see_67 : decode cX11_see 67 = .ok (.ireturn, 1) := by decide +kernel
set_option maxRecDepth 100000 in
theorem c_X11_see {n : Nat} {F : Int32 → sm_MI → sm_ML → Prop} {T : List sm_Sh} {I : sm_MI} {L : sm_ML} {a1 : Int32} {a2 : Int32} {a3 : Int32} {b4 : Bool} (hB : sm_Bs T)
    (h : sm_CZ n mX8_hasThing T I L [.ref 24, .int a1] (fun r2 I1 L1 => (r2 = false → F (-1) I1 L1) ∧ (r2 = true → sm_CZ n mX8_hasHouse T I1 L1 [.ref 24, .int a3] (fun r4 I3 L3 => (r4 = true → sm_CZ n mX11_within T I3 L3 [.int a2, .int 1, .int 30] (fun r6 I5 L5 => (r6 = false → F (-1) I5 L5) ∧ (r6 = true → ((I5 44 4) < 20 → sm_CV n mX6_add T I5 L5 [.ref 44, .int a1, .int a2, .int a3, .int (sm_z b4)] (fun I7 L7 => F (I7 44 4) I7 L7)) ∧ (¬ (I5 44 4) < 20 → F (-1) I5 L5)))) ∧ (r4 = false → F (-1) I3 L3))))) :
    sm_CI (n + 1) mX11_see T I L [.ref 0, .int a1, .int a2, .int a3, .int (sm_z b4)] F :=
  sm_CI.of (by decide +kernel) rfl (fun x hx => show sm_V x 0 0 T I L 0 [some (.ref 0), some (.int a1), some (.int a2), some (.int a3), some (.int (sm_z b4))] [] from
  sm_aload_n (z := 0) hx dX11_see_0 rfl (sm_getR hx dX11_see_1 fl_X11_42_11 (t_0 hB) rfl (sm_iload_n (z := a1) hx dX11_see_4 rfl (sm_callVZ (args := [.int a1]) (st := []) hx dX11_see_5 lv_X11_194_8 rfl rfl (t_24 hB) rfl rfl h (fun r2 I1 L1 hI1 => sm_ifeqZ (b := r2) hx dX11_see_8 (tgt := 22) (by decide) (fun q4 => sm_iconst (v := (-1)) hx dX11_see_22 sm_kc_m1 (sm_iretI hx dX11_see_23 rfl (hI1.1 q4))) (fun q4 => sm_aload_n (z := 0) hx dX11_see_11 rfl (sm_getR hx dX11_see_12 fl_X11_42_11 (t_0 hB) rfl (sm_iload_n (z := a3) hx dX11_see_15 rfl (sm_callVZ (args := [.int a3]) (st := []) hx dX11_see_16 lv_X11_201_8 rfl rfl (t_24 hB) rfl rfl (hI1.2 q4) (fun r4 I3 L3 hI3 => sm_ifneZ (b := r4) hx dX11_see_19 (tgt := 24) (by decide) (fun q3 => sm_iload_n (z := a2) hx dX11_see_24 rfl (sm_iconst (v := 1) hx dX11_see_25 sm_kc_1 (sm_bipush (v := 30) hx dX11_see_26 sm_kb_30 (sm_callSZ (args := [.int a2, .int 1, .int 30]) (st := []) hx dX11_see_28 ls_X11_115 rfl rfl rfl (hI3.1 q3) (fun r6 I5 L5 hI5 => sm_ifeqZ (b := r6) hx dX11_see_31 (tgt := 46) (by decide) (fun q2 => sm_iconst (v := (-1)) hx dX11_see_46 sm_kc_m1 (sm_iretI hx dX11_see_47 rfl (hI5.1 q2))) (fun q2 => sm_aload_n (z := 0) hx dX11_see_34 rfl (sm_getR hx dX11_see_35 fl_X11_70_11 (t_0 hB) rfl (sm_getI hx dX11_see_38 fl_X11_226_6 (t_44 hB) rfl (sm_bipush (v := 20) hx dX11_see_41 sm_kb_20 (sm_icmplt (a := (I5 44 4)) (b := 20) hx dX11_see_43 (tgt := 48) (by decide) (fun q1 => sm_aload_n (z := 0) hx dX11_see_48 rfl (sm_getR hx dX11_see_49 fl_X11_70_11 (t_0 hB) rfl (sm_iload_n (z := a1) hx dX11_see_52 rfl (sm_iload_n (z := a2) hx dX11_see_53 rfl (sm_iload_n (z := a3) hx dX11_see_54 rfl (sm_iload (z := (sm_z b4)) hx dX11_see_55 rfl (sm_callVV (args := [.int a1, .int a2, .int a3, .int (sm_z b4)]) (st := []) hx dX11_see_57 lv_X11_296_6 rfl rfl (t_44 hB) rfl rfl ((hI5.2 q2).1 q1) (fun I7 L7 hI7 => sm_aload_n (z := 0) hx dX11_see_60 rfl (sm_getR hx dX11_see_61 fl_X11_70_11 (t_0 hB) rfl (sm_getI hx dX11_see_64 fl_X11_226_6 (t_44 hB) rfl (sm_iretI hx dX11_see_67 rfl hI7))))))))))) (fun q1 => sm_iconst (v := (-1)) hx dX11_see_46 sm_kc_m1 (sm_iretI hx dX11_see_47 rfl ((hI5.2 q2).2 q1))))))))))))) (fun q3 => sm_iconst (v := (-1)) hx dX11_see_22 sm_kc_m1 (sm_iretI hx dX11_see_23 rfl (hI3.2 q3)))))))))))))
theorem dX11_fits_0 : decode cX11_fits 0 = .ok (.aload_n 0, 1) := by decide +kernel
theorem dX11_fits_1 : decode cX11_fits 1 = .ok (.getfield 42, 3) := by decide +kernel
theorem dX11_fits_4 : decode cX11_fits 4 = .ok (.iload_n 1, 1) := by decide +kernel
theorem dX11_fits_5 : decode cX11_fits 5 = .ok (.invokevirtual 163, 3) := by decide +kernel
theorem dX11_fits_8 : decode cX11_fits 8 = .ok (.ifCond .eq 11, 3) := by decide +kernel
theorem dX11_fits_11 : decode cX11_fits 11 = .ok (.aload_n 0, 1) := by decide +kernel
theorem dX11_fits_12 : decode cX11_fits 12 = .ok (.iload_n 1, 1) := by decide +kernel
theorem dX11_fits_13 : decode cX11_fits 13 = .ok (.invokevirtual 299, 3) := by decide +kernel
theorem dX11_fits_16 : decode cX11_fits 16 = .ok (.goto 4, 3) := by decide +kernel
theorem dX11_fits_19 : decode cX11_fits 19 = .ok (.iconst (-1), 1) := by decide +kernel
theorem dX11_fits_20 : decode cX11_fits 20 = .ok (.ireturn, 1) := by decide +kernel
set_option maxRecDepth 100000 in
theorem c_X11_fits {n : Nat} {F : Int32 → sm_MI → sm_ML → Prop} {T : List sm_Sh} {I : sm_MI} {L : sm_ML} {a1 : Int32} (hB : sm_Bs T)
    (h : sm_CZ n mX8_hasSleeper T I L [.ref 24, .int a1] (fun r2 I1 L1 => (r2 = false → F (-1) I1 L1) ∧ (r2 = true → sm_CI n mX11_fittingSteps T I1 L1 [.ref 0, .int a1] (fun r4 I3 L3 => F r4 I3 L3)))) :
    sm_CI (n + 1) mX11_fits T I L [.ref 0, .int a1] F :=
  sm_CI.of (by decide +kernel) rfl (fun x hx => show sm_V x 0 0 T I L 0 [some (.ref 0), some (.int a1)] [] from
  sm_aload_n (z := 0) hx dX11_fits_0 rfl (sm_getR hx dX11_fits_1 fl_X11_42_11 (t_0 hB) rfl (sm_iload_n (z := a1) hx dX11_fits_4 rfl (sm_callVZ (args := [.int a1]) (st := []) hx dX11_fits_5 lv_X11_163_8 rfl rfl (t_24 hB) rfl rfl h (fun r2 I1 L1 hI1 => sm_ifeqZ (b := r2) hx dX11_fits_8 (tgt := 19) (by decide) (fun q1 => sm_iconst (v := (-1)) hx dX11_fits_19 sm_kc_m1 (sm_iretI hx dX11_fits_20 rfl (hI1.1 q1))) (fun q1 => sm_aload_n (z := 0) hx dX11_fits_11 rfl (sm_iload_n (z := a1) hx dX11_fits_12 rfl (sm_callVI (args := [.int a1]) (st := []) hx dX11_fits_13 lv_X11_299_11 rfl rfl (t_0 hB) rfl rfl (hI1.2 q1) (fun r4 I3 L3 hI3 => sm_goto hx dX11_fits_16 (tgt := 20) (by decide) (sm_iretI hx dX11_fits_20 rfl hI3))))))))))
theorem dX11_pairs_0 : decode cX11_pairs 0 = .ok (.aload_n 0, 1) := by decide +kernel
theorem dX11_pairs_1 : decode cX11_pairs 1 = .ok (.getfield 42, 3) := by decide +kernel
theorem dX11_pairs_4 : decode cX11_pairs 4 = .ok (.iload_n 1, 1) := by decide +kernel
theorem dX11_pairs_5 : decode cX11_pairs 5 = .ok (.invokevirtual 163, 3) := by decide +kernel
theorem dX11_pairs_8 : decode cX11_pairs 8 = .ok (.ifCond .eq 19, 3) := by decide +kernel
theorem dX11_pairs_11 : decode cX11_pairs 11 = .ok (.aload_n 0, 1) := by decide +kernel
theorem dX11_pairs_12 : decode cX11_pairs 12 = .ok (.getfield 42, 3) := by decide +kernel
theorem dX11_pairs_15 : decode cX11_pairs 15 = .ok (.iload_n 2, 1) := by decide +kernel
theorem dX11_pairs_16 : decode cX11_pairs 16 = .ok (.invokevirtual 163, 3) := by decide +kernel
theorem dX11_pairs_19 : decode cX11_pairs 19 = .ok (.ifCond .eq 8, 3) := by decide +kernel
theorem dX11_pairs_22 : decode cX11_pairs 22 = .ok (.iload_n 1, 1) := by decide +kernel
theorem dX11_pairs_23 : decode cX11_pairs 23 = .ok (.iload_n 2, 1) := by decide +kernel
theorem dX11_pairs_24 : decode cX11_pairs 24 = .ok (.if_icmp .ne 5, 3) := by decide +kernel
theorem dX11_pairs_27 : decode cX11_pairs 27 = .ok (.iconst (-1), 1) := by decide +kernel
theorem dX11_pairs_28 : decode cX11_pairs 28 = .ok (.ireturn, 1) := by decide +kernel
theorem dX11_pairs_29 : decode cX11_pairs 29 = .ok (.iconst 0, 1) := by decide +kernel
theorem dX11_pairs_30 : decode cX11_pairs 30 = .ok (.istore_n 3, 1) := by decide +kernel
theorem dX11_pairs_31 : decode cX11_pairs 31 = .ok (.iconst 0, 1) := by decide +kernel
theorem dX11_pairs_32 : decode cX11_pairs 32 = .ok (.istore 4, 2) := by decide +kernel
theorem dX11_pairs_34 : decode cX11_pairs 34 = .ok (.iload 4, 2) := by decide +kernel
theorem dX11_pairs_36 : decode cX11_pairs 36 = .ok (.aload_n 0, 1) := by decide +kernel
theorem dX11_pairs_37 : decode cX11_pairs 37 = .ok (.getfield 42, 3) := by decide +kernel
theorem dX11_pairs_40 : decode cX11_pairs 40 = .ok (.getfield 217, 3) := by decide +kernel
theorem dX11_pairs_43 : decode cX11_pairs 43 = .ok (.if_icmp .ge 77, 3) := by decide +kernel
theorem dX11_pairs_46 : decode cX11_pairs 46 = .ok (.iconst 0, 1) := by decide +kernel
theorem dX11_pairs_47 : decode cX11_pairs 47 = .ok (.istore 5, 2) := by decide +kernel
theorem dX11_pairs_49 : decode cX11_pairs 49 = .ok (.iload 5, 2) := by decide +kernel
theorem dX11_pairs_51 : decode cX11_pairs 51 = .ok (.aload_n 0, 1) := by decide +kernel
theorem dX11_pairs_52 : decode cX11_pairs 52 = .ok (.getfield 42, 3) := by decide +kernel
theorem dX11_pairs_55 : decode cX11_pairs 55 = .ok (.getfield 217, 3) := by decide +kernel
theorem dX11_pairs_58 : decode cX11_pairs 58 = .ok (.if_icmp .ge 56, 3) := by decide +kernel
theorem dX11_pairs_61 : decode cX11_pairs 61 = .ok (.aload_n 0, 1) := by decide +kernel
theorem dX11_pairs_62 : decode cX11_pairs 62 = .ok (.getfield 79, 3) := by decide +kernel
theorem dX11_pairs_65 : decode cX11_pairs 65 = .ok (.aload_n 0, 1) := by decide +kernel
theorem dX11_pairs_66 : decode cX11_pairs 66 = .ok (.getfield 49, 3) := by decide +kernel
theorem dX11_pairs_69 : decode cX11_pairs 69 = .ok (.invokevirtual 250, 3) := by decide +kernel
theorem dX11_pairs_72 : decode cX11_pairs 72 = .ok (.aload_n 0, 1) := by decide +kernel
theorem dX11_pairs_73 : decode cX11_pairs 73 = .ok (.getfield 79, 3) := by decide +kernel
theorem dX11_pairs_76 : decode cX11_pairs 76 = .ok (.getfield 302, 3) := by decide +kernel
theorem dX11_pairs_79 : decode cX11_pairs 79 = .ok (.iload_n 1, 1) := by decide +kernel
theorem dX11_pairs_80 : decode cX11_pairs 80 = .ok (.iload 4, 2) := by decide +kernel
theorem dX11_pairs_82 : decode cX11_pairs 82 = .ok (.invokevirtual 231, 3) := by decide +kernel
theorem dX11_pairs_85 : decode cX11_pairs 85 = .ok (.aload_n 0, 1) := by decide +kernel
theorem dX11_pairs_86 : decode cX11_pairs 86 = .ok (.getfield 79, 3) := by decide +kernel
theorem dX11_pairs_89 : decode cX11_pairs 89 = .ok (.getfield 302, 3) := by decide +kernel
theorem dX11_pairs_92 : decode cX11_pairs 92 = .ok (.iload_n 2, 1) := by decide +kernel
theorem dX11_pairs_93 : decode cX11_pairs 93 = .ok (.iload 5, 2) := by decide +kernel
theorem dX11_pairs_95 : decode cX11_pairs 95 = .ok (.invokevirtual 231, 3) := by decide +kernel
theorem dX11_pairs_98 : decode cX11_pairs 98 = .ok (.aload_n 0, 1) := by decide +kernel
theorem dX11_pairs_99 : decode cX11_pairs 99 = .ok (.invokevirtual 305, 3) := by decide +kernel
theorem dX11_pairs_102 : decode cX11_pairs 102 = .ok (.ifCond .eq 6, 3) := by decide +kernel
theorem dX11_pairs_105 : decode cX11_pairs 105 = .ok (.iinc 3 1, 3) := by decide +kernel
theorem dX11_pairs_108 : decode cX11_pairs 108 = .ok (.iinc 5 1, 3) := by decide +kernel
theorem dX11_pairs_111 : decode cX11_pairs 111 = .ok (.goto (-62), 3) := by decide +kernel
theorem dX11_pairs_114 : decode cX11_pairs 114 = .ok (.iinc 4 1, 3) := by decide +kernel
theorem dX11_pairs_117 : decode cX11_pairs 117 = .ok (.goto (-83), 3) := by decide +kernel
theorem dX11_pairs_120 : decode cX11_pairs 120 = .ok (.iload_n 3, 1) := by decide +kernel
theorem dX11_pairs_121 : decode cX11_pairs 121 = .ok (.ireturn, 1) := by decide +kernel
set_option maxRecDepth 100000 in
theorem u_X11_pairs_34 {x : sm_Cx} {n : Nat} {F : Int32 → sm_MI → sm_ML → Prop} {T : List sm_Sh} {I : sm_MI} {L : sm_ML} {a1 : Int32} {a2 : Int32} {a3 : Int32} {a4 : Int32} {u5 : Option Value} (hB : sm_Bs T) (hx : sm_Ok x mX11_pairs (n + 1) (sm_KI T F))
    (h : ((I 24 0) ≤ a4 → F a3 I L) ∧ (¬ (I 24 0) ≤ a4 → sm_V x 0 0 T I L 49 [some (.ref 0), some (.int a1), some (.int a2), some (.int a3), some (.int a4), some (.int 0)] [])) :
    sm_V x 0 0 T I L 34 [some (.ref 0), some (.int a1), some (.int a2), some (.int a3), some (.int a4), u5] [] :=
  sm_iload (z := a4) hx dX11_pairs_34 rfl (sm_aload_n (z := 0) hx dX11_pairs_36 rfl (sm_getR hx dX11_pairs_37 fl_X11_42_11 (t_0 hB) rfl (sm_getI hx dX11_pairs_40 fl_X11_217_8 (t_24 hB) rfl (sm_icmpge (a := a4) (b := (I 24 0)) hx dX11_pairs_43 (tgt := 120) (by decide) (fun q1 => sm_iload_n (z := a3) hx dX11_pairs_120 rfl (sm_iretI hx dX11_pairs_121 rfl (h.1 q1))) (fun q1 => sm_iconst (v := 0) hx dX11_pairs_46 sm_kc_0 (sm_istore (ls' := [some (.ref 0), some (.int a1), some (.int a2), some (.int a3), some (.int a4), some (.int 0)]) hx dX11_pairs_47 (by decide) rfl ((h.2 q1))))))))
set_option maxRecDepth 100000 in
theorem u_X11_pairs_49 {x : sm_Cx} {n : Nat} {F : Int32 → sm_MI → sm_ML → Prop} {T : List sm_Sh} {I : sm_MI} {L : sm_ML} {a1 : Int32} {a2 : Int32} {a3 : Int32} {a4 : Int32} {a5 : Int32} (hB : sm_Bs T) (hx : sm_Ok x mX11_pairs (n + 1) (sm_KI T F))
    (h : ((I 24 0) ≤ a5 → sm_V x 0 0 T I L 34 [some (.ref 0), some (.int a1), some (.int a2), some (.int a3), some (.int (a4 + 1)), some (.int a5)] []) ∧ (¬ (I 24 0) ≤ a5 → sm_CV n mX0_begin T I L [.ref 53, .ref 35] (fun I1 L1 => sm_CV n mX3_set T I1 L1 [.ref 54, .int a1, .int a4] (fun I2 L2 => sm_CV n mX3_set T I2 L2 [.ref 54, .int a2, .int a5] (fun I3 L3 => sm_CZ n mX11_dreamIsAsSeen T I3 L3 [.ref 0] (fun r5 I4 L4 => (r5 = false → sm_V x 0 0 T I4 L4 49 [some (.ref 0), some (.int a1), some (.int a2), some (.int a3), some (.int a4), some (.int (a5 + 1))] []) ∧ (r5 = true → sm_V x 0 0 T I4 L4 49 [some (.ref 0), some (.int a1), some (.int a2), some (.int (a3 + 1)), some (.int a4), some (.int (a5 + 1))] []))))))) :
    sm_V x 0 0 T I L 49 [some (.ref 0), some (.int a1), some (.int a2), some (.int a3), some (.int a4), some (.int a5)] [] :=
  sm_iload (z := a5) hx dX11_pairs_49 rfl (sm_aload_n (z := 0) hx dX11_pairs_51 rfl (sm_getR hx dX11_pairs_52 fl_X11_42_11 (t_0 hB) rfl (sm_getI hx dX11_pairs_55 fl_X11_217_8 (t_24 hB) rfl (sm_icmpge (a := a5) (b := (I 24 0)) hx dX11_pairs_58 (tgt := 114) (by decide) (fun q3 => sm_iinc (ls' := [some (.ref 0), some (.int a1), some (.int a2), some (.int a3), some (.int (a4 + 1)), some (.int a5)]) (z := a4) (v := (a4 + 1)) hx dX11_pairs_114 rfl (sm_kii_1 _) (by decide) rfl (sm_goto hx dX11_pairs_117 (tgt := 34) (by decide) ((h.1 q3)))) (fun q3 => sm_aload_n (z := 0) hx dX11_pairs_61 rfl (sm_getR hx dX11_pairs_62 fl_X11_79_11 (t_0 hB) rfl (sm_aload_n (z := 0) hx dX11_pairs_65 rfl (sm_getR hx dX11_pairs_66 fl_X11_49_11 (t_0 hB) rfl (sm_callVV (args := [.ref 35]) (st := []) hx dX11_pairs_69 lv_X11_250_1 rfl rfl (t_53 hB) rfl rfl (h.2 q3) (fun I1 L1 hI1 => sm_aload_n (z := 0) hx dX11_pairs_72 rfl (sm_getR hx dX11_pairs_73 fl_X11_79_11 (t_0 hB) rfl (sm_getR hx dX11_pairs_76 fl_X11_302_1 (t_53 hB) rfl (sm_iload_n (z := a1) hx dX11_pairs_79 rfl (sm_iload (z := a4) hx dX11_pairs_80 rfl (sm_callVV (args := [.int a1, .int a4]) (st := []) hx dX11_pairs_82 lv_X11_231_3 rfl rfl (t_54 hB) rfl rfl hI1 (fun I2 L2 hI2 => sm_aload_n (z := 0) hx dX11_pairs_85 rfl (sm_getR hx dX11_pairs_86 fl_X11_79_11 (t_0 hB) rfl (sm_getR hx dX11_pairs_89 fl_X11_302_1 (t_53 hB) rfl (sm_iload_n (z := a2) hx dX11_pairs_92 rfl (sm_iload (z := a5) hx dX11_pairs_93 rfl (sm_callVV (args := [.int a2, .int a5]) (st := []) hx dX11_pairs_95 lv_X11_231_3 rfl rfl (t_54 hB) rfl rfl hI2 (fun I3 L3 hI3 => sm_aload_n (z := 0) hx dX11_pairs_98 rfl (sm_callVZ (args := []) (st := []) hx dX11_pairs_99 lv_X11_305_11 rfl rfl (t_0 hB) rfl rfl hI3 (fun r5 I4 L4 hI4 => sm_ifeqZ (b := r5) hx dX11_pairs_102 (tgt := 108) (by decide) (fun q2 => sm_iinc (ls' := [some (.ref 0), some (.int a1), some (.int a2), some (.int a3), some (.int a4), some (.int (a5 + 1))]) (z := a5) (v := (a5 + 1)) hx dX11_pairs_108 rfl (sm_kii_1 _) (by decide) rfl (sm_goto hx dX11_pairs_111 (tgt := 49) (by decide) ((hI4.1 q2)))) (fun q2 => sm_iinc (ls' := [some (.ref 0), some (.int a1), some (.int a2), some (.int (a3 + 1)), some (.int a4), some (.int a5)]) (z := a3) (v := (a3 + 1)) hx dX11_pairs_105 rfl (sm_kii_1 _) (by decide) rfl (sm_iinc (ls' := [some (.ref 0), some (.int a1), some (.int a2), some (.int (a3 + 1)), some (.int a4), some (.int (a5 + 1))]) (z := a5) (v := (a5 + 1)) hx dX11_pairs_108 rfl (sm_kii_1 _) (by decide) rfl (sm_goto hx dX11_pairs_111 (tgt := 49) (by decide) ((hI4.2 q2)))))))))))))))))))))))))))))
set_option maxRecDepth 100000 in
theorem c_X11_pairs {n : Nat} {F : Int32 → sm_MI → sm_ML → Prop} {T : List sm_Sh} {I : sm_MI} {L : sm_ML} {a1 : Int32} {a2 : Int32} (hB : sm_Bs T)
    (h : ∀ x : sm_Cx, sm_Ok x mX11_pairs (n + 1) (sm_KI T F) → sm_CZ n mX8_hasSleeper T I L [.ref 24, .int a1] (fun r2 I1 L1 => (r2 = false → F (-1) I1 L1) ∧ (r2 = true → sm_CZ n mX8_hasSleeper T I1 L1 [.ref 24, .int a2] (fun r4 I3 L3 => (r4 = false → F (-1) I3 L3) ∧ (r4 = true → (¬ a1 = a2 → sm_V x 0 0 T I3 L3 34 [some (.ref 0), some (.int a1), some (.int a2), some (.int 0), some (.int 0), none] []) ∧ (a1 = a2 → F (-1) I3 L3)))))) :
    sm_CI (n + 1) mX11_pairs T I L [.ref 0, .int a1, .int a2] F :=
  sm_CI.of (by decide +kernel) rfl (fun x hx => show sm_V x 0 0 T I L 0 [some (.ref 0), some (.int a1), some (.int a2), none, none, none] [] from
  sm_aload_n (z := 0) hx dX11_pairs_0 rfl (sm_getR hx dX11_pairs_1 fl_X11_42_11 (t_0 hB) rfl (sm_iload_n (z := a1) hx dX11_pairs_4 rfl (sm_callVZ (args := [.int a1]) (st := []) hx dX11_pairs_5 lv_X11_163_8 rfl rfl (t_24 hB) rfl rfl (h x hx) (fun r2 I1 L1 hI1 => sm_ifeqZ (b := r2) hx dX11_pairs_8 (tgt := 27) (by decide) (fun q6 => sm_iconst (v := (-1)) hx dX11_pairs_27 sm_kc_m1 (sm_iretI hx dX11_pairs_28 rfl (hI1.1 q6))) (fun q6 => sm_aload_n (z := 0) hx dX11_pairs_11 rfl (sm_getR hx dX11_pairs_12 fl_X11_42_11 (t_0 hB) rfl (sm_iload_n (z := a2) hx dX11_pairs_15 rfl (sm_callVZ (args := [.int a2]) (st := []) hx dX11_pairs_16 lv_X11_163_8 rfl rfl (t_24 hB) rfl rfl (hI1.2 q6) (fun r4 I3 L3 hI3 => sm_ifeqZ (b := r4) hx dX11_pairs_19 (tgt := 27) (by decide) (fun q5 => sm_iconst (v := (-1)) hx dX11_pairs_27 sm_kc_m1 (sm_iretI hx dX11_pairs_28 rfl (hI3.1 q5))) (fun q5 => sm_iload_n (z := a1) hx dX11_pairs_22 rfl (sm_iload_n (z := a2) hx dX11_pairs_23 rfl (sm_icmpne (a := a1) (b := a2) hx dX11_pairs_24 (tgt := 29) (by decide) (fun q4 => sm_iconst (v := 0) hx dX11_pairs_29 sm_kc_0 (sm_istore_n (ls' := [some (.ref 0), some (.int a1), some (.int a2), some (.int 0), none, none]) hx dX11_pairs_30 (by decide) rfl (sm_iconst (v := 0) hx dX11_pairs_31 sm_kc_0 (sm_istore (ls' := [some (.ref 0), some (.int a1), some (.int a2), some (.int 0), some (.int 0), none]) hx dX11_pairs_32 (by decide) rfl (((hI3.2 q5).1 q4)))))) (fun q4 => sm_iconst (v := (-1)) hx dX11_pairs_27 sm_kc_m1 (sm_iretI hx dX11_pairs_28 rfl ((hI3.2 q5).2 q4))))))))))))))))
theorem dX11_awake_0 : decode cX11_awake 0 = .ok (.aload_n 0, 1) := by decide +kernel
theorem dX11_awake_1 : decode cX11_awake 1 = .ok (.getfield 42, 3) := by decide +kernel
theorem dX11_awake_4 : decode cX11_awake 4 = .ok (.invokevirtual 210, 3) := by decide +kernel
theorem dX11_awake_7 : decode cX11_awake 7 = .ok (.ifCond .ne 5, 3) := by decide +kernel
theorem dX11_awake_10 : decode cX11_awake 10 = .ok (.iconst (-1), 1) := by decide +kernel
theorem dX11_awake_11 : decode cX11_awake 11 = .ok (.ireturn, 1) := by decide +kernel
theorem dX11_awake_12 : decode cX11_awake 12 = .ok (.iconst 0, 1) := by decide +kernel
theorem dX11_awake_13 : decode cX11_awake 13 = .ok (.istore_n 1, 1) := by decide +kernel
theorem dX11_awake_14 : decode cX11_awake 14 = .ok (.iconst 0, 1) := by decide +kernel
theorem dX11_awake_15 : decode cX11_awake 15 = .ok (.istore_n 2, 1) := by decide +kernel
theorem dX11_awake_16 : decode cX11_awake 16 = .ok (.iload_n 2, 1) := by decide +kernel
theorem dX11_awake_17 : decode cX11_awake 17 = .ok (.aload_n 0, 1) := by decide +kernel
theorem dX11_awake_18 : decode cX11_awake 18 = .ok (.getfield 42, 3) := by decide +kernel
theorem dX11_awake_21 : decode cX11_awake 21 = .ok (.getfield 131, 3) := by decide +kernel
theorem dX11_awake_24 : decode cX11_awake 24 = .ok (.if_icmp .ge 23, 3) := by decide +kernel
theorem dX11_awake_27 : decode cX11_awake 27 = .ok (.aload_n 0, 1) := by decide +kernel
theorem dX11_awake_28 : decode cX11_awake 28 = .ok (.iload_n 2, 1) := by decide +kernel
theorem dX11_awake_29 : decode cX11_awake 29 = .ok (.invokevirtual 299, 3) := by decide +kernel
theorem dX11_awake_32 : decode cX11_awake 32 = .ok (.ifCond .ne 9, 3) := by decide +kernel
theorem dX11_awake_35 : decode cX11_awake 35 = .ok (.iload_n 1, 1) := by decide +kernel
theorem dX11_awake_36 : decode cX11_awake 36 = .ok (.iconst 1, 1) := by decide +kernel
theorem dX11_awake_37 : decode cX11_awake 37 = .ok (.iload_n 2, 1) := by decide +kernel
theorem dX11_awake_38 : decode cX11_awake 38 = .ok (.ishl, 1) := by decide +kernel
theorem dX11_awake_39 : decode cX11_awake 39 = .ok (.ior, 1) := by decide +kernel
theorem dX11_awake_40 : decode cX11_awake 40 = .ok (.istore_n 1, 1) := by decide +kernel
theorem dX11_awake_41 : decode cX11_awake 41 = .ok (.iinc 2 1, 3) := by decide +kernel
theorem dX11_awake_44 : decode cX11_awake 44 = .ok (.goto (-28), 3) := by decide +kernel
theorem dX11_awake_47 : decode cX11_awake 47 = .ok (.iload_n 1, 1) := by decide +kernel
theorem dX11_awake_48 : decode cX11_awake 48 = .ok (.ireturn, 1) := by decide +kernel
set_option maxRecDepth 100000 in
theorem u_X11_awake_16 {x : sm_Cx} {n : Nat} {F : Int32 → sm_MI → sm_ML → Prop} {T : List sm_Sh} {I : sm_MI} {L : sm_ML} {a1 : Int32} {a2 : Int32} (hB : sm_Bs T) (hx : sm_Ok x mX11_awake (n + 1) (sm_KI T F))
    (h : ((I 24 1) ≤ a2 → F a1 I L) ∧ (¬ (I 24 1) ≤ a2 → sm_CI n mX11_fittingSteps T I L [.ref 0, .int a2] (fun r2 I1 L1 => (¬ r2 = 0 → sm_V x 0 0 T I1 L1 16 [some (.ref 0), some (.int a1), some (.int (a2 + 1))] []) ∧ (r2 = 0 → sm_V x 0 0 T I1 L1 16 [some (.ref 0), some (.int (a1 ||| (1 <<< (a2 &&& 31)))), some (.int (a2 + 1))] [])))) :
    sm_V x 0 0 T I L 16 [some (.ref 0), some (.int a1), some (.int a2)] [] :=
  sm_iload_n (z := a2) hx dX11_awake_16 rfl (sm_aload_n (z := 0) hx dX11_awake_17 rfl (sm_getR hx dX11_awake_18 fl_X11_42_11 (t_0 hB) rfl (sm_getI hx dX11_awake_21 fl_X11_131_8 (t_24 hB) rfl (sm_icmpge (a := a2) (b := (I 24 1)) hx dX11_awake_24 (tgt := 47) (by decide) (fun q2 => sm_iload_n (z := a1) hx dX11_awake_47 rfl (sm_iretI hx dX11_awake_48 rfl (h.1 q2))) (fun q2 => sm_aload_n (z := 0) hx dX11_awake_27 rfl (sm_iload_n (z := a2) hx dX11_awake_28 rfl (sm_callVI (args := [.int a2]) (st := []) hx dX11_awake_29 lv_X11_299_11 rfl rfl (t_0 hB) rfl rfl (h.2 q2) (fun r2 I1 L1 hI1 => sm_ifne (a := r2) hx dX11_awake_32 (tgt := 41) (by decide) (fun q1 => sm_iinc (ls' := [some (.ref 0), some (.int a1), some (.int (a2 + 1))]) (z := a2) (v := (a2 + 1)) hx dX11_awake_41 rfl (sm_kii_1 _) (by decide) rfl (sm_goto hx dX11_awake_44 (tgt := 16) (by decide) ((hI1.1 q1)))) (fun q1 => sm_iload_n (z := a1) hx dX11_awake_35 rfl (sm_iconst (v := 1) hx dX11_awake_36 sm_kc_1 (sm_iload_n (z := a2) hx dX11_awake_37 rfl (sm_ishl (a := 1) (b := a2) hx dX11_awake_38 (sm_ior (a := a1) (b := (1 <<< (a2 &&& 31))) hx dX11_awake_39 (sm_istore_n (ls' := [some (.ref 0), some (.int (a1 ||| (1 <<< (a2 &&& 31)))), some (.int a2)]) hx dX11_awake_40 (by decide) rfl (sm_iinc (ls' := [some (.ref 0), some (.int (a1 ||| (1 <<< (a2 &&& 31)))), some (.int (a2 + 1))]) (z := a2) (v := (a2 + 1)) hx dX11_awake_41 rfl (sm_kii_1 _) (by decide) rfl (sm_goto hx dX11_awake_44 (tgt := 16) (by decide) ((hI1.2 q1))))))))))))))))))
set_option maxRecDepth 100000 in
theorem c_X11_awake {n : Nat} {F : Int32 → sm_MI → sm_ML → Prop} {T : List sm_Sh} {I : sm_MI} {L : sm_ML}  (hB : sm_Bs T)
    (h : ∀ x : sm_Cx, sm_Ok x mX11_awake (n + 1) (sm_KI T F) → sm_CZ n mX8_isTold T I L [.ref 24] (fun r2 I1 L1 => (r2 = true → sm_V x 0 0 T I1 L1 16 [some (.ref 0), some (.int 0), some (.int 0)] []) ∧ (r2 = false → F (-1) I1 L1))) :
    sm_CI (n + 1) mX11_awake T I L [.ref 0] F :=
  sm_CI.of (by decide +kernel) rfl (fun x hx => show sm_V x 0 0 T I L 0 [some (.ref 0), none, none] [] from
  sm_aload_n (z := 0) hx dX11_awake_0 rfl (sm_getR hx dX11_awake_1 fl_X11_42_11 (t_0 hB) rfl (sm_callVZ (args := []) (st := []) hx dX11_awake_4 lv_X11_210_8 rfl rfl (t_24 hB) rfl rfl (h x hx) (fun r2 I1 L1 hI1 => sm_ifneZ (b := r2) hx dX11_awake_7 (tgt := 12) (by decide) (fun q3 => sm_iconst (v := 0) hx dX11_awake_12 sm_kc_0 (sm_istore_n (ls' := [some (.ref 0), some (.int 0), none]) hx dX11_awake_13 (by decide) rfl (sm_iconst (v := 0) hx dX11_awake_14 sm_kc_0 (sm_istore_n (ls' := [some (.ref 0), some (.int 0), some (.int 0)]) hx dX11_awake_15 (by decide) rfl ((hI1.1 q3)))))) (fun q3 => sm_iconst (v := (-1)) hx dX11_awake_10 sm_kc_m1 (sm_iretI hx dX11_awake_11 rfl (hI1.2 q3)))))))
theorem dX11_test_0 : decode cX11_test 0 = .ok (.aload_n 0, 1) := by decide +kernel
theorem dX11_test_1 : decode cX11_test 1 = .ok (.getfield 42, 3) := by decide +kernel
theorem dX11_test_4 : decode cX11_test 4 = .ok (.iload_n 1, 1) := by decide +kernel
theorem dX11_test_5 : decode cX11_test 5 = .ok (.invokevirtual 163, 3) := by decide +kernel
theorem dX11_test_8 : decode cX11_test 8 = .ok (.ifCond .eq 22, 3) := by decide +kernel
theorem dX11_test_11 : decode cX11_test 11 = .ok (.iload_n 2, 1) := by decide +kernel
theorem dX11_test_12 : decode cX11_test 12 = .ok (.iconst 1, 1) := by decide +kernel
theorem dX11_test_13 : decode cX11_test 13 = .ok (.bipush 60, 2) := by decide +kernel
theorem dX11_test_15 : decode cX11_test 15 = .ok (.invokestatic 115, 3) := by decide +kernel
theorem dX11_test_18 : decode cX11_test 18 = .ok (.ifCond .eq 12, 3) := by decide +kernel
theorem dX11_test_21 : decode cX11_test 21 = .ok (.iload_n 3, 1) := by decide +kernel
theorem dX11_test_22 : decode cX11_test 22 = .ok (.iconst 0, 1) := by decide +kernel
theorem dX11_test_23 : decode cX11_test 23 = .ok (.iconst 1, 1) := by decide +kernel
theorem dX11_test_24 : decode cX11_test 24 = .ok (.invokestatic 115, 3) := by decide +kernel
theorem dX11_test_27 : decode cX11_test 27 = .ok (.ifCond .ne 5, 3) := by decide +kernel
theorem dX11_test_30 : decode cX11_test 30 = .ok (.iconst (-1), 1) := by decide +kernel
theorem dX11_test_31 : decode cX11_test 31 = .ok (.ireturn, 1) := by decide +kernel
theorem dX11_test_32 : decode cX11_test 32 = .ok (.iconst 0, 1) := by decide +kernel
theorem dX11_test_33 : decode cX11_test 33 = .ok (.istore 4, 2) := by decide +kernel
theorem dX11_test_35 : decode cX11_test 35 = .ok (.iconst (-1), 1) := by decide +kernel
theorem dX11_test_36 : decode cX11_test 36 = .ok (.istore 5, 2) := by decide +kernel
theorem dX11_test_38 : decode cX11_test 38 = .ok (.iconst 0, 1) := by decide +kernel
theorem dX11_test_39 : decode cX11_test 39 = .ok (.istore 6, 2) := by decide +kernel
theorem dX11_test_41 : decode cX11_test 41 = .ok (.iload 6, 2) := by decide +kernel
theorem dX11_test_43 : decode cX11_test 43 = .ok (.aload_n 0, 1) := by decide +kernel
theorem dX11_test_44 : decode cX11_test 44 = .ok (.getfield 42, 3) := by decide +kernel
theorem dX11_test_47 : decode cX11_test 47 = .ok (.getfield 220, 3) := by decide +kernel
theorem dX11_test_50 : decode cX11_test 50 = .ok (.if_icmp .ge 63, 3) := by decide +kernel
theorem dX11_test_53 : decode cX11_test 53 = .ok (.iconst 0, 1) := by decide +kernel
theorem dX11_test_54 : decode cX11_test 54 = .ok (.istore 7, 2) := by decide +kernel
theorem dX11_test_56 : decode cX11_test 56 = .ok (.iload 7, 2) := by decide +kernel
theorem dX11_test_58 : decode cX11_test 58 = .ok (.aload_n 0, 1) := by decide +kernel
theorem dX11_test_59 : decode cX11_test 59 = .ok (.getfield 42, 3) := by decide +kernel
theorem dX11_test_62 : decode cX11_test 62 = .ok (.getfield 217, 3) := by decide +kernel
theorem dX11_test_65 : decode cX11_test 65 = .ok (.if_icmp .ge 42, 3) := by decide +kernel
theorem dX11_test_68 : decode cX11_test 68 = .ok (.aload_n 0, 1) := by decide +kernel
theorem dX11_test_69 : decode cX11_test 69 = .ok (.iload_n 1, 1) := by decide +kernel
theorem dX11_test_70 : decode cX11_test 70 = .ok (.iload_n 2, 1) := by decide +kernel
theorem dX11_test_71 : decode cX11_test 71 = .ok (.iload 6, 2) := by decide +kernel
theorem dX11_test_73 : decode cX11_test 73 = .ok (.iload 7, 2) := by decide +kernel
theorem dX11_test_75 : decode cX11_test 75 = .ok (.invokevirtual 308, 3) := by decide +kernel
theorem dX11_test_78 : decode cX11_test 78 = .ok (.istore 8, 2) := by decide +kernel
theorem dX11_test_80 : decode cX11_test 80 = .ok (.iload 8, 2) := by decide +kernel
theorem dX11_test_82 : decode cX11_test 82 = .ok (.iload 4, 2) := by decide +kernel
theorem dX11_test_84 : decode cX11_test 84 = .ok (.if_icmp .le 17, 3) := by decide +kernel
theorem dX11_test_87 : decode cX11_test 87 = .ok (.iload 8, 2) := by decide +kernel
theorem dX11_test_89 : decode cX11_test 89 = .ok (.istore 4, 2) := by decide +kernel
theorem dX11_test_91 : decode cX11_test 91 = .ok (.bipush 10, 2) := by decide +kernel
theorem dX11_test_93 : decode cX11_test 93 = .ok (.iload 6, 2) := by decide +kernel
theorem dX11_test_95 : decode cX11_test 95 = .ok (.imul, 1) := by decide +kernel
theorem dX11_test_96 : decode cX11_test 96 = .ok (.iload 7, 2) := by decide +kernel
theorem dX11_test_98 : decode cX11_test 98 = .ok (.iadd, 1) := by decide +kernel
theorem dX11_test_99 : decode cX11_test 99 = .ok (.istore 5, 2) := by decide +kernel
theorem dX11_test_101 : decode cX11_test 101 = .ok (.iinc 7 1, 3) := by decide +kernel
theorem dX11_test_104 : decode cX11_test 104 = .ok (.goto (-48), 3) := by decide +kernel
theorem dX11_test_107 : decode cX11_test 107 = .ok (.iinc 6 1, 3) := by decide +kernel
theorem dX11_test_110 : decode cX11_test 110 = .ok (.goto (-69), 3) := by decide +kernel
theorem dX11_test_113 : decode cX11_test 113 = .ok (.iload_n 3, 1) := by decide +kernel
theorem dX11_test_114 : decode cX11_test 114 = .ok (.ifCond .ne 8, 3) := by decide +kernel
theorem dX11_test_117 : decode cX11_test 117 = .ok (.iload 5, 2) := by decide +kernel
theorem dX11_test_119 : decode cX11_test 119 = .ok (.goto 5, 3) := by decide +kernel
theorem dX11_test_122 : decode cX11_test 122 = .ok (.iload 4, 2) := by decide +kernel
theorem dX11_test_124 : decode cX11_test 124 = .ok (.ireturn, 1) := by decide +kernel
set_option maxRecDepth 100000 in
theorem u_X11_test_41 {x : sm_Cx} {n : Nat} {F : Int32 → sm_MI → sm_ML → Prop} {T : List sm_Sh} {I : sm_MI} {L : sm_ML} {a1 : Int32} {a2 : Int32} {a3 : Int32} {a4 : Int32} {a5 : Int32} {a6 : Int32} {u7 : Option Value} {u8 : Option Value} (hB : sm_Bs T) (hx : sm_Ok x mX11_test (n + 1) (sm_KI T F))
    (h : ((I 24 2) ≤ a6 → (¬ a3 = 0 → F a4 I L) ∧ (a3 = 0 → F a5 I L)) ∧ (¬ (I 24 2) ≤ a6 → sm_V x 0 0 T I L 56 [some (.ref 0), some (.int a1), some (.int a2), some (.int a3), some (.int a4), some (.int a5), some (.int a6), some (.int 0), u8] [])) :
    sm_V x 0 0 T I L 41 [some (.ref 0), some (.int a1), some (.int a2), some (.int a3), some (.int a4), some (.int a5), some (.int a6), u7, u8] [] :=
  sm_iload (z := a6) hx dX11_test_41 rfl (sm_aload_n (z := 0) hx dX11_test_43 rfl (sm_getR hx dX11_test_44 fl_X11_42_11 (t_0 hB) rfl (sm_getI hx dX11_test_47 fl_X11_220_8 (t_24 hB) rfl (sm_icmpge (a := a6) (b := (I 24 2)) hx dX11_test_50 (tgt := 113) (by decide) (fun q2 => sm_iload_n (z := a3) hx dX11_test_113 rfl (sm_ifne (a := a3) hx dX11_test_114 (tgt := 122) (by decide) (fun q1 => sm_iload (z := a4) hx dX11_test_122 rfl (sm_iretI hx dX11_test_124 rfl ((h.1 q2).1 q1))) (fun q1 => sm_iload (z := a5) hx dX11_test_117 rfl (sm_goto hx dX11_test_119 (tgt := 124) (by decide) (sm_iretI hx dX11_test_124 rfl ((h.1 q2).2 q1)))))) (fun q2 => sm_iconst (v := 0) hx dX11_test_53 sm_kc_0 (sm_istore (ls' := [some (.ref 0), some (.int a1), some (.int a2), some (.int a3), some (.int a4), some (.int a5), some (.int a6), some (.int 0), u8]) hx dX11_test_54 (by decide) rfl ((h.2 q2))))))))
set_option maxRecDepth 100000 in
theorem u_X11_test_56 {x : sm_Cx} {n : Nat} {F : Int32 → sm_MI → sm_ML → Prop} {T : List sm_Sh} {I : sm_MI} {L : sm_ML} {a1 : Int32} {a2 : Int32} {a3 : Int32} {a4 : Int32} {a5 : Int32} {a6 : Int32} {a7 : Int32} {u8 : Option Value} (hB : sm_Bs T) (hx : sm_Ok x mX11_test (n + 1) (sm_KI T F))
    (h : ((I 24 0) ≤ a7 → sm_V x 0 0 T I L 41 [some (.ref 0), some (.int a1), some (.int a2), some (.int a3), some (.int a4), some (.int a5), some (.int (a6 + 1)), some (.int a7), u8] []) ∧ (¬ (I 24 0) ≤ a7 → sm_CI n mX11_kindsOfPlaces T I L [.ref 0, .int a1, .int a2, .int a6, .int a7] (fun r2 I1 L1 => (r2 ≤ a4 → sm_V x 0 0 T I1 L1 56 [some (.ref 0), some (.int a1), some (.int a2), some (.int a3), some (.int a4), some (.int a5), some (.int a6), some (.int (a7 + 1)), some (.int r2)] []) ∧ (¬ r2 ≤ a4 → sm_V x 0 0 T I1 L1 56 [some (.ref 0), some (.int a1), some (.int a2), some (.int a3), some (.int r2), some (.int ((10 * a6) + a7)), some (.int a6), some (.int (a7 + 1)), some (.int r2)] [])))) :
    sm_V x 0 0 T I L 56 [some (.ref 0), some (.int a1), some (.int a2), some (.int a3), some (.int a4), some (.int a5), some (.int a6), some (.int a7), u8] [] :=
  sm_iload (z := a7) hx dX11_test_56 rfl (sm_aload_n (z := 0) hx dX11_test_58 rfl (sm_getR hx dX11_test_59 fl_X11_42_11 (t_0 hB) rfl (sm_getI hx dX11_test_62 fl_X11_217_8 (t_24 hB) rfl (sm_icmpge (a := a7) (b := (I 24 0)) hx dX11_test_65 (tgt := 107) (by decide) (fun q4 => sm_iinc (ls' := [some (.ref 0), some (.int a1), some (.int a2), some (.int a3), some (.int a4), some (.int a5), some (.int (a6 + 1)), some (.int a7), u8]) (z := a6) (v := (a6 + 1)) hx dX11_test_107 rfl (sm_kii_1 _) (by decide) rfl (sm_goto hx dX11_test_110 (tgt := 41) (by decide) ((h.1 q4)))) (fun q4 => sm_aload_n (z := 0) hx dX11_test_68 rfl (sm_iload_n (z := a1) hx dX11_test_69 rfl (sm_iload_n (z := a2) hx dX11_test_70 rfl (sm_iload (z := a6) hx dX11_test_71 rfl (sm_iload (z := a7) hx dX11_test_73 rfl (sm_callVI (args := [.int a1, .int a2, .int a6, .int a7]) (st := []) hx dX11_test_75 lv_X11_308_11 rfl rfl (t_0 hB) rfl rfl (h.2 q4) (fun r2 I1 L1 hI1 => sm_istore (ls' := [some (.ref 0), some (.int a1), some (.int a2), some (.int a3), some (.int a4), some (.int a5), some (.int a6), some (.int a7), some (.int r2)]) hx dX11_test_78 (by decide) rfl (sm_iload (z := r2) hx dX11_test_80 rfl (sm_iload (z := a4) hx dX11_test_82 rfl (sm_icmple (a := r2) (b := a4) hx dX11_test_84 (tgt := 101) (by decide) (fun q3 => sm_iinc (ls' := [some (.ref 0), some (.int a1), some (.int a2), some (.int a3), some (.int a4), some (.int a5), some (.int a6), some (.int (a7 + 1)), some (.int r2)]) (z := a7) (v := (a7 + 1)) hx dX11_test_101 rfl (sm_kii_1 _) (by decide) rfl (sm_goto hx dX11_test_104 (tgt := 56) (by decide) ((hI1.1 q3)))) (fun q3 => sm_iload (z := r2) hx dX11_test_87 rfl (sm_istore (ls' := [some (.ref 0), some (.int a1), some (.int a2), some (.int a3), some (.int r2), some (.int a5), some (.int a6), some (.int a7), some (.int r2)]) hx dX11_test_89 (by decide) rfl (sm_bipush (v := 10) hx dX11_test_91 sm_kb_10 (sm_iload (z := a6) hx dX11_test_93 rfl (sm_imul (a := 10) (b := a6) hx dX11_test_95 (sm_iload (z := a7) hx dX11_test_96 rfl (sm_iadd (a := (10 * a6)) (b := a7) hx dX11_test_98 (sm_istore (ls' := [some (.ref 0), some (.int a1), some (.int a2), some (.int a3), some (.int r2), some (.int ((10 * a6) + a7)), some (.int a6), some (.int a7), some (.int r2)]) hx dX11_test_99 (by decide) rfl (sm_iinc (ls' := [some (.ref 0), some (.int a1), some (.int a2), some (.int a3), some (.int r2), some (.int ((10 * a6) + a7)), some (.int a6), some (.int (a7 + 1)), some (.int r2)]) (z := a7) (v := (a7 + 1)) hx dX11_test_101 rfl (sm_kii_1 _) (by decide) rfl (sm_goto hx dX11_test_104 (tgt := 56) (by decide) ((hI1.2 q3))))))))))))))))))))))))))
set_option maxRecDepth 100000 in
theorem c_X11_test {n : Nat} {F : Int32 → sm_MI → sm_ML → Prop} {T : List sm_Sh} {I : sm_MI} {L : sm_ML} {a1 : Int32} {a2 : Int32} {a3 : Int32} (hB : sm_Bs T)
    (h : ∀ x : sm_Cx, sm_Ok x mX11_test (n + 1) (sm_KI T F) → sm_CZ n mX8_hasSleeper T I L [.ref 24, .int a1] (fun r2 I1 L1 => (r2 = false → F (-1) I1 L1) ∧ (r2 = true → sm_CZ n mX11_within T I1 L1 [.int a2, .int 1, .int 60] (fun r4 I3 L3 => (r4 = false → F (-1) I3 L3) ∧ (r4 = true → sm_CZ n mX11_within T I3 L3 [.int a3, .int 0, .int 1] (fun r6 I5 L5 => (r6 = true → sm_V x 0 0 T I5 L5 41 [some (.ref 0), some (.int a1), some (.int a2), some (.int a3), some (.int 0), some (.int (-1)), some (.int 0), none, none] []) ∧ (r6 = false → F (-1) I5 L5))))))) :
    sm_CI (n + 1) mX11_test T I L [.ref 0, .int a1, .int a2, .int a3] F :=
  sm_CI.of (by decide +kernel) rfl (fun x hx => show sm_V x 0 0 T I L 0 [some (.ref 0), some (.int a1), some (.int a2), some (.int a3), none, none, none, none, none] [] from
  sm_aload_n (z := 0) hx dX11_test_0 rfl (sm_getR hx dX11_test_1 fl_X11_42_11 (t_0 hB) rfl (sm_iload_n (z := a1) hx dX11_test_4 rfl (sm_callVZ (args := [.int a1]) (st := []) hx dX11_test_5 lv_X11_163_8 rfl rfl (t_24 hB) rfl rfl (h x hx) (fun r2 I1 L1 hI1 => sm_ifeqZ (b := r2) hx dX11_test_8 (tgt := 30) (by decide) (fun q7 => sm_iconst (v := (-1)) hx dX11_test_30 sm_kc_m1 (sm_iretI hx dX11_test_31 rfl (hI1.1 q7))) (fun q7 => sm_iload_n (z := a2) hx dX11_test_11 rfl (sm_iconst (v := 1) hx dX11_test_12 sm_kc_1 (sm_bipush (v := 60) hx dX11_test_13 sm_kb_60 (sm_callSZ (args := [.int a2, .int 1, .int 60]) (st := []) hx dX11_test_15 ls_X11_115 rfl rfl rfl (hI1.2 q7) (fun r4 I3 L3 hI3 => sm_ifeqZ (b := r4) hx dX11_test_18 (tgt := 30) (by decide) (fun q6 => sm_iconst (v := (-1)) hx dX11_test_30 sm_kc_m1 (sm_iretI hx dX11_test_31 rfl (hI3.1 q6))) (fun q6 => sm_iload_n (z := a3) hx dX11_test_21 rfl (sm_iconst (v := 0) hx dX11_test_22 sm_kc_0 (sm_iconst (v := 1) hx dX11_test_23 sm_kc_1 (sm_callSZ (args := [.int a3, .int 0, .int 1]) (st := []) hx dX11_test_24 ls_X11_115 rfl rfl rfl (hI3.2 q6) (fun r6 I5 L5 hI5 => sm_ifneZ (b := r6) hx dX11_test_27 (tgt := 32) (by decide) (fun q5 => sm_iconst (v := 0) hx dX11_test_32 sm_kc_0 (sm_istore (ls' := [some (.ref 0), some (.int a1), some (.int a2), some (.int a3), some (.int 0), none, none, none, none]) hx dX11_test_33 (by decide) rfl (sm_iconst (v := (-1)) hx dX11_test_35 sm_kc_m1 (sm_istore (ls' := [some (.ref 0), some (.int a1), some (.int a2), some (.int a3), some (.int 0), some (.int (-1)), none, none, none]) hx dX11_test_36 (by decide) rfl (sm_iconst (v := 0) hx dX11_test_38 sm_kc_0 (sm_istore (ls' := [some (.ref 0), some (.int a1), some (.int a2), some (.int a3), some (.int 0), some (.int (-1)), some (.int 0), none, none]) hx dX11_test_39 (by decide) rfl ((hI5.1 q5)))))))) (fun q5 => sm_iconst (v := (-1)) hx dX11_test_30 sm_kc_m1 (sm_iretI hx dX11_test_31 rfl (hI5.2 q5))))))))))))))))))
theorem dX11_odds_0 : decode cX11_odds 0 = .ok (.aload_n 0, 1) := by decide +kernel
theorem dX11_odds_1 : decode cX11_odds 1 = .ok (.getfield 42, 3) := by decide +kernel
theorem dX11_odds_4 : decode cX11_odds 4 = .ok (.iload_n 1, 1) := by decide +kernel
theorem dX11_odds_5 : decode cX11_odds 5 = .ok (.invokevirtual 194, 3) := by decide +kernel
theorem dX11_odds_8 : decode cX11_odds 8 = .ok (.ifCond .eq 24, 3) := by decide +kernel
theorem dX11_odds_11 : decode cX11_odds 11 = .ok (.aload_n 0, 1) := by decide +kernel
theorem dX11_odds_12 : decode cX11_odds 12 = .ok (.getfield 42, 3) := by decide +kernel
theorem dX11_odds_15 : decode cX11_odds 15 = .ok (.iload_n 3, 1) := by decide +kernel
theorem dX11_odds_16 : decode cX11_odds 16 = .ok (.invokevirtual 201, 3) := by decide +kernel
theorem dX11_odds_19 : decode cX11_odds 19 = .ok (.ifCond .eq 13, 3) := by decide +kernel
theorem dX11_odds_22 : decode cX11_odds 22 = .ok (.iload_n 2, 1) := by decide +kernel
theorem dX11_odds_23 : decode cX11_odds 23 = .ok (.iconst 1, 1) := by decide +kernel
theorem dX11_odds_24 : decode cX11_odds 24 = .ok (.bipush 8, 2) := by decide +kernel
theorem dX11_odds_26 : decode cX11_odds 26 = .ok (.invokestatic 115, 3) := by decide +kernel
theorem dX11_odds_29 : decode cX11_odds 29 = .ok (.ifCond .ne 5, 3) := by decide +kernel
theorem dX11_odds_32 : decode cX11_odds 32 = .ok (.iconst (-1), 1) := by decide +kernel
theorem dX11_odds_33 : decode cX11_odds 33 = .ok (.ireturn, 1) := by decide +kernel
theorem dX11_odds_34 : decode cX11_odds 34 = .ok (.iload_n 2, 1) := by decide +kernel
theorem dX11_odds_35 : decode cX11_odds 35 = .ok (.aload_n 0, 1) := by decide +kernel
theorem dX11_odds_36 : decode cX11_odds 36 = .ok (.getfield 42, 3) := by decide +kernel
theorem dX11_odds_39 : decode cX11_odds 39 = .ok (.invokevirtual 312, 3) := by decide +kernel
theorem dX11_odds_42 : decode cX11_odds 42 = .ok (.imul, 1) := by decide +kernel
theorem dX11_odds_43 : decode cX11_odds 43 = .ok (.bipush 12, 2) := by decide +kernel
theorem dX11_odds_45 : decode cX11_odds 45 = .ok (.if_icmp .le 5, 3) := by decide +kernel
theorem dX11_odds_48 : decode cX11_odds 48 = .ok (.iconst (-1), 1) := by decide +kernel
theorem dX11_odds_49 : decode cX11_odds 49 = .ok (.ireturn, 1) := by decide +kernel
theorem dX11_odds_50 : decode cX11_odds 50 = .ok (.aload_n 0, 1) := by decide +kernel
theorem dX11_odds_51 : decode cX11_odds 51 = .ok (.getfield 79, 3) := by decide +kernel
theorem dX11_odds_54 : decode cX11_odds 54 = .ok (.aload_n 0, 1) := by decide +kernel
theorem dX11_odds_55 : decode cX11_odds 55 = .ok (.getfield 49, 3) := by decide +kernel
theorem dX11_odds_58 : decode cX11_odds 58 = .ok (.invokevirtual 250, 3) := by decide +kernel
theorem dX11_odds_61 : decode cX11_odds 61 = .ok (.aload_n 0, 1) := by decide +kernel
theorem dX11_odds_62 : decode cX11_odds 62 = .ok (.getfield 79, 3) := by decide +kernel
theorem dX11_odds_65 : decode cX11_odds 65 = .ok (.iload_n 1, 1) := by decide +kernel
theorem dX11_odds_66 : decode cX11_odds 66 = .ok (.iload_n 3, 1) := by decide +kernel
theorem dX11_odds_67 : decode cX11_odds 67 = .ok (.iload_n 2, 1) := by decide +kernel
theorem dX11_odds_68 : decode cX11_odds 68 = .ok (.aload_n 0, 1) := by decide +kernel
theorem dX11_odds_69 : decode cX11_odds 69 = .ok (.getfield 83, 3) := by decide +kernel
theorem dX11_odds_72 : decode cX11_odds 72 = .ok (.invokevirtual 315, 3) := by decide +kernel
theorem dX11_odds_75 : decode cX11_odds 75 = .ok (.l2i, 1) := by decide +kernel
theorem dX11_odds_76 : decode cX11_odds 76 = .ok (.ireturn, 1) := by decide +kernel
set_option maxRecDepth 100000 in
theorem c_X11_odds {n : Nat} {F : Int32 → sm_MI → sm_ML → Prop} {T : List sm_Sh} {I : sm_MI} {L : sm_ML} {a1 : Int32} {a2 : Int32} {a3 : Int32} (hB : sm_Bs T)
    (h : sm_CZ n mX8_hasThing T I L [.ref 24, .int a1] (fun r2 I1 L1 => (r2 = false → F (-1) I1 L1) ∧ (r2 = true → sm_CZ n mX8_hasHouse T I1 L1 [.ref 24, .int a3] (fun r4 I3 L3 => (r4 = false → F (-1) I3 L3) ∧ (r4 = true → sm_CZ n mX11_within T I3 L3 [.int a2, .int 1, .int 8] (fun r6 I5 L5 => (r6 = true → sm_CI n mX8_feverish T I5 L5 [.ref 24] (fun r8 I7 L7 => ((a2 * r8) ≤ 12 → sm_CV n mX0_begin T I7 L7 [.ref 53, .ref 35] (fun I9 L9 => sm_CL n mX0_partsInto T I9 L9 [.ref 53, .int a1, .int a3, .int a2, .int (I9 0 11)] (fun r11 I10 L10 => F (Int64.toInt32 r11) I10 L10))) ∧ (¬ (a2 * r8) ≤ 12 → F (-1) I7 L7))) ∧ (r6 = false → F (-1) I5 L5))))))) :
    sm_CI (n + 1) mX11_odds T I L [.ref 0, .int a1, .int a2, .int a3] F :=
  sm_CI.of (by decide +kernel) rfl (fun x hx => show sm_V x 0 0 T I L 0 [some (.ref 0), some (.int a1), some (.int a2), some (.int a3)] [] from
  sm_aload_n (z := 0) hx dX11_odds_0 rfl (sm_getR hx dX11_odds_1 fl_X11_42_11 (t_0 hB) rfl (sm_iload_n (z := a1) hx dX11_odds_4 rfl (sm_callVZ (args := [.int a1]) (st := []) hx dX11_odds_5 lv_X11_194_8 rfl rfl (t_24 hB) rfl rfl h (fun r2 I1 L1 hI1 => sm_ifeqZ (b := r2) hx dX11_odds_8 (tgt := 32) (by decide) (fun q4 => sm_iconst (v := (-1)) hx dX11_odds_32 sm_kc_m1 (sm_iretI hx dX11_odds_33 rfl (hI1.1 q4))) (fun q4 => sm_aload_n (z := 0) hx dX11_odds_11 rfl (sm_getR hx dX11_odds_12 fl_X11_42_11 (t_0 hB) rfl (sm_iload_n (z := a3) hx dX11_odds_15 rfl (sm_callVZ (args := [.int a3]) (st := []) hx dX11_odds_16 lv_X11_201_8 rfl rfl (t_24 hB) rfl rfl (hI1.2 q4) (fun r4 I3 L3 hI3 => sm_ifeqZ (b := r4) hx dX11_odds_19 (tgt := 32) (by decide) (fun q3 => sm_iconst (v := (-1)) hx dX11_odds_32 sm_kc_m1 (sm_iretI hx dX11_odds_33 rfl (hI3.1 q3))) (fun q3 => sm_iload_n (z := a2) hx dX11_odds_22 rfl (sm_iconst (v := 1) hx dX11_odds_23 sm_kc_1 (sm_bipush (v := 8) hx dX11_odds_24 sm_kb_8 (sm_callSZ (args := [.int a2, .int 1, .int 8]) (st := []) hx dX11_odds_26 ls_X11_115 rfl rfl rfl (hI3.2 q3) (fun r6 I5 L5 hI5 => sm_ifneZ (b := r6) hx dX11_odds_29 (tgt := 34) (by decide) (fun q2 => sm_iload_n (z := a2) hx dX11_odds_34 rfl (sm_aload_n (z := 0) hx dX11_odds_35 rfl (sm_getR hx dX11_odds_36 fl_X11_42_11 (t_0 hB) rfl (sm_callVI (args := []) (st := [.int a2]) hx dX11_odds_39 lv_X11_312_8 rfl rfl (t_24 hB) rfl rfl (hI5.1 q2) (fun r8 I7 L7 hI7 => sm_imul (a := a2) (b := r8) hx dX11_odds_42 (sm_bipush (v := 12) hx dX11_odds_43 sm_kb_12 (sm_icmple (a := (a2 * r8)) (b := 12) hx dX11_odds_45 (tgt := 50) (by decide) (fun q1 => sm_aload_n (z := 0) hx dX11_odds_50 rfl (sm_getR hx dX11_odds_51 fl_X11_79_11 (t_0 hB) rfl (sm_aload_n (z := 0) hx dX11_odds_54 rfl (sm_getR hx dX11_odds_55 fl_X11_49_11 (t_0 hB) rfl (sm_callVV (args := [.ref 35]) (st := []) hx dX11_odds_58 lv_X11_250_1 rfl rfl (t_53 hB) rfl rfl (hI7.1 q1) (fun I9 L9 hI9 => sm_aload_n (z := 0) hx dX11_odds_61 rfl (sm_getR hx dX11_odds_62 fl_X11_79_11 (t_0 hB) rfl (sm_iload_n (z := a1) hx dX11_odds_65 rfl (sm_iload_n (z := a3) hx dX11_odds_66 rfl (sm_iload_n (z := a2) hx dX11_odds_67 rfl (sm_aload_n (z := 0) hx dX11_odds_68 rfl (sm_getI hx dX11_odds_69 fl_X11_83_11 (t_0 hB) rfl (sm_callVL (args := [.int a1, .int a3, .int a2, .int (I9 0 11)]) (st := []) hx dX11_odds_72 lv_X11_315_1 rfl rfl (t_53 hB) rfl rfl hI9 (fun r11 I10 L10 hI10 => sm_l2i (a := r11) hx dX11_odds_75 (sm_iretI hx dX11_odds_76 rfl hI10))))))))))))))) (fun q1 => sm_iconst (v := (-1)) hx dX11_odds_48 sm_kc_m1 (sm_iretI hx dX11_odds_49 rfl (hI7.2 q1)))))))))) (fun q2 => sm_iconst (v := (-1)) hx dX11_odds_32 sm_kc_m1 (sm_iretI hx dX11_odds_33 rfl (hI5.2 q2))))))))))))))))))
theorem dX11_stay_0 : decode cX11_stay 0 = .ok (.aload_n 0, 1) := by decide +kernel
theorem dX11_stay_1 : decode cX11_stay 1 = .ok (.getfield 42, 3) := by decide +kernel
theorem dX11_stay_4 : decode cX11_stay 4 = .ok (.iload_n 1, 1) := by decide +kernel
theorem dX11_stay_5 : decode cX11_stay 5 = .ok (.invokevirtual 194, 3) := by decide +kernel
theorem dX11_stay_8 : decode cX11_stay 8 = .ok (.ifCond .eq 13, 3) := by decide +kernel
theorem dX11_stay_11 : decode cX11_stay 11 = .ok (.iload_n 2, 1) := by decide +kernel
theorem dX11_stay_12 : decode cX11_stay 12 = .ok (.iconst 1, 1) := by decide +kernel
theorem dX11_stay_13 : decode cX11_stay 13 = .ok (.bipush 60, 2) := by decide +kernel
theorem dX11_stay_15 : decode cX11_stay 15 = .ok (.invokestatic 115, 3) := by decide +kernel
theorem dX11_stay_18 : decode cX11_stay 18 = .ok (.ifCond .ne 5, 3) := by decide +kernel
theorem dX11_stay_21 : decode cX11_stay 21 = .ok (.iconst (-1), 1) := by decide +kernel
theorem dX11_stay_22 : decode cX11_stay 22 = .ok (.ireturn, 1) := by decide +kernel
theorem dX11_stay_23 : decode cX11_stay 23 = .ok (.aload_n 0, 1) := by decide +kernel
theorem dX11_stay_24 : decode cX11_stay 24 = .ok (.iload_n 1, 1) := by decide +kernel
theorem dX11_stay_25 : decode cX11_stay 25 = .ok (.iload_n 2, 1) := by decide +kernel
theorem dX11_stay_26 : decode cX11_stay 26 = .ok (.iconst 0, 1) := by decide +kernel
theorem dX11_stay_27 : decode cX11_stay 27 = .ok (.invokevirtual 319, 3) := by decide +kernel
theorem dX11_stay_30 : decode cX11_stay 30 = .ok (.ifCond .eq 5, 3) := by decide +kernel
theorem dX11_stay_33 : decode cX11_stay 33 = .ok (.iconst 0, 1) := by decide +kernel
theorem dX11_stay_34 : decode cX11_stay 34 = .ok (.ireturn, 1) := by decide +kernel
theorem dX11_stay_35 : decode cX11_stay 35 = .ok (.iconst 0, 1) := by decide +kernel
theorem dX11_stay_36 : decode cX11_stay 36 = .ok (.istore_n 3, 1) := by decide +kernel
theorem dX11_stay_37 : decode cX11_stay 37 = .ok (.iload_n 3, 1) := by decide +kernel
theorem dX11_stay_38 : decode cX11_stay 38 = .ok (.aload_n 0, 1) := by decide +kernel
theorem dX11_stay_39 : decode cX11_stay 39 = .ok (.getfield 42, 3) := by decide +kernel
theorem dX11_stay_42 : decode cX11_stay 42 = .ok (.getfield 217, 3) := by decide +kernel
theorem dX11_stay_45 : decode cX11_stay 45 = .ok (.if_icmp .ge 25, 3) := by decide +kernel
theorem dX11_stay_48 : decode cX11_stay 48 = .ok (.aload_n 0, 1) := by decide +kernel
theorem dX11_stay_49 : decode cX11_stay 49 = .ok (.iload_n 1, 1) := by decide +kernel
theorem dX11_stay_50 : decode cX11_stay 50 = .ok (.iload_n 2, 1) := by decide +kernel
theorem dX11_stay_51 : decode cX11_stay 51 = .ok (.iconst 1, 1) := by decide +kernel
theorem dX11_stay_52 : decode cX11_stay 52 = .ok (.iload_n 3, 1) := by decide +kernel
theorem dX11_stay_53 : decode cX11_stay 53 = .ok (.ishl, 1) := by decide +kernel
theorem dX11_stay_54 : decode cX11_stay 54 = .ok (.invokevirtual 319, 3) := by decide +kernel
theorem dX11_stay_57 : decode cX11_stay 57 = .ok (.ifCond .eq 7, 3) := by decide +kernel
theorem dX11_stay_60 : decode cX11_stay 60 = .ok (.iconst 1, 1) := by decide +kernel
theorem dX11_stay_61 : decode cX11_stay 61 = .ok (.iload_n 3, 1) := by decide +kernel
theorem dX11_stay_62 : decode cX11_stay 62 = .ok (.ishl, 1) := by decide +kernel
theorem dX11_stay_63 : decode cX11_stay 63 = .ok (.ireturn, 1) := by decide +kernel
theorem dX11_stay_64 : decode cX11_stay 64 = .ok (.iinc 3 1, 3) := by decide +kernel
theorem dX11_stay_67 : decode cX11_stay 67 = .ok (.goto (-30), 3) := by decide +kernel
theorem dX11_stay_70 : decode cX11_stay 70 = .ok (.iconst (-1), 1) := by decide +kernel
theorem dX11_stay_71 : decode cX11_stay 71 = .ok (.ireturn, 1) := by decide +kernel
set_option maxRecDepth 100000 in
theorem u_X11_stay_37 {x : sm_Cx} {n : Nat} {F : Int32 → sm_MI → sm_ML → Prop} {T : List sm_Sh} {I : sm_MI} {L : sm_ML} {a1 : Int32} {a2 : Int32} {a3 : Int32} (hB : sm_Bs T) (hx : sm_Ok x mX11_stay (n + 1) (sm_KI T F))
    (h : ((I 24 0) ≤ a3 → F (-1) I L) ∧ (¬ (I 24 0) ≤ a3 → sm_CZ n mX11_staysBehind T I L [.ref 0, .int a1, .int a2, .int (1 <<< (a3 &&& 31))] (fun r2 I1 L1 => (r2 = false → sm_V x 0 0 T I1 L1 37 [some (.ref 0), some (.int a1), some (.int a2), some (.int (a3 + 1))] []) ∧ (r2 = true → F (1 <<< (a3 &&& 31)) I1 L1)))) :
    sm_V x 0 0 T I L 37 [some (.ref 0), some (.int a1), some (.int a2), some (.int a3)] [] :=
  sm_iload_n (z := a3) hx dX11_stay_37 rfl (sm_aload_n (z := 0) hx dX11_stay_38 rfl (sm_getR hx dX11_stay_39 fl_X11_42_11 (t_0 hB) rfl (sm_getI hx dX11_stay_42 fl_X11_217_8 (t_24 hB) rfl (sm_icmpge (a := a3) (b := (I 24 0)) hx dX11_stay_45 (tgt := 70) (by decide) (fun q2 => sm_iconst (v := (-1)) hx dX11_stay_70 sm_kc_m1 (sm_iretI hx dX11_stay_71 rfl (h.1 q2))) (fun q2 => sm_aload_n (z := 0) hx dX11_stay_48 rfl (sm_iload_n (z := a1) hx dX11_stay_49 rfl (sm_iload_n (z := a2) hx dX11_stay_50 rfl (sm_iconst (v := 1) hx dX11_stay_51 sm_kc_1 (sm_iload_n (z := a3) hx dX11_stay_52 rfl (sm_ishl (a := 1) (b := a3) hx dX11_stay_53 (sm_callVZ (args := [.int a1, .int a2, .int (1 <<< (a3 &&& 31))]) (st := []) hx dX11_stay_54 lv_X11_319_11 rfl rfl (t_0 hB) rfl rfl (h.2 q2) (fun r2 I1 L1 hI1 => sm_ifeqZ (b := r2) hx dX11_stay_57 (tgt := 64) (by decide) (fun q1 => sm_iinc (ls' := [some (.ref 0), some (.int a1), some (.int a2), some (.int (a3 + 1))]) (z := a3) (v := (a3 + 1)) hx dX11_stay_64 rfl (sm_kii_1 _) (by decide) rfl (sm_goto hx dX11_stay_67 (tgt := 37) (by decide) ((hI1.1 q1)))) (fun q1 => sm_iconst (v := 1) hx dX11_stay_60 sm_kc_1 (sm_iload_n (z := a3) hx dX11_stay_61 rfl (sm_ishl (a := 1) (b := a3) hx dX11_stay_62 (sm_iretI hx dX11_stay_63 rfl (hI1.2 q1)))))))))))))))))
set_option maxRecDepth 100000 in
theorem c_X11_stay {n : Nat} {F : Int32 → sm_MI → sm_ML → Prop} {T : List sm_Sh} {I : sm_MI} {L : sm_ML} {a1 : Int32} {a2 : Int32} (hB : sm_Bs T)
    (h : ∀ x : sm_Cx, sm_Ok x mX11_stay (n + 1) (sm_KI T F) → sm_CZ n mX8_hasThing T I L [.ref 24, .int a1] (fun r2 I1 L1 => (r2 = false → F (-1) I1 L1) ∧ (r2 = true → sm_CZ n mX11_within T I1 L1 [.int a2, .int 1, .int 60] (fun r4 I3 L3 => (r4 = true → sm_CZ n mX11_staysBehind T I3 L3 [.ref 0, .int a1, .int a2, .int 0] (fun r6 I5 L5 => (r6 = false → sm_V x 0 0 T I5 L5 37 [some (.ref 0), some (.int a1), some (.int a2), some (.int 0)] []) ∧ (r6 = true → F 0 I5 L5))) ∧ (r4 = false → F (-1) I3 L3))))) :
    sm_CI (n + 1) mX11_stay T I L [.ref 0, .int a1, .int a2] F :=
  sm_CI.of (by decide +kernel) rfl (fun x hx => show sm_V x 0 0 T I L 0 [some (.ref 0), some (.int a1), some (.int a2), none] [] from
  sm_aload_n (z := 0) hx dX11_stay_0 rfl (sm_getR hx dX11_stay_1 fl_X11_42_11 (t_0 hB) rfl (sm_iload_n (z := a1) hx dX11_stay_4 rfl (sm_callVZ (args := [.int a1]) (st := []) hx dX11_stay_5 lv_X11_194_8 rfl rfl (t_24 hB) rfl rfl (h x hx) (fun r2 I1 L1 hI1 => sm_ifeqZ (b := r2) hx dX11_stay_8 (tgt := 21) (by decide) (fun q5 => sm_iconst (v := (-1)) hx dX11_stay_21 sm_kc_m1 (sm_iretI hx dX11_stay_22 rfl (hI1.1 q5))) (fun q5 => sm_iload_n (z := a2) hx dX11_stay_11 rfl (sm_iconst (v := 1) hx dX11_stay_12 sm_kc_1 (sm_bipush (v := 60) hx dX11_stay_13 sm_kb_60 (sm_callSZ (args := [.int a2, .int 1, .int 60]) (st := []) hx dX11_stay_15 ls_X11_115 rfl rfl rfl (hI1.2 q5) (fun r4 I3 L3 hI3 => sm_ifneZ (b := r4) hx dX11_stay_18 (tgt := 23) (by decide) (fun q4 => sm_aload_n (z := 0) hx dX11_stay_23 rfl (sm_iload_n (z := a1) hx dX11_stay_24 rfl (sm_iload_n (z := a2) hx dX11_stay_25 rfl (sm_iconst (v := 0) hx dX11_stay_26 sm_kc_0 (sm_callVZ (args := [.int a1, .int a2, .int 0]) (st := []) hx dX11_stay_27 lv_X11_319_11 rfl rfl (t_0 hB) rfl rfl (hI3.1 q4) (fun r6 I5 L5 hI5 => sm_ifeqZ (b := r6) hx dX11_stay_30 (tgt := 35) (by decide) (fun q3 => sm_iconst (v := 0) hx dX11_stay_35 sm_kc_0 (sm_istore_n (ls' := [some (.ref 0), some (.int a1), some (.int a2), some (.int 0)]) hx dX11_stay_36 (by decide) rfl ((hI5.1 q3)))) (fun q3 => sm_iconst (v := 0) hx dX11_stay_33 sm_kc_0 (sm_iretI hx dX11_stay_34 rfl (hI5.2 q3))))))))) (fun q4 => sm_iconst (v := (-1)) hx dX11_stay_21 sm_kc_m1 (sm_iretI hx dX11_stay_22 rfl (hI3.2 q4)))))))))))))
theorem dX11_homing_0 : decode cX11_homing 0 = .ok (.aload_n 0, 1) := by decide +kernel
theorem dX11_homing_1 : decode cX11_homing 1 = .ok (.getfield 42, 3) := by decide +kernel
theorem dX11_homing_4 : decode cX11_homing 4 = .ok (.invokevirtual 210, 3) := by decide +kernel
theorem dX11_homing_7 : decode cX11_homing 7 = .ok (.ifCond .eq 12, 3) := by decide +kernel
theorem dX11_homing_10 : decode cX11_homing 10 = .ok (.iload_n 2, 1) := by decide +kernel
theorem dX11_homing_11 : decode cX11_homing 11 = .ok (.iconst 0, 1) := by decide +kernel
theorem dX11_homing_12 : decode cX11_homing 12 = .ok (.iconst 1, 1) := by decide +kernel
theorem dX11_homing_13 : decode cX11_homing 13 = .ok (.invokestatic 115, 3) := by decide +kernel
theorem dX11_homing_16 : decode cX11_homing 16 = .ok (.ifCond .ne 6, 3) := by decide +kernel
theorem dX11_homing_19 : decode cX11_homing 19 = .ok (.ldc 230, 2) := by decide +kernel
theorem dX11_homing_21 : decode cX11_homing 21 = .ok (.ireturn, 1) := by decide +kernel
theorem dX11_homing_22 : decode cX11_homing 22 = .ok (.aload_n 0, 1) := by decide +kernel
theorem dX11_homing_23 : decode cX11_homing 23 = .ok (.getfield 42, 3) := by decide +kernel
theorem dX11_homing_26 : decode cX11_homing 26 = .ok (.getfield 220, 3) := by decide +kernel
theorem dX11_homing_29 : decode cX11_homing 29 = .ok (.iconst 4, 1) := by decide +kernel
theorem dX11_homing_30 : decode cX11_homing 30 = .ok (.if_icmp .gt 15, 3) := by decide +kernel
theorem dX11_homing_33 : decode cX11_homing 33 = .ok (.aload_n 0, 1) := by decide +kernel
theorem dX11_homing_34 : decode cX11_homing 34 = .ok (.getfield 42, 3) := by decide +kernel
theorem dX11_homing_37 : decode cX11_homing 37 = .ok (.getfield 217, 3) := by decide +kernel
theorem dX11_homing_40 : decode cX11_homing 40 = .ok (.bipush 6, 2) := by decide +kernel
theorem dX11_homing_42 : decode cX11_homing 42 = .ok (.if_icmp .le 6, 3) := by decide +kernel
theorem dX11_homing_45 : decode cX11_homing 45 = .ok (.ldc 230, 2) := by decide +kernel
theorem dX11_homing_47 : decode cX11_homing 47 = .ok (.ireturn, 1) := by decide +kernel
theorem dX11_homing_48 : decode cX11_homing 48 = .ok (.iload_n 1, 1) := by decide +kernel
theorem dX11_homing_49 : decode cX11_homing 49 = .ok (.iconst 1, 1) := by decide +kernel
theorem dX11_homing_50 : decode cX11_homing 50 = .ok (.bipush 60, 2) := by decide +kernel
theorem dX11_homing_52 : decode cX11_homing 52 = .ok (.invokestatic 115, 3) := by decide +kernel
theorem dX11_homing_55 : decode cX11_homing 55 = .ok (.ifCond .ne 5, 3) := by decide +kernel
theorem dX11_homing_58 : decode cX11_homing 58 = .ok (.iconst (-1), 1) := by decide +kernel
theorem dX11_homing_59 : decode cX11_homing 59 = .ok (.ireturn, 1) := by decide +kernel
theorem dX11_homing_60 : decode cX11_homing 60 = .ok (.aload_n 0, 1) := by decide +kernel
theorem dX11_homing_61 : decode cX11_homing 61 = .ok (.iload_n 1, 1) := by decide +kernel
theorem dX11_homing_62 : decode cX11_homing 62 = .ok (.invokevirtual 322, 3) := by decide +kernel
theorem dX11_homing_65 : decode cX11_homing 65 = .ok (.aload_n 0, 1) := by decide +kernel
theorem dX11_homing_66 : decode cX11_homing 66 = .ok (.getfield 42, 3) := by decide +kernel
theorem dX11_homing_69 : decode cX11_homing 69 = .ok (.aload_n 0, 1) := by decide +kernel
theorem dX11_homing_70 : decode cX11_homing 70 = .ok (.getfield 42, 3) := by decide +kernel
theorem dX11_homing_73 : decode cX11_homing 73 = .ok (.getfield 147, 3) := by decide +kernel
theorem dX11_homing_76 : decode cX11_homing 76 = .ok (.invokevirtual 325, 3) := by decide +kernel
theorem dX11_homing_79 : decode cX11_homing 79 = .ok (.istore_n 3, 1) := by decide +kernel
theorem dX11_homing_80 : decode cX11_homing 80 = .ok (.iconst (-1), 1) := by decide +kernel
theorem dX11_homing_81 : decode cX11_homing 81 = .ok (.istore 4, 2) := by decide +kernel
theorem dX11_homing_83 : decode cX11_homing 83 = .ok (.iconst (-1), 1) := by decide +kernel
theorem dX11_homing_84 : decode cX11_homing 84 = .ok (.istore 5, 2) := by decide +kernel
theorem dX11_homing_86 : decode cX11_homing 86 = .ok (.iconst 0, 1) := by decide +kernel
theorem dX11_homing_87 : decode cX11_homing 87 = .ok (.istore 6, 2) := by decide +kernel
theorem dX11_homing_89 : decode cX11_homing 89 = .ok (.iload 6, 2) := by decide +kernel
theorem dX11_homing_91 : decode cX11_homing 91 = .ok (.aload_n 0, 1) := by decide +kernel
theorem dX11_homing_92 : decode cX11_homing 92 = .ok (.getfield 42, 3) := by decide +kernel
theorem dX11_homing_95 : decode cX11_homing 95 = .ok (.invokevirtual 328, 3) := by decide +kernel
theorem dX11_homing_98 : decode cX11_homing 98 = .ok (.if_icmp .ge 82, 3) := by decide +kernel
theorem dX11_homing_101 : decode cX11_homing 101 = .ok (.aload_n 0, 1) := by decide +kernel
theorem dX11_homing_102 : decode cX11_homing 102 = .ok (.getfield 42, 3) := by decide +kernel
theorem dX11_homing_105 : decode cX11_homing 105 = .ok (.iload 6, 2) := by decide +kernel
theorem dX11_homing_107 : decode cX11_homing 107 = .ok (.invokevirtual 331, 3) := by decide +kernel
theorem dX11_homing_110 : decode cX11_homing 110 = .ok (.istore 7, 2) := by decide +kernel
theorem dX11_homing_112 : decode cX11_homing 112 = .ok (.aload_n 0, 1) := by decide +kernel
theorem dX11_homing_113 : decode cX11_homing 113 = .ok (.getfield 42, 3) := by decide +kernel
theorem dX11_homing_116 : decode cX11_homing 116 = .ok (.iload 7, 2) := by decide +kernel
theorem dX11_homing_118 : decode cX11_homing 118 = .ok (.aload_n 0, 1) := by decide +kernel
theorem dX11_homing_119 : decode cX11_homing 119 = .ok (.getfield 49, 3) := by decide +kernel
theorem dX11_homing_122 : decode cX11_homing 122 = .ok (.getfield 150, 3) := by decide +kernel
theorem dX11_homing_125 : decode cX11_homing 125 = .ok (.invokevirtual 293, 3) := by decide +kernel
theorem dX11_homing_128 : decode cX11_homing 128 = .ok (.invokestatic 288, 3) := by decide +kernel
theorem dX11_homing_131 : decode cX11_homing 131 = .ok (.istore 8, 2) := by decide +kernel
theorem dX11_homing_133 : decode cX11_homing 133 = .ok (.aload_n 0, 1) := by decide +kernel
theorem dX11_homing_134 : decode cX11_homing 134 = .ok (.getfield 96, 3) := by decide +kernel
theorem dX11_homing_137 : decode cX11_homing 137 = .ok (.iload 6, 2) := by decide +kernel
theorem dX11_homing_139 : decode cX11_homing 139 = .ok (.invokevirtual 177, 3) := by decide +kernel
theorem dX11_homing_142 : decode cX11_homing 142 = .ok (.iload_n 3, 1) := by decide +kernel
theorem dX11_homing_143 : decode cX11_homing 143 = .ok (.if_icmp .ne 31, 3) := by decide +kernel
theorem dX11_homing_146 : decode cX11_homing 146 = .ok (.iload 4, 2) := by decide +kernel
theorem dX11_homing_148 : decode cX11_homing 148 = .ok (.iconst (-1), 1) := by decide +kernel
theorem dX11_homing_149 : decode cX11_homing 149 = .ok (.if_icmp .eq 10, 3) := by decide +kernel
theorem dX11_homing_152 : decode cX11_homing 152 = .ok (.iload 8, 2) := by decide +kernel
theorem dX11_homing_154 : decode cX11_homing 154 = .ok (.iload 4, 2) := by decide +kernel
theorem dX11_homing_156 : decode cX11_homing 156 = .ok (.if_icmp .ge 18, 3) := by decide +kernel
theorem dX11_homing_159 : decode cX11_homing 159 = .ok (.iload 8, 2) := by decide +kernel
theorem dX11_homing_161 : decode cX11_homing 161 = .ok (.istore 4, 2) := by decide +kernel
theorem dX11_homing_163 : decode cX11_homing 163 = .ok (.aload_n 0, 1) := by decide +kernel
theorem dX11_homing_164 : decode cX11_homing 164 = .ok (.getfield 42, 3) := by decide +kernel
theorem dX11_homing_167 : decode cX11_homing 167 = .ok (.iload 7, 2) := by decide +kernel
theorem dX11_homing_169 : decode cX11_homing 169 = .ok (.invokevirtual 334, 3) := by decide +kernel
theorem dX11_homing_172 : decode cX11_homing 172 = .ok (.istore 5, 2) := by decide +kernel
theorem dX11_homing_174 : decode cX11_homing 174 = .ok (.iinc 6 1, 3) := by decide +kernel
theorem dX11_homing_177 : decode cX11_homing 177 = .ok (.goto (-88), 3) := by decide +kernel
theorem dX11_homing_180 : decode cX11_homing 180 = .ok (.iload_n 2, 1) := by decide +kernel
theorem dX11_homing_181 : decode cX11_homing 181 = .ok (.ifCond .ne 8, 3) := by decide +kernel
theorem dX11_homing_184 : decode cX11_homing 184 = .ok (.iload 4, 2) := by decide +kernel
theorem dX11_homing_186 : decode cX11_homing 186 = .ok (.goto 5, 3) := by decide +kernel
theorem dX11_homing_189 : decode cX11_homing 189 = .ok (.iload 5, 2) := by decide +kernel
theorem dX11_homing_191 : decode cX11_homing 191 = .ok (.ireturn, 1) := by decide +kernel
set_option maxRecDepth 100000 in
theorem u_X11_homing_89 {x : sm_Cx} {n : Nat} {F : Int32 → sm_MI → sm_ML → Prop} {T : List sm_Sh} {I : sm_MI} {L : sm_ML} {a1 : Int32} {a2 : Int32} {a3 : Int32} {a4 : Int32} {a5 : Int32} {a6 : Int32} {u7 : Option Value} {u8 : Option Value} (hB : sm_Bs T) (hx : sm_Ok x mX11_homing (n + 1) (sm_KI T F))
    (h : sm_CI n mX8_starts T I L [.ref 24] (fun r2 I1 L1 => (r2 ≤ a6 → (¬ a2 = 0 → F a5 I1 L1) ∧ (a2 = 0 → F a4 I1 L1)) ∧ (¬ r2 ≤ a6 → sm_CI n mX8_placesOf T I1 L1 [.ref 24, .int a6] (fun r4 I3 L3 => sm_CI n mX8_elsewhere T I3 L3 [.ref 24, .int r4, .int (I3 35 0)] (fun r6 I5 L5 => sm_CI n mJ6_bitCount_0f7a4 T I5 L5 [.int r6] (fun r8 I7 L7 => sm_CI n mX3_at T I7 L7 [.ref 70, .int a6] (fun r10 I9 L9 => (¬ r10 = a3 → sm_V x 0 0 T I9 L9 89 [some (.ref 0), some (.int a1), some (.int a2), some (.int a3), some (.int a4), some (.int a5), some (.int (a6 + 1)), some (.int r4), some (.int r8)] []) ∧ (r10 = a3 → (a4 = (-1) → sm_CI n mX8_digitsOf T I9 L9 [.ref 24, .int r4] (fun r12 I11 L11 => sm_V x 0 0 T I11 L11 89 [some (.ref 0), some (.int a1), some (.int a2), some (.int a3), some (.int r8), some (.int r12), some (.int (a6 + 1)), some (.int r4), some (.int r8)] [])) ∧ (¬ a4 = (-1) → (a4 ≤ r8 → sm_V x 0 0 T I9 L9 89 [some (.ref 0), some (.int a1), some (.int a2), some (.int a3), some (.int a4), some (.int a5), some (.int (a6 + 1)), some (.int r4), some (.int r8)] []) ∧ (¬ a4 ≤ r8 → sm_CI n mX8_digitsOf T I9 L9 [.ref 24, .int r4] (fun r14 I13 L13 => sm_V x 0 0 T I13 L13 89 [some (.ref 0), some (.int a1), some (.int a2), some (.int a3), some (.int r8), some (.int r14), some (.int (a6 + 1)), some (.int r4), some (.int r8)] []))))))))))) :
    sm_V x 0 0 T I L 89 [some (.ref 0), some (.int a1), some (.int a2), some (.int a3), some (.int a4), some (.int a5), some (.int a6), u7, u8] [] :=
  sm_iload (z := a6) hx dX11_homing_89 rfl (sm_aload_n (z := 0) hx dX11_homing_91 rfl (sm_getR hx dX11_homing_92 fl_X11_42_11 (t_0 hB) rfl (sm_callVI (args := []) (st := [.int a6]) hx dX11_homing_95 lv_X11_328_8 rfl rfl (t_24 hB) rfl rfl h (fun r2 I1 L1 hI1 => sm_icmpge (a := a6) (b := r2) hx dX11_homing_98 (tgt := 180) (by decide) (fun q5 => sm_iload_n (z := a2) hx dX11_homing_180 rfl (sm_ifne (a := a2) hx dX11_homing_181 (tgt := 189) (by decide) (fun q1 => sm_iload (z := a5) hx dX11_homing_189 rfl (sm_iretI hx dX11_homing_191 rfl ((hI1.1 q5).1 q1))) (fun q1 => sm_iload (z := a4) hx dX11_homing_184 rfl (sm_goto hx dX11_homing_186 (tgt := 191) (by decide) (sm_iretI hx dX11_homing_191 rfl ((hI1.1 q5).2 q1)))))) (fun q5 => sm_aload_n (z := 0) hx dX11_homing_101 rfl (sm_getR hx dX11_homing_102 fl_X11_42_11 (t_0 hB) rfl (sm_iload (z := a6) hx dX11_homing_105 rfl (sm_callVI (args := [.int a6]) (st := []) hx dX11_homing_107 lv_X11_331_8 rfl rfl (t_24 hB) rfl rfl (hI1.2 q5) (fun r4 I3 L3 hI3 => sm_istore (ls' := [some (.ref 0), some (.int a1), some (.int a2), some (.int a3), some (.int a4), some (.int a5), some (.int a6), some (.int r4), u8]) hx dX11_homing_110 (by decide) rfl (sm_aload_n (z := 0) hx dX11_homing_112 rfl (sm_getR hx dX11_homing_113 fl_X11_42_11 (t_0 hB) rfl (sm_iload (z := r4) hx dX11_homing_116 rfl (sm_aload_n (z := 0) hx dX11_homing_118 rfl (sm_getR hx dX11_homing_119 fl_X11_49_11 (t_0 hB) rfl (sm_getI hx dX11_homing_122 fl_X11_150_7 (t_35 hB) rfl (sm_callVI (args := [.int r4, .int (I3 35 0)]) (st := []) hx dX11_homing_125 lv_X11_293_8 rfl rfl (t_24 hB) rfl rfl hI3 (fun r6 I5 L5 hI5 => sm_callSI (args := [.int r6]) (st := []) hx dX11_homing_128 ls_X11_288 rfl rfl rfl hI5 (fun r8 I7 L7 hI7 => sm_istore (ls' := [some (.ref 0), some (.int a1), some (.int a2), some (.int a3), some (.int a4), some (.int a5), some (.int a6), some (.int r4), some (.int r8)]) hx dX11_homing_131 (by decide) rfl (sm_aload_n (z := 0) hx dX11_homing_133 rfl (sm_getR hx dX11_homing_134 fl_X11_96_11 (t_0 hB) rfl (sm_iload (z := a6) hx dX11_homing_137 rfl (sm_callVI (args := [.int a6]) (st := []) hx dX11_homing_139 lv_X11_177_3 rfl rfl (t_70 hB) rfl rfl hI7 (fun r10 I9 L9 hI9 => sm_iload_n (z := a3) hx dX11_homing_142 rfl (sm_icmpne (a := r10) (b := a3) hx dX11_homing_143 (tgt := 174) (by decide) (fun q4 => sm_iinc (ls' := [some (.ref 0), some (.int a1), some (.int a2), some (.int a3), some (.int a4), some (.int a5), some (.int (a6 + 1)), some (.int r4), some (.int r8)]) (z := a6) (v := (a6 + 1)) hx dX11_homing_174 rfl (sm_kii_1 _) (by decide) rfl (sm_goto hx dX11_homing_177 (tgt := 89) (by decide) ((hI9.1 q4)))) (fun q4 => sm_iload (z := a4) hx dX11_homing_146 rfl (sm_iconst (v := (-1)) hx dX11_homing_148 sm_kc_m1 (sm_icmpeq (a := a4) (b := (-1)) hx dX11_homing_149 (tgt := 159) (by decide) (fun q3 => sm_iload (z := r8) hx dX11_homing_159 rfl (sm_istore (ls' := [some (.ref 0), some (.int a1), some (.int a2), some (.int a3), some (.int r8), some (.int a5), some (.int a6), some (.int r4), some (.int r8)]) hx dX11_homing_161 (by decide) rfl (sm_aload_n (z := 0) hx dX11_homing_163 rfl (sm_getR hx dX11_homing_164 fl_X11_42_11 (t_0 hB) rfl (sm_iload (z := r4) hx dX11_homing_167 rfl (sm_callVI (args := [.int r4]) (st := []) hx dX11_homing_169 lv_X11_334_8 rfl rfl (t_24 hB) rfl rfl ((hI9.2 q4).1 q3) (fun r12 I11 L11 hI11 => sm_istore (ls' := [some (.ref 0), some (.int a1), some (.int a2), some (.int a3), some (.int r8), some (.int r12), some (.int a6), some (.int r4), some (.int r8)]) hx dX11_homing_172 (by decide) rfl (sm_iinc (ls' := [some (.ref 0), some (.int a1), some (.int a2), some (.int a3), some (.int r8), some (.int r12), some (.int (a6 + 1)), some (.int r4), some (.int r8)]) (z := a6) (v := (a6 + 1)) hx dX11_homing_174 rfl (sm_kii_1 _) (by decide) rfl (sm_goto hx dX11_homing_177 (tgt := 89) (by decide) (hI11)))))))))) (fun q3 => sm_iload (z := r8) hx dX11_homing_152 rfl (sm_iload (z := a4) hx dX11_homing_154 rfl (sm_icmpge (a := r8) (b := a4) hx dX11_homing_156 (tgt := 174) (by decide) (fun q2 => sm_iinc (ls' := [some (.ref 0), some (.int a1), some (.int a2), some (.int a3), some (.int a4), some (.int a5), some (.int (a6 + 1)), some (.int r4), some (.int r8)]) (z := a6) (v := (a6 + 1)) hx dX11_homing_174 rfl (sm_kii_1 _) (by decide) rfl (sm_goto hx dX11_homing_177 (tgt := 89) (by decide) ((((hI9.2 q4).2 q3).1 q2)))) (fun q2 => sm_iload (z := r8) hx dX11_homing_159 rfl (sm_istore (ls' := [some (.ref 0), some (.int a1), some (.int a2), some (.int a3), some (.int r8), some (.int a5), some (.int a6), some (.int r4), some (.int r8)]) hx dX11_homing_161 (by decide) rfl (sm_aload_n (z := 0) hx dX11_homing_163 rfl (sm_getR hx dX11_homing_164 fl_X11_42_11 (t_0 hB) rfl (sm_iload (z := r4) hx dX11_homing_167 rfl (sm_callVI (args := [.int r4]) (st := []) hx dX11_homing_169 lv_X11_334_8 rfl rfl (t_24 hB) rfl rfl (((hI9.2 q4).2 q3).2 q2) (fun r14 I13 L13 hI13 => sm_istore (ls' := [some (.ref 0), some (.int a1), some (.int a2), some (.int a3), some (.int r8), some (.int r14), some (.int a6), some (.int r4), some (.int r8)]) hx dX11_homing_172 (by decide) rfl (sm_iinc (ls' := [some (.ref 0), some (.int a1), some (.int a2), some (.int a3), some (.int r8), some (.int r14), some (.int (a6 + 1)), some (.int r4), some (.int r8)]) (z := a6) (v := (a6 + 1)) hx dX11_homing_174 rfl (sm_kii_1 _) (by decide) rfl (sm_goto hx dX11_homing_177 (tgt := 89) (by decide) (hI13))))))))))))))))))))))))))))))))))))))))
set_option maxRecDepth 100000 in
theorem c_X11_homing {n : Nat} {F : Int32 → sm_MI → sm_ML → Prop} {T : List sm_Sh} {I : sm_MI} {L : sm_ML} {a1 : Int32} {a2 : Int32} (hB : sm_Bs T)
    (h : ∀ x : sm_Cx, sm_Ok x mX11_homing (n + 1) (sm_KI T F) → sm_CZ n mX8_isTold T I L [.ref 24] (fun r2 I1 L1 => (r2 = false → F (-1000000) I1 L1) ∧ (r2 = true → sm_CZ n mX11_within T I1 L1 [.int a2, .int 0, .int 1] (fun r4 I3 L3 => (r4 = true → (4 < (I3 24 2) → F (-1000000) I3 L3) ∧ (¬ 4 < (I3 24 2) → ((I3 24 0) ≤ 6 → sm_CZ n mX11_within T I3 L3 [.int a1, .int 1, .int 60] (fun r6 I5 L5 => (r6 = true → sm_CV n mX11_landAllStarts T I5 L5 [.ref 0, .int a1] (fun I7 L7 => sm_CI n mX8_startOf T I7 L7 [.ref 24, .int (I7 24 3)] (fun r9 I8 L8 => sm_V x 0 0 T I8 L8 89 [some (.ref 0), some (.int a1), some (.int a2), some (.int r9), some (.int (-1)), some (.int (-1)), some (.int 0), none, none] []))) ∧ (r6 = false → F (-1) I5 L5))) ∧ (¬ (I3 24 0) ≤ 6 → F (-1000000) I3 L3))) ∧ (r4 = false → F (-1000000) I3 L3))))) :
    sm_CI (n + 1) mX11_homing T I L [.ref 0, .int a1, .int a2] F :=
  sm_CI.of (by decide +kernel) rfl (fun x hx => show sm_V x 0 0 T I L 0 [some (.ref 0), some (.int a1), some (.int a2), none, none, none, none, none, none] [] from
  sm_aload_n (z := 0) hx dX11_homing_0 rfl (sm_getR hx dX11_homing_1 fl_X11_42_11 (t_0 hB) rfl (sm_callVZ (args := []) (st := []) hx dX11_homing_4 lv_X11_210_8 rfl rfl (t_24 hB) rfl rfl (h x hx) (fun r2 I1 L1 hI1 => sm_ifeqZ (b := r2) hx dX11_homing_7 (tgt := 19) (by decide) (fun q10 => sm_ldc (v := (-1000000)) hx dX11_homing_19 k_X11_230 (sm_iretI hx dX11_homing_21 rfl (hI1.1 q10))) (fun q10 => sm_iload_n (z := a2) hx dX11_homing_10 rfl (sm_iconst (v := 0) hx dX11_homing_11 sm_kc_0 (sm_iconst (v := 1) hx dX11_homing_12 sm_kc_1 (sm_callSZ (args := [.int a2, .int 0, .int 1]) (st := []) hx dX11_homing_13 ls_X11_115 rfl rfl rfl (hI1.2 q10) (fun r4 I3 L3 hI3 => sm_ifneZ (b := r4) hx dX11_homing_16 (tgt := 22) (by decide) (fun q9 => sm_aload_n (z := 0) hx dX11_homing_22 rfl (sm_getR hx dX11_homing_23 fl_X11_42_11 (t_0 hB) rfl (sm_getI hx dX11_homing_26 fl_X11_220_8 (t_24 hB) rfl (sm_iconst (v := 4) hx dX11_homing_29 sm_kc_4 (sm_icmpgt (a := (I3 24 2)) (b := 4) hx dX11_homing_30 (tgt := 45) (by decide) (fun q8 => sm_ldc (v := (-1000000)) hx dX11_homing_45 k_X11_230 (sm_iretI hx dX11_homing_47 rfl ((hI3.1 q9).1 q8))) (fun q8 => sm_aload_n (z := 0) hx dX11_homing_33 rfl (sm_getR hx dX11_homing_34 fl_X11_42_11 (t_0 hB) rfl (sm_getI hx dX11_homing_37 fl_X11_217_8 (t_24 hB) rfl (sm_bipush (v := 6) hx dX11_homing_40 sm_kb_6 (sm_icmple (a := (I3 24 0)) (b := 6) hx dX11_homing_42 (tgt := 48) (by decide) (fun q7 => sm_iload_n (z := a1) hx dX11_homing_48 rfl (sm_iconst (v := 1) hx dX11_homing_49 sm_kc_1 (sm_bipush (v := 60) hx dX11_homing_50 sm_kb_60 (sm_callSZ (args := [.int a1, .int 1, .int 60]) (st := []) hx dX11_homing_52 ls_X11_115 rfl rfl rfl (((hI3.1 q9).2 q8).1 q7) (fun r6 I5 L5 hI5 => sm_ifneZ (b := r6) hx dX11_homing_55 (tgt := 60) (by decide) (fun q6 => sm_aload_n (z := 0) hx dX11_homing_60 rfl (sm_iload_n (z := a1) hx dX11_homing_61 rfl (sm_callVV (args := [.int a1]) (st := []) hx dX11_homing_62 lv_X11_322_11 rfl rfl (t_0 hB) rfl rfl (hI5.1 q6) (fun I7 L7 hI7 => sm_aload_n (z := 0) hx dX11_homing_65 rfl (sm_getR hx dX11_homing_66 fl_X11_42_11 (t_0 hB) rfl (sm_aload_n (z := 0) hx dX11_homing_69 rfl (sm_getR hx dX11_homing_70 fl_X11_42_11 (t_0 hB) rfl (sm_getI hx dX11_homing_73 fl_X11_147_8 (t_24 hB) rfl (sm_callVI (args := [.int (I7 24 3)]) (st := []) hx dX11_homing_76 lv_X11_325_8 rfl rfl (t_24 hB) rfl rfl hI7 (fun r9 I8 L8 hI8 => sm_istore_n (ls' := [some (.ref 0), some (.int a1), some (.int a2), some (.int r9), none, none, none, none, none]) hx dX11_homing_79 (by decide) rfl (sm_iconst (v := (-1)) hx dX11_homing_80 sm_kc_m1 (sm_istore (ls' := [some (.ref 0), some (.int a1), some (.int a2), some (.int r9), some (.int (-1)), none, none, none, none]) hx dX11_homing_81 (by decide) rfl (sm_iconst (v := (-1)) hx dX11_homing_83 sm_kc_m1 (sm_istore (ls' := [some (.ref 0), some (.int a1), some (.int a2), some (.int r9), some (.int (-1)), some (.int (-1)), none, none, none]) hx dX11_homing_84 (by decide) rfl (sm_iconst (v := 0) hx dX11_homing_86 sm_kc_0 (sm_istore (ls' := [some (.ref 0), some (.int a1), some (.int a2), some (.int r9), some (.int (-1)), some (.int (-1)), some (.int 0), none, none]) hx dX11_homing_87 (by decide) rfl (hI8))))))))))))))))) (fun q6 => sm_iconst (v := (-1)) hx dX11_homing_58 sm_kc_m1 (sm_iretI hx dX11_homing_59 rfl (hI5.2 q6)))))))) (fun q7 => sm_ldc (v := (-1000000)) hx dX11_homing_45 k_X11_230 (sm_iretI hx dX11_homing_47 rfl (((hI3.1 q9).2 q8).2 q7))))))))))))) (fun q9 => sm_ldc (v := (-1000000)) hx dX11_homing_19 k_X11_230 (sm_iretI hx dX11_homing_21 rfl (hI3.2 q9))))))))))))
theorem dX11_quiet_0 : decode cX11_quiet 0 = .ok (.aload_n 0, 1) := by decide +kernel
theorem dX11_quiet_1 : decode cX11_quiet 1 = .ok (.getfield 42, 3) := by decide +kernel
theorem dX11_quiet_4 : decode cX11_quiet 4 = .ok (.iload_n 1, 1) := by decide +kernel
theorem dX11_quiet_5 : decode cX11_quiet 5 = .ok (.invokevirtual 163, 3) := by decide +kernel
theorem dX11_quiet_8 : decode cX11_quiet 8 = .ok (.ifCond .eq 13, 3) := by decide +kernel
theorem dX11_quiet_11 : decode cX11_quiet 11 = .ok (.iload_n 2, 1) := by decide +kernel
theorem dX11_quiet_12 : decode cX11_quiet 12 = .ok (.iconst 1, 1) := by decide +kernel
theorem dX11_quiet_13 : decode cX11_quiet 13 = .ok (.bipush 60, 2) := by decide +kernel
theorem dX11_quiet_15 : decode cX11_quiet 15 = .ok (.invokestatic 115, 3) := by decide +kernel
theorem dX11_quiet_18 : decode cX11_quiet 18 = .ok (.ifCond .ne 5, 3) := by decide +kernel
theorem dX11_quiet_21 : decode cX11_quiet 21 = .ok (.iconst (-1), 1) := by decide +kernel
theorem dX11_quiet_22 : decode cX11_quiet 22 = .ok (.ireturn, 1) := by decide +kernel
theorem dX11_quiet_23 : decode cX11_quiet 23 = .ok (.aload_n 0, 1) := by decide +kernel
theorem dX11_quiet_24 : decode cX11_quiet 24 = .ok (.iload_n 2, 1) := by decide +kernel
theorem dX11_quiet_25 : decode cX11_quiet 25 = .ok (.invokevirtual 263, 3) := by decide +kernel
theorem dX11_quiet_28 : decode cX11_quiet 28 = .ok (.aload_n 0, 1) := by decide +kernel
theorem dX11_quiet_29 : decode cX11_quiet 29 = .ok (.iload_n 1, 1) := by decide +kernel
theorem dX11_quiet_30 : decode cX11_quiet 30 = .ok (.iload_n 2, 1) := by decide +kernel
theorem dX11_quiet_31 : decode cX11_quiet 31 = .ok (.aload_n 0, 1) := by decide +kernel
theorem dX11_quiet_32 : decode cX11_quiet 32 = .ok (.getfield 79, 3) := by decide +kernel
theorem dX11_quiet_35 : decode cX11_quiet 35 = .ok (.getfield 266, 3) := by decide +kernel
theorem dX11_quiet_38 : decode cX11_quiet 38 = .ok (.invokevirtual 337, 3) := by decide +kernel
theorem dX11_quiet_41 : decode cX11_quiet 41 = .ok (.ireturn, 1) := by decide +kernel
set_option maxRecDepth 100000 in
theorem c_X11_quiet {n : Nat} {F : Int32 → sm_MI → sm_ML → Prop} {T : List sm_Sh} {I : sm_MI} {L : sm_ML} {a1 : Int32} {a2 : Int32} (hB : sm_Bs T)
    (h : sm_CZ n mX8_hasSleeper T I L [.ref 24, .int a1] (fun r2 I1 L1 => (r2 = false → F (-1) I1 L1) ∧ (r2 = true → sm_CZ n mX11_within T I1 L1 [.int a2, .int 1, .int 60] (fun r4 I3 L3 => (r4 = true → sm_CV n mX11_dreamOf T I3 L3 [.ref 0, .int a2] (fun I5 L5 => sm_CI n mX11_changedWithout T I5 L5 [.ref 0, .int a1, .int a2, .int (I5 53 0)] (fun r7 I6 L6 => F r7 I6 L6))) ∧ (r4 = false → F (-1) I3 L3))))) :
    sm_CI (n + 1) mX11_quiet T I L [.ref 0, .int a1, .int a2] F :=
  sm_CI.of (by decide +kernel) rfl (fun x hx => show sm_V x 0 0 T I L 0 [some (.ref 0), some (.int a1), some (.int a2)] [] from
  sm_aload_n (z := 0) hx dX11_quiet_0 rfl (sm_getR hx dX11_quiet_1 fl_X11_42_11 (t_0 hB) rfl (sm_iload_n (z := a1) hx dX11_quiet_4 rfl (sm_callVZ (args := [.int a1]) (st := []) hx dX11_quiet_5 lv_X11_163_8 rfl rfl (t_24 hB) rfl rfl h (fun r2 I1 L1 hI1 => sm_ifeqZ (b := r2) hx dX11_quiet_8 (tgt := 21) (by decide) (fun q2 => sm_iconst (v := (-1)) hx dX11_quiet_21 sm_kc_m1 (sm_iretI hx dX11_quiet_22 rfl (hI1.1 q2))) (fun q2 => sm_iload_n (z := a2) hx dX11_quiet_11 rfl (sm_iconst (v := 1) hx dX11_quiet_12 sm_kc_1 (sm_bipush (v := 60) hx dX11_quiet_13 sm_kb_60 (sm_callSZ (args := [.int a2, .int 1, .int 60]) (st := []) hx dX11_quiet_15 ls_X11_115 rfl rfl rfl (hI1.2 q2) (fun r4 I3 L3 hI3 => sm_ifneZ (b := r4) hx dX11_quiet_18 (tgt := 23) (by decide) (fun q1 => sm_aload_n (z := 0) hx dX11_quiet_23 rfl (sm_iload_n (z := a2) hx dX11_quiet_24 rfl (sm_callVV (args := [.int a2]) (st := []) hx dX11_quiet_25 lv_X11_263_11 rfl rfl (t_0 hB) rfl rfl (hI3.1 q1) (fun I5 L5 hI5 => sm_aload_n (z := 0) hx dX11_quiet_28 rfl (sm_iload_n (z := a1) hx dX11_quiet_29 rfl (sm_iload_n (z := a2) hx dX11_quiet_30 rfl (sm_aload_n (z := 0) hx dX11_quiet_31 rfl (sm_getR hx dX11_quiet_32 fl_X11_79_11 (t_0 hB) rfl (sm_getI hx dX11_quiet_35 fl_X11_266_1 (t_53 hB) rfl (sm_callVI (args := [.int a1, .int a2, .int (I5 53 0)]) (st := []) hx dX11_quiet_38 lv_X11_337_11 rfl rfl (t_0 hB) rfl rfl hI5 (fun r7 I6 L6 hI6 => sm_iretI hx dX11_quiet_41 rfl hI6))))))))))) (fun q1 => sm_iconst (v := (-1)) hx dX11_quiet_21 sm_kc_m1 (sm_iretI hx dX11_quiet_22 rfl (hI3.2 q1)))))))))))))
theorem dX11_culprit_0 : decode cX11_culprit 0 = .ok (.aload_n 0, 1) := by decide +kernel
theorem dX11_culprit_1 : decode cX11_culprit 1 = .ok (.getfield 42, 3) := by decide +kernel
theorem dX11_culprit_4 : decode cX11_culprit 4 = .ok (.invokevirtual 210, 3) := by decide +kernel
theorem dX11_culprit_7 : decode cX11_culprit 7 = .ok (.ifCond .eq 13, 3) := by decide +kernel
theorem dX11_culprit_10 : decode cX11_culprit 10 = .ok (.iload_n 1, 1) := by decide +kernel
theorem dX11_culprit_11 : decode cX11_culprit 11 = .ok (.iconst 1, 1) := by decide +kernel
theorem dX11_culprit_12 : decode cX11_culprit 12 = .ok (.bipush 60, 2) := by decide +kernel
theorem dX11_culprit_14 : decode cX11_culprit 14 = .ok (.invokestatic 115, 3) := by decide +kernel
theorem dX11_culprit_17 : decode cX11_culprit 17 = .ok (.ifCond .ne 5, 3) := by decide +kernel
theorem dX11_culprit_20 : decode cX11_culprit 20 = .ok (.iconst (-1), 1) := by decide +kernel
theorem dX11_culprit_21 : decode cX11_culprit 21 = .ok (.ireturn, 1) := by decide +kernel
theorem dX11_culprit_22 : decode cX11_culprit 22 = .ok (.aload_n 0, 1) := by decide +kernel
theorem dX11_culprit_23 : decode cX11_culprit 23 = .ok (.iload_n 1, 1) := by decide +kernel
theorem dX11_culprit_24 : decode cX11_culprit 24 = .ok (.invokevirtual 263, 3) := by decide +kernel
theorem dX11_culprit_27 : decode cX11_culprit 27 = .ok (.aload_n 0, 1) := by decide +kernel
theorem dX11_culprit_28 : decode cX11_culprit 28 = .ok (.getfield 79, 3) := by decide +kernel
theorem dX11_culprit_31 : decode cX11_culprit 31 = .ok (.getfield 266, 3) := by decide +kernel
theorem dX11_culprit_34 : decode cX11_culprit 34 = .ok (.istore_n 2, 1) := by decide +kernel
theorem dX11_culprit_35 : decode cX11_culprit 35 = .ok (.iconst (-1), 1) := by decide +kernel
theorem dX11_culprit_36 : decode cX11_culprit 36 = .ok (.istore_n 3, 1) := by decide +kernel
theorem dX11_culprit_37 : decode cX11_culprit 37 = .ok (.iconst (-1), 1) := by decide +kernel
theorem dX11_culprit_38 : decode cX11_culprit 38 = .ok (.istore 4, 2) := by decide +kernel
theorem dX11_culprit_40 : decode cX11_culprit 40 = .ok (.iconst 0, 1) := by decide +kernel
theorem dX11_culprit_41 : decode cX11_culprit 41 = .ok (.istore 5, 2) := by decide +kernel
theorem dX11_culprit_43 : decode cX11_culprit 43 = .ok (.iload 5, 2) := by decide +kernel
theorem dX11_culprit_45 : decode cX11_culprit 45 = .ok (.aload_n 0, 1) := by decide +kernel
theorem dX11_culprit_46 : decode cX11_culprit 46 = .ok (.getfield 42, 3) := by decide +kernel
theorem dX11_culprit_49 : decode cX11_culprit 49 = .ok (.getfield 131, 3) := by decide +kernel
theorem dX11_culprit_52 : decode cX11_culprit 52 = .ok (.if_icmp .ge 32, 3) := by decide +kernel
theorem dX11_culprit_55 : decode cX11_culprit 55 = .ok (.aload_n 0, 1) := by decide +kernel
theorem dX11_culprit_56 : decode cX11_culprit 56 = .ok (.iload 5, 2) := by decide +kernel
theorem dX11_culprit_58 : decode cX11_culprit 58 = .ok (.iload_n 1, 1) := by decide +kernel
theorem dX11_culprit_59 : decode cX11_culprit 59 = .ok (.iload_n 2, 1) := by decide +kernel
theorem dX11_culprit_60 : decode cX11_culprit 60 = .ok (.invokevirtual 337, 3) := by decide +kernel
theorem dX11_culprit_63 : decode cX11_culprit 63 = .ok (.istore 6, 2) := by decide +kernel
theorem dX11_culprit_65 : decode cX11_culprit 65 = .ok (.iload 6, 2) := by decide +kernel
theorem dX11_culprit_67 : decode cX11_culprit 67 = .ok (.iload_n 3, 1) := by decide +kernel
theorem dX11_culprit_68 : decode cX11_culprit 68 = .ok (.if_icmp .le 10, 3) := by decide +kernel
theorem dX11_culprit_71 : decode cX11_culprit 71 = .ok (.iload 6, 2) := by decide +kernel
theorem dX11_culprit_73 : decode cX11_culprit 73 = .ok (.istore_n 3, 1) := by decide +kernel
theorem dX11_culprit_74 : decode cX11_culprit 74 = .ok (.iload 5, 2) := by decide +kernel
theorem dX11_culprit_76 : decode cX11_culprit 76 = .ok (.istore 4, 2) := by decide +kernel
theorem dX11_culprit_78 : decode cX11_culprit 78 = .ok (.iinc 5 1, 3) := by decide +kernel
theorem dX11_culprit_81 : decode cX11_culprit 81 = .ok (.goto (-38), 3) := by decide +kernel
theorem dX11_culprit_84 : decode cX11_culprit 84 = .ok (.iload 4, 2) := by decide +kernel
theorem dX11_culprit_86 : decode cX11_culprit 86 = .ok (.ireturn, 1) := by decide +kernel
set_option maxRecDepth 100000 in
theorem u_X11_culprit_43 {x : sm_Cx} {n : Nat} {F : Int32 → sm_MI → sm_ML → Prop} {T : List sm_Sh} {I : sm_MI} {L : sm_ML} {a1 : Int32} {a2 : Int32} {a3 : Int32} {a4 : Int32} {a5 : Int32} {u6 : Option Value} (hB : sm_Bs T) (hx : sm_Ok x mX11_culprit (n + 1) (sm_KI T F))
    (h : ((I 24 1) ≤ a5 → F a4 I L) ∧ (¬ (I 24 1) ≤ a5 → sm_CI n mX11_changedWithout T I L [.ref 0, .int a5, .int a1, .int a2] (fun r2 I1 L1 => (r2 ≤ a3 → sm_V x 0 0 T I1 L1 43 [some (.ref 0), some (.int a1), some (.int a2), some (.int a3), some (.int a4), some (.int (a5 + 1)), some (.int r2)] []) ∧ (¬ r2 ≤ a3 → sm_V x 0 0 T I1 L1 43 [some (.ref 0), some (.int a1), some (.int a2), some (.int r2), some (.int a5), some (.int (a5 + 1)), some (.int r2)] [])))) :
    sm_V x 0 0 T I L 43 [some (.ref 0), some (.int a1), some (.int a2), some (.int a3), some (.int a4), some (.int a5), u6] [] :=
  sm_iload (z := a5) hx dX11_culprit_43 rfl (sm_aload_n (z := 0) hx dX11_culprit_45 rfl (sm_getR hx dX11_culprit_46 fl_X11_42_11 (t_0 hB) rfl (sm_getI hx dX11_culprit_49 fl_X11_131_8 (t_24 hB) rfl (sm_icmpge (a := a5) (b := (I 24 1)) hx dX11_culprit_52 (tgt := 84) (by decide) (fun q2 => sm_iload (z := a4) hx dX11_culprit_84 rfl (sm_iretI hx dX11_culprit_86 rfl (h.1 q2))) (fun q2 => sm_aload_n (z := 0) hx dX11_culprit_55 rfl (sm_iload (z := a5) hx dX11_culprit_56 rfl (sm_iload_n (z := a1) hx dX11_culprit_58 rfl (sm_iload_n (z := a2) hx dX11_culprit_59 rfl (sm_callVI (args := [.int a5, .int a1, .int a2]) (st := []) hx dX11_culprit_60 lv_X11_337_11 rfl rfl (t_0 hB) rfl rfl (h.2 q2) (fun r2 I1 L1 hI1 => sm_istore (ls' := [some (.ref 0), some (.int a1), some (.int a2), some (.int a3), some (.int a4), some (.int a5), some (.int r2)]) hx dX11_culprit_63 (by decide) rfl (sm_iload (z := r2) hx dX11_culprit_65 rfl (sm_iload_n (z := a3) hx dX11_culprit_67 rfl (sm_icmple (a := r2) (b := a3) hx dX11_culprit_68 (tgt := 78) (by decide) (fun q1 => sm_iinc (ls' := [some (.ref 0), some (.int a1), some (.int a2), some (.int a3), some (.int a4), some (.int (a5 + 1)), some (.int r2)]) (z := a5) (v := (a5 + 1)) hx dX11_culprit_78 rfl (sm_kii_1 _) (by decide) rfl (sm_goto hx dX11_culprit_81 (tgt := 43) (by decide) ((hI1.1 q1)))) (fun q1 => sm_iload (z := r2) hx dX11_culprit_71 rfl (sm_istore_n (ls' := [some (.ref 0), some (.int a1), some (.int a2), some (.int r2), some (.int a4), some (.int a5), some (.int r2)]) hx dX11_culprit_73 (by decide) rfl (sm_iload (z := a5) hx dX11_culprit_74 rfl (sm_istore (ls' := [some (.ref 0), some (.int a1), some (.int a2), some (.int r2), some (.int a5), some (.int a5), some (.int r2)]) hx dX11_culprit_76 (by decide) rfl (sm_iinc (ls' := [some (.ref 0), some (.int a1), some (.int a2), some (.int r2), some (.int a5), some (.int (a5 + 1)), some (.int r2)]) (z := a5) (v := (a5 + 1)) hx dX11_culprit_78 rfl (sm_kii_1 _) (by decide) rfl (sm_goto hx dX11_culprit_81 (tgt := 43) (by decide) ((hI1.2 q1)))))))))))))))))))))
set_option maxRecDepth 100000 in
theorem c_X11_culprit {n : Nat} {F : Int32 → sm_MI → sm_ML → Prop} {T : List sm_Sh} {I : sm_MI} {L : sm_ML} {a1 : Int32} (hB : sm_Bs T)
    (h : ∀ x : sm_Cx, sm_Ok x mX11_culprit (n + 1) (sm_KI T F) → sm_CZ n mX8_isTold T I L [.ref 24] (fun r2 I1 L1 => (r2 = false → F (-1) I1 L1) ∧ (r2 = true → sm_CZ n mX11_within T I1 L1 [.int a1, .int 1, .int 60] (fun r4 I3 L3 => (r4 = true → sm_CV n mX11_dreamOf T I3 L3 [.ref 0, .int a1] (fun I5 L5 => sm_V x 0 0 T I5 L5 43 [some (.ref 0), some (.int a1), some (.int (I5 53 0)), some (.int (-1)), some (.int (-1)), some (.int 0), none] [])) ∧ (r4 = false → F (-1) I3 L3))))) :
    sm_CI (n + 1) mX11_culprit T I L [.ref 0, .int a1] F :=
  sm_CI.of (by decide +kernel) rfl (fun x hx => show sm_V x 0 0 T I L 0 [some (.ref 0), some (.int a1), none, none, none, none, none] [] from
  sm_aload_n (z := 0) hx dX11_culprit_0 rfl (sm_getR hx dX11_culprit_1 fl_X11_42_11 (t_0 hB) rfl (sm_callVZ (args := []) (st := []) hx dX11_culprit_4 lv_X11_210_8 rfl rfl (t_24 hB) rfl rfl (h x hx) (fun r2 I1 L1 hI1 => sm_ifeqZ (b := r2) hx dX11_culprit_7 (tgt := 20) (by decide) (fun q4 => sm_iconst (v := (-1)) hx dX11_culprit_20 sm_kc_m1 (sm_iretI hx dX11_culprit_21 rfl (hI1.1 q4))) (fun q4 => sm_iload_n (z := a1) hx dX11_culprit_10 rfl (sm_iconst (v := 1) hx dX11_culprit_11 sm_kc_1 (sm_bipush (v := 60) hx dX11_culprit_12 sm_kb_60 (sm_callSZ (args := [.int a1, .int 1, .int 60]) (st := []) hx dX11_culprit_14 ls_X11_115 rfl rfl rfl (hI1.2 q4) (fun r4 I3 L3 hI3 => sm_ifneZ (b := r4) hx dX11_culprit_17 (tgt := 22) (by decide) (fun q3 => sm_aload_n (z := 0) hx dX11_culprit_22 rfl (sm_iload_n (z := a1) hx dX11_culprit_23 rfl (sm_callVV (args := [.int a1]) (st := []) hx dX11_culprit_24 lv_X11_263_11 rfl rfl (t_0 hB) rfl rfl (hI3.1 q3) (fun I5 L5 hI5 => sm_aload_n (z := 0) hx dX11_culprit_27 rfl (sm_getR hx dX11_culprit_28 fl_X11_79_11 (t_0 hB) rfl (sm_getI hx dX11_culprit_31 fl_X11_266_1 (t_53 hB) rfl (sm_istore_n (ls' := [some (.ref 0), some (.int a1), some (.int (I5 53 0)), none, none, none, none]) hx dX11_culprit_34 (by decide) rfl (sm_iconst (v := (-1)) hx dX11_culprit_35 sm_kc_m1 (sm_istore_n (ls' := [some (.ref 0), some (.int a1), some (.int (I5 53 0)), some (.int (-1)), none, none, none]) hx dX11_culprit_36 (by decide) rfl (sm_iconst (v := (-1)) hx dX11_culprit_37 sm_kc_m1 (sm_istore (ls' := [some (.ref 0), some (.int a1), some (.int (I5 53 0)), some (.int (-1)), some (.int (-1)), none, none]) hx dX11_culprit_38 (by decide) rfl (sm_iconst (v := 0) hx dX11_culprit_40 sm_kc_0 (sm_istore (ls' := [some (.ref 0), some (.int a1), some (.int (I5 53 0)), some (.int (-1)), some (.int (-1)), some (.int 0), none]) hx dX11_culprit_41 (by decide) rfl (hI5)))))))))))))) (fun q3 => sm_iconst (v := (-1)) hx dX11_culprit_20 sm_kc_m1 (sm_iretI hx dX11_culprit_21 rfl (hI3.2 q3))))))))))))
theorem dX11_guest_0 : decode cX11_guest 0 = .ok (.aload_n 0, 1) := by decide +kernel
theorem dX11_guest_1 : decode cX11_guest 1 = .ok (.getfield 42, 3) := by decide +kernel
theorem dX11_guest_4 : decode cX11_guest 4 = .ok (.iload_n 1, 1) := by decide +kernel
theorem dX11_guest_5 : decode cX11_guest 5 = .ok (.invokevirtual 201, 3) := by decide +kernel
theorem dX11_guest_8 : decode cX11_guest 8 = .ok (.ifCond .eq 13, 3) := by decide +kernel
theorem dX11_guest_11 : decode cX11_guest 11 = .ok (.iload_n 2, 1) := by decide +kernel
theorem dX11_guest_12 : decode cX11_guest 12 = .ok (.iconst 0, 1) := by decide +kernel
theorem dX11_guest_13 : decode cX11_guest 13 = .ok (.bipush 7, 2) := by decide +kernel
theorem dX11_guest_15 : decode cX11_guest 15 = .ok (.invokestatic 115, 3) := by decide +kernel
theorem dX11_guest_18 : decode cX11_guest 18 = .ok (.ifCond .ne 5, 3) := by decide +kernel
theorem dX11_guest_21 : decode cX11_guest 21 = .ok (.iconst (-1), 1) := by decide +kernel
theorem dX11_guest_22 : decode cX11_guest 22 = .ok (.ireturn, 1) := by decide +kernel
theorem dX11_guest_23 : decode cX11_guest 23 = .ok (.iload_n 3, 1) := by decide +kernel
theorem dX11_guest_24 : decode cX11_guest 24 = .ok (.iconst 1, 1) := by decide +kernel
theorem dX11_guest_25 : decode cX11_guest 25 = .ok (.bipush 60, 2) := by decide +kernel
theorem dX11_guest_27 : decode cX11_guest 27 = .ok (.invokestatic 115, 3) := by decide +kernel
theorem dX11_guest_30 : decode cX11_guest 30 = .ok (.ifCond .eq 13, 3) := by decide +kernel
theorem dX11_guest_33 : decode cX11_guest 33 = .ok (.iload 4, 2) := by decide +kernel
theorem dX11_guest_35 : decode cX11_guest 35 = .ok (.iconst 0, 1) := by decide +kernel
theorem dX11_guest_36 : decode cX11_guest 36 = .ok (.iconst 1, 1) := by decide +kernel
theorem dX11_guest_37 : decode cX11_guest 37 = .ok (.invokestatic 115, 3) := by decide +kernel
theorem dX11_guest_40 : decode cX11_guest 40 = .ok (.ifCond .ne 5, 3) := by decide +kernel
theorem dX11_guest_43 : decode cX11_guest 43 = .ok (.iconst (-1), 1) := by decide +kernel
theorem dX11_guest_44 : decode cX11_guest 44 = .ok (.ireturn, 1) := by decide +kernel
theorem dX11_guest_45 : decode cX11_guest 45 = .ok (.aload_n 0, 1) := by decide +kernel
theorem dX11_guest_46 : decode cX11_guest 46 = .ok (.iload_n 3, 1) := by decide +kernel
theorem dX11_guest_47 : decode cX11_guest 47 = .ok (.invokevirtual 263, 3) := by decide +kernel
theorem dX11_guest_50 : decode cX11_guest 50 = .ok (.aload_n 0, 1) := by decide +kernel
theorem dX11_guest_51 : decode cX11_guest 51 = .ok (.getfield 79, 3) := by decide +kernel
theorem dX11_guest_54 : decode cX11_guest 54 = .ok (.getfield 266, 3) := by decide +kernel
theorem dX11_guest_57 : decode cX11_guest 57 = .ok (.istore 5, 2) := by decide +kernel
theorem dX11_guest_59 : decode cX11_guest 59 = .ok (.aload_n 0, 1) := by decide +kernel
theorem dX11_guest_60 : decode cX11_guest 60 = .ok (.getfield 79, 3) := by decide +kernel
theorem dX11_guest_63 : decode cX11_guest 63 = .ok (.aload_n 0, 1) := by decide +kernel
theorem dX11_guest_64 : decode cX11_guest 64 = .ok (.getfield 49, 3) := by decide +kernel
theorem dX11_guest_67 : decode cX11_guest 67 = .ok (.invokevirtual 250, 3) := by decide +kernel
theorem dX11_guest_70 : decode cX11_guest 70 = .ok (.aload_n 0, 1) := by decide +kernel
theorem dX11_guest_71 : decode cX11_guest 71 = .ok (.getfield 79, 3) := by decide +kernel
theorem dX11_guest_74 : decode cX11_guest 74 = .ok (.iload_n 1, 1) := by decide +kernel
theorem dX11_guest_75 : decode cX11_guest 75 = .ok (.putfield 340, 3) := by decide +kernel
theorem dX11_guest_78 : decode cX11_guest 78 = .ok (.aload_n 0, 1) := by decide +kernel
theorem dX11_guest_79 : decode cX11_guest 79 = .ok (.getfield 79, 3) := by decide +kernel
theorem dX11_guest_82 : decode cX11_guest 82 = .ok (.iload_n 2, 1) := by decide +kernel
theorem dX11_guest_83 : decode cX11_guest 83 = .ok (.putfield 343, 3) := by decide +kernel
theorem dX11_guest_86 : decode cX11_guest 86 = .ok (.aload_n 0, 1) := by decide +kernel
theorem dX11_guest_87 : decode cX11_guest 87 = .ok (.getfield 79, 3) := by decide +kernel
theorem dX11_guest_90 : decode cX11_guest 90 = .ok (.iload_n 3, 1) := by decide +kernel
theorem dX11_guest_91 : decode cX11_guest 91 = .ok (.invokevirtual 346, 3) := by decide +kernel
theorem dX11_guest_94 : decode cX11_guest 94 = .ok (.iload 4, 2) := by decide +kernel
theorem dX11_guest_96 : decode cX11_guest 96 = .ok (.iconst 1, 1) := by decide +kernel
theorem dX11_guest_97 : decode cX11_guest 97 = .ok (.if_icmp .ne 21, 3) := by decide +kernel
theorem dX11_guest_100 : decode cX11_guest 100 = .ok (.aload_n 0, 1) := by decide +kernel
theorem dX11_guest_101 : decode cX11_guest 101 = .ok (.getfield 79, 3) := by decide +kernel
theorem dX11_guest_104 : decode cX11_guest 104 = .ok (.getfield 267, 3) := by decide +kernel
theorem dX11_guest_107 : decode cX11_guest 107 = .ok (.aload_n 0, 1) := by decide +kernel
theorem dX11_guest_108 : decode cX11_guest 108 = .ok (.getfield 42, 3) := by decide +kernel
theorem dX11_guest_111 : decode cX11_guest 111 = .ok (.getfield 131, 3) := by decide +kernel
theorem dX11_guest_114 : decode cX11_guest 114 = .ok (.invokevirtual 177, 3) := by decide +kernel
theorem dX11_guest_117 : decode cX11_guest 117 = .ok (.ireturn, 1) := by decide +kernel
theorem dX11_guest_118 : decode cX11_guest 118 = .ok (.aload_n 0, 1) := by decide +kernel
theorem dX11_guest_119 : decode cX11_guest 119 = .ok (.getfield 42, 3) := by decide +kernel
theorem dX11_guest_122 : decode cX11_guest 122 = .ok (.aload_n 0, 1) := by decide +kernel
theorem dX11_guest_123 : decode cX11_guest 123 = .ok (.getfield 79, 3) := by decide +kernel
theorem dX11_guest_126 : decode cX11_guest 126 = .ok (.getfield 266, 3) := by decide +kernel
theorem dX11_guest_129 : decode cX11_guest 129 = .ok (.iload 5, 2) := by decide +kernel
theorem dX11_guest_131 : decode cX11_guest 131 = .ok (.invokevirtual 293, 3) := by decide +kernel
theorem dX11_guest_134 : decode cX11_guest 134 = .ok (.invokestatic 288, 3) := by decide +kernel
theorem dX11_guest_137 : decode cX11_guest 137 = .ok (.ireturn, 1) := by decide +kernel
set_option maxRecDepth 100000 in
theorem c_X11_guest {n : Nat} {F : Int32 → sm_MI → sm_ML → Prop} {T : List sm_Sh} {I : sm_MI} {L : sm_ML} {a1 : Int32} {a2 : Int32} {a3 : Int32} {a4 : Int32} (hB : sm_Bs T)
    (h : sm_CZ n mX8_hasHouse T I L [.ref 24, .int a1] (fun r2 I1 L1 => (r2 = false → F (-1) I1 L1) ∧ (r2 = true → sm_CZ n mX11_within T I1 L1 [.int a2, .int 0, .int 7] (fun r4 I3 L3 => (r4 = true → sm_CZ n mX11_within T I3 L3 [.int a3, .int 1, .int 60] (fun r6 I5 L5 => (r6 = false → F (-1) I5 L5) ∧ (r6 = true → sm_CZ n mX11_within T I5 L5 [.int a4, .int 0, .int 1] (fun r8 I7 L7 => (r8 = true → sm_CV n mX11_dreamOf T I7 L7 [.ref 0, .int a3] (fun I9 L9 => sm_CV n mX0_begin T I9 L9 [.ref 53, .ref 35] (fun I10 L10 => sm_CV n mX0_goOn T (sm_uI (sm_uI I10 53 11 a1) 53 12 a2) L10 [.ref 53, .int a3] (fun I11 L11 => (¬ a4 = 1 → sm_CI n mX8_elsewhere T I11 L11 [.ref 24, .int (I11 53 0), .int (I9 53 0)] (fun r13 I12 L12 => sm_CI n mJ6_bitCount_0f7a4 T I12 L12 [.int r13] (fun r15 I14 L14 => F r15 I14 L14))) ∧ (a4 = 1 → sm_CI n mX3_at T I11 L11 [.ref 56, .int (I11 24 1)] (fun r17 I16 L16 => F r17 I16 L16)))))) ∧ (r8 = false → F (-1) I7 L7))))) ∧ (r4 = false → F (-1) I3 L3))))) :
    sm_CI (n + 1) mX11_guest T I L [.ref 0, .int a1, .int a2, .int a3, .int a4] F :=
  sm_CI.of (by decide +kernel) rfl (fun x hx => show sm_V x 0 0 T I L 0 [some (.ref 0), some (.int a1), some (.int a2), some (.int a3), some (.int a4), none] [] from
  sm_aload_n (z := 0) hx dX11_guest_0 rfl (sm_getR hx dX11_guest_1 fl_X11_42_11 (t_0 hB) rfl (sm_iload_n (z := a1) hx dX11_guest_4 rfl (sm_callVZ (args := [.int a1]) (st := []) hx dX11_guest_5 lv_X11_201_8 rfl rfl (t_24 hB) rfl rfl h (fun r2 I1 L1 hI1 => sm_ifeqZ (b := r2) hx dX11_guest_8 (tgt := 21) (by decide) (fun q5 => sm_iconst (v := (-1)) hx dX11_guest_21 sm_kc_m1 (sm_iretI hx dX11_guest_22 rfl (hI1.1 q5))) (fun q5 => sm_iload_n (z := a2) hx dX11_guest_11 rfl (sm_iconst (v := 0) hx dX11_guest_12 sm_kc_0 (sm_bipush (v := 7) hx dX11_guest_13 sm_kb_7 (sm_callSZ (args := [.int a2, .int 0, .int 7]) (st := []) hx dX11_guest_15 ls_X11_115 rfl rfl rfl (hI1.2 q5) (fun r4 I3 L3 hI3 => sm_ifneZ (b := r4) hx dX11_guest_18 (tgt := 23) (by decide) (fun q4 => sm_iload_n (z := a3) hx dX11_guest_23 rfl (sm_iconst (v := 1) hx dX11_guest_24 sm_kc_1 (sm_bipush (v := 60) hx dX11_guest_25 sm_kb_60 (sm_callSZ (args := [.int a3, .int 1, .int 60]) (st := []) hx dX11_guest_27 ls_X11_115 rfl rfl rfl (hI3.1 q4) (fun r6 I5 L5 hI5 => sm_ifeqZ (b := r6) hx dX11_guest_30 (tgt := 43) (by decide) (fun q3 => sm_iconst (v := (-1)) hx dX11_guest_43 sm_kc_m1 (sm_iretI hx dX11_guest_44 rfl (hI5.1 q3))) (fun q3 => sm_iload (z := a4) hx dX11_guest_33 rfl (sm_iconst (v := 0) hx dX11_guest_35 sm_kc_0 (sm_iconst (v := 1) hx dX11_guest_36 sm_kc_1 (sm_callSZ (args := [.int a4, .int 0, .int 1]) (st := []) hx dX11_guest_37 ls_X11_115 rfl rfl rfl (hI5.2 q3) (fun r8 I7 L7 hI7 => sm_ifneZ (b := r8) hx dX11_guest_40 (tgt := 45) (by decide) (fun q2 => sm_aload_n (z := 0) hx dX11_guest_45 rfl (sm_iload_n (z := a3) hx dX11_guest_46 rfl (sm_callVV (args := [.int a3]) (st := []) hx dX11_guest_47 lv_X11_263_11 rfl rfl (t_0 hB) rfl rfl (hI7.1 q2) (fun I9 L9 hI9 => sm_aload_n (z := 0) hx dX11_guest_50 rfl (sm_getR hx dX11_guest_51 fl_X11_79_11 (t_0 hB) rfl (sm_getI hx dX11_guest_54 fl_X11_266_1 (t_53 hB) rfl (sm_istore (ls' := [some (.ref 0), some (.int a1), some (.int a2), some (.int a3), some (.int a4), some (.int (I9 53 0))]) hx dX11_guest_57 (by decide) rfl (sm_aload_n (z := 0) hx dX11_guest_59 rfl (sm_getR hx dX11_guest_60 fl_X11_79_11 (t_0 hB) rfl (sm_aload_n (z := 0) hx dX11_guest_63 rfl (sm_getR hx dX11_guest_64 fl_X11_49_11 (t_0 hB) rfl (sm_callVV (args := [.ref 35]) (st := []) hx dX11_guest_67 lv_X11_250_1 rfl rfl (t_53 hB) rfl rfl hI9 (fun I10 L10 hI10 => sm_aload_n (z := 0) hx dX11_guest_70 rfl (sm_getR hx dX11_guest_71 fl_X11_79_11 (t_0 hB) rfl (sm_iload_n (z := a1) hx dX11_guest_74 rfl (sm_putI hx dX11_guest_75 fl_X11_340_1 (t_53 hB) rfl (sm_aload_n (z := 0) hx dX11_guest_78 rfl (sm_getR hx dX11_guest_79 fl_X11_79_11 (t_0 hB) rfl (sm_iload_n (z := a2) hx dX11_guest_82 rfl (sm_putI hx dX11_guest_83 fl_X11_343_1 (t_53 hB) rfl (sm_aload_n (z := 0) hx dX11_guest_86 rfl (sm_getR hx dX11_guest_87 fl_X11_79_11 (t_0 hB) rfl (sm_iload_n (z := a3) hx dX11_guest_90 rfl (sm_callVV (args := [.int a3]) (st := []) hx dX11_guest_91 lv_X11_346_1 rfl rfl (t_53 hB) rfl rfl hI10 (fun I11 L11 hI11 => sm_iload (z := a4) hx dX11_guest_94 rfl (sm_iconst (v := 1) hx dX11_guest_96 sm_kc_1 (sm_icmpne (a := a4) (b := 1) hx dX11_guest_97 (tgt := 118) (by decide) (fun q1 => sm_aload_n (z := 0) hx dX11_guest_118 rfl (sm_getR hx dX11_guest_119 fl_X11_42_11 (t_0 hB) rfl (sm_aload_n (z := 0) hx dX11_guest_122 rfl (sm_getR hx dX11_guest_123 fl_X11_79_11 (t_0 hB) rfl (sm_getI hx dX11_guest_126 fl_X11_266_1 (t_53 hB) rfl (sm_iload (z := (I9 53 0)) hx dX11_guest_129 rfl (sm_callVI (args := [.int (I11 53 0), .int (I9 53 0)]) (st := []) hx dX11_guest_131 lv_X11_293_8 rfl rfl (t_24 hB) rfl rfl (hI11.1 q1) (fun r13 I12 L12 hI12 => sm_callSI (args := [.int r13]) (st := []) hx dX11_guest_134 ls_X11_288 rfl rfl rfl hI12 (fun r15 I14 L14 hI14 => sm_iretI hx dX11_guest_137 rfl hI14))))))))) (fun q1 => sm_aload_n (z := 0) hx dX11_guest_100 rfl (sm_getR hx dX11_guest_101 fl_X11_79_11 (t_0 hB) rfl (sm_getR hx dX11_guest_104 fl_X11_267_1 (t_53 hB) rfl (sm_aload_n (z := 0) hx dX11_guest_107 rfl (sm_getR hx dX11_guest_108 fl_X11_42_11 (t_0 hB) rfl (sm_getI hx dX11_guest_111 fl_X11_131_8 (t_24 hB) rfl (sm_callVI (args := [.int (I11 24 1)]) (st := []) hx dX11_guest_114 lv_X11_177_3 rfl rfl (t_56 hB) rfl rfl (hI11.2 q1) (fun r17 I16 L16 hI16 => sm_iretI hx dX11_guest_117 rfl hI16))))))))))))))))))))))))))))))))))) (fun q2 => sm_iconst (v := (-1)) hx dX11_guest_43 sm_kc_m1 (sm_iretI hx dX11_guest_44 rfl (hI7.2 q2))))))))))))) (fun q4 => sm_iconst (v := (-1)) hx dX11_guest_21 sm_kc_m1 (sm_iretI hx dX11_guest_22 rfl (hI3.2 q4)))))))))))))
theorem dX11_dreamOf_0 : decode cX11_dreamOf 0 = .ok (.aload_n 0, 1) := by decide +kernel
theorem dX11_dreamOf_1 : decode cX11_dreamOf 1 = .ok (.getfield 79, 3) := by decide +kernel
theorem dX11_dreamOf_4 : decode cX11_dreamOf 4 = .ok (.aload_n 0, 1) := by decide +kernel
theorem dX11_dreamOf_5 : decode cX11_dreamOf 5 = .ok (.getfield 49, 3) := by decide +kernel
theorem dX11_dreamOf_8 : decode cX11_dreamOf 8 = .ok (.invokevirtual 250, 3) := by decide +kernel
theorem dX11_dreamOf_11 : decode cX11_dreamOf 11 = .ok (.aload_n 0, 1) := by decide +kernel
theorem dX11_dreamOf_12 : decode cX11_dreamOf 12 = .ok (.getfield 79, 3) := by decide +kernel
theorem dX11_dreamOf_15 : decode cX11_dreamOf 15 = .ok (.iload_n 1, 1) := by decide +kernel
theorem dX11_dreamOf_16 : decode cX11_dreamOf 16 = .ok (.invokevirtual 346, 3) := by decide +kernel
theorem dX11_dreamOf_19 : decode cX11_dreamOf 19 = .ok (.return_, 1) := by decide +kernel
set_option maxRecDepth 100000 in
theorem c_X11_dreamOf {n : Nat} {F : sm_MI → sm_ML → Prop} {T : List sm_Sh} {I : sm_MI} {L : sm_ML} {a1 : Int32} (hB : sm_Bs T)
    (h : sm_CV n mX0_begin T I L [.ref 53, .ref 35] (fun I1 L1 => sm_CV n mX0_goOn T I1 L1 [.ref 53, .int a1] (fun I2 L2 => F I2 L2))) :
    sm_CV (n + 1) mX11_dreamOf T I L [.ref 0, .int a1] F :=
  sm_CV.of (by decide +kernel) rfl (fun x hx => show sm_V x 0 0 T I L 0 [some (.ref 0), some (.int a1)] [] from
  sm_aload_n (z := 0) hx dX11_dreamOf_0 rfl (sm_getR hx dX11_dreamOf_1 fl_X11_79_11 (t_0 hB) rfl (sm_aload_n (z := 0) hx dX11_dreamOf_4 rfl (sm_getR hx dX11_dreamOf_5 fl_X11_49_11 (t_0 hB) rfl (sm_callVV (args := [.ref 35]) (st := []) hx dX11_dreamOf_8 lv_X11_250_1 rfl rfl (t_53 hB) rfl rfl h (fun I1 L1 hI1 => sm_aload_n (z := 0) hx dX11_dreamOf_11 rfl (sm_getR hx dX11_dreamOf_12 fl_X11_79_11 (t_0 hB) rfl (sm_iload_n (z := a1) hx dX11_dreamOf_15 rfl (sm_callVV (args := [.int a1]) (st := []) hx dX11_dreamOf_16 lv_X11_346_1 rfl rfl (t_53 hB) rfl rfl hI1 (fun I2 L2 hI2 => sm_vretV hx dX11_dreamOf_19 rfl hI2))))))))))
theorem dX11_fittingSteps_0 : decode cX11_fittingSteps 0 = .ok (.iconst 0, 1) := by decide +kernel
theorem dX11_fittingSteps_1 : decode cX11_fittingSteps 1 = .ok (.istore_n 2, 1) := by decide +kernel
theorem dX11_fittingSteps_2 : decode cX11_fittingSteps 2 = .ok (.iconst 0, 1) := by decide +kernel
theorem dX11_fittingSteps_3 : decode cX11_fittingSteps 3 = .ok (.istore_n 3, 1) := by decide +kernel
theorem dX11_fittingSteps_4 : decode cX11_fittingSteps 4 = .ok (.iload_n 3, 1) := by decide +kernel
theorem dX11_fittingSteps_5 : decode cX11_fittingSteps 5 = .ok (.aload_n 0, 1) := by decide +kernel
theorem dX11_fittingSteps_6 : decode cX11_fittingSteps 6 = .ok (.getfield 42, 3) := by decide +kernel
theorem dX11_fittingSteps_9 : decode cX11_fittingSteps 9 = .ok (.getfield 217, 3) := by decide +kernel
theorem dX11_fittingSteps_12 : decode cX11_fittingSteps 12 = .ok (.if_icmp .ge 45, 3) := by decide +kernel
theorem dX11_fittingSteps_15 : decode cX11_fittingSteps 15 = .ok (.aload_n 0, 1) := by decide +kernel
theorem dX11_fittingSteps_16 : decode cX11_fittingSteps 16 = .ok (.getfield 79, 3) := by decide +kernel
theorem dX11_fittingSteps_19 : decode cX11_fittingSteps 19 = .ok (.aload_n 0, 1) := by decide +kernel
theorem dX11_fittingSteps_20 : decode cX11_fittingSteps 20 = .ok (.getfield 49, 3) := by decide +kernel
theorem dX11_fittingSteps_23 : decode cX11_fittingSteps 23 = .ok (.invokevirtual 250, 3) := by decide +kernel
theorem dX11_fittingSteps_26 : decode cX11_fittingSteps 26 = .ok (.aload_n 0, 1) := by decide +kernel
theorem dX11_fittingSteps_27 : decode cX11_fittingSteps 27 = .ok (.getfield 79, 3) := by decide +kernel
theorem dX11_fittingSteps_30 : decode cX11_fittingSteps 30 = .ok (.getfield 302, 3) := by decide +kernel
theorem dX11_fittingSteps_33 : decode cX11_fittingSteps 33 = .ok (.iload_n 1, 1) := by decide +kernel
theorem dX11_fittingSteps_34 : decode cX11_fittingSteps 34 = .ok (.iload_n 3, 1) := by decide +kernel
theorem dX11_fittingSteps_35 : decode cX11_fittingSteps 35 = .ok (.invokevirtual 231, 3) := by decide +kernel
theorem dX11_fittingSteps_38 : decode cX11_fittingSteps 38 = .ok (.aload_n 0, 1) := by decide +kernel
theorem dX11_fittingSteps_39 : decode cX11_fittingSteps 39 = .ok (.invokevirtual 305, 3) := by decide +kernel
theorem dX11_fittingSteps_42 : decode cX11_fittingSteps 42 = .ok (.ifCond .eq 9, 3) := by decide +kernel
theorem dX11_fittingSteps_45 : decode cX11_fittingSteps 45 = .ok (.iload_n 2, 1) := by decide +kernel
theorem dX11_fittingSteps_46 : decode cX11_fittingSteps 46 = .ok (.iconst 1, 1) := by decide +kernel
theorem dX11_fittingSteps_47 : decode cX11_fittingSteps 47 = .ok (.iload_n 3, 1) := by decide +kernel
theorem dX11_fittingSteps_48 : decode cX11_fittingSteps 48 = .ok (.ishl, 1) := by decide +kernel
theorem dX11_fittingSteps_49 : decode cX11_fittingSteps 49 = .ok (.ior, 1) := by decide +kernel
theorem dX11_fittingSteps_50 : decode cX11_fittingSteps 50 = .ok (.istore_n 2, 1) := by decide +kernel
theorem dX11_fittingSteps_51 : decode cX11_fittingSteps 51 = .ok (.iinc 3 1, 3) := by decide +kernel
theorem dX11_fittingSteps_54 : decode cX11_fittingSteps 54 = .ok (.goto (-50), 3) := by decide +kernel
theorem dX11_fittingSteps_57 : decode cX11_fittingSteps 57 = .ok (.iload_n 2, 1) := by decide +kernel
theorem dX11_fittingSteps_58 : decode cX11_fittingSteps 58 = .ok (.ireturn, 1) := by decide +kernel
set_option maxRecDepth 100000 in
theorem u_X11_fittingSteps_4 {x : sm_Cx} {n : Nat} {F : Int32 → sm_MI → sm_ML → Prop} {T : List sm_Sh} {I : sm_MI} {L : sm_ML} {a1 : Int32} {a2 : Int32} {a3 : Int32} (hB : sm_Bs T) (hx : sm_Ok x mX11_fittingSteps (n + 1) (sm_KI T F))
    (h : ((I 24 0) ≤ a3 → F a2 I L) ∧ (¬ (I 24 0) ≤ a3 → sm_CV n mX0_begin T I L [.ref 53, .ref 35] (fun I1 L1 => sm_CV n mX3_set T I1 L1 [.ref 54, .int a1, .int a3] (fun I2 L2 => sm_CZ n mX11_dreamIsAsSeen T I2 L2 [.ref 0] (fun r4 I3 L3 => (r4 = false → sm_V x 0 0 T I3 L3 4 [some (.ref 0), some (.int a1), some (.int a2), some (.int (a3 + 1))] []) ∧ (r4 = true → sm_V x 0 0 T I3 L3 4 [some (.ref 0), some (.int a1), some (.int (a2 ||| (1 <<< (a3 &&& 31)))), some (.int (a3 + 1))] [])))))) :
    sm_V x 0 0 T I L 4 [some (.ref 0), some (.int a1), some (.int a2), some (.int a3)] [] :=
  sm_iload_n (z := a3) hx dX11_fittingSteps_4 rfl (sm_aload_n (z := 0) hx dX11_fittingSteps_5 rfl (sm_getR hx dX11_fittingSteps_6 fl_X11_42_11 (t_0 hB) rfl (sm_getI hx dX11_fittingSteps_9 fl_X11_217_8 (t_24 hB) rfl (sm_icmpge (a := a3) (b := (I 24 0)) hx dX11_fittingSteps_12 (tgt := 57) (by decide) (fun q2 => sm_iload_n (z := a2) hx dX11_fittingSteps_57 rfl (sm_iretI hx dX11_fittingSteps_58 rfl (h.1 q2))) (fun q2 => sm_aload_n (z := 0) hx dX11_fittingSteps_15 rfl (sm_getR hx dX11_fittingSteps_16 fl_X11_79_11 (t_0 hB) rfl (sm_aload_n (z := 0) hx dX11_fittingSteps_19 rfl (sm_getR hx dX11_fittingSteps_20 fl_X11_49_11 (t_0 hB) rfl (sm_callVV (args := [.ref 35]) (st := []) hx dX11_fittingSteps_23 lv_X11_250_1 rfl rfl (t_53 hB) rfl rfl (h.2 q2) (fun I1 L1 hI1 => sm_aload_n (z := 0) hx dX11_fittingSteps_26 rfl (sm_getR hx dX11_fittingSteps_27 fl_X11_79_11 (t_0 hB) rfl (sm_getR hx dX11_fittingSteps_30 fl_X11_302_1 (t_53 hB) rfl (sm_iload_n (z := a1) hx dX11_fittingSteps_33 rfl (sm_iload_n (z := a3) hx dX11_fittingSteps_34 rfl (sm_callVV (args := [.int a1, .int a3]) (st := []) hx dX11_fittingSteps_35 lv_X11_231_3 rfl rfl (t_54 hB) rfl rfl hI1 (fun I2 L2 hI2 => sm_aload_n (z := 0) hx dX11_fittingSteps_38 rfl (sm_callVZ (args := []) (st := []) hx dX11_fittingSteps_39 lv_X11_305_11 rfl rfl (t_0 hB) rfl rfl hI2 (fun r4 I3 L3 hI3 => sm_ifeqZ (b := r4) hx dX11_fittingSteps_42 (tgt := 51) (by decide) (fun q1 => sm_iinc (ls' := [some (.ref 0), some (.int a1), some (.int a2), some (.int (a3 + 1))]) (z := a3) (v := (a3 + 1)) hx dX11_fittingSteps_51 rfl (sm_kii_1 _) (by decide) rfl (sm_goto hx dX11_fittingSteps_54 (tgt := 4) (by decide) ((hI3.1 q1)))) (fun q1 => sm_iload_n (z := a2) hx dX11_fittingSteps_45 rfl (sm_iconst (v := 1) hx dX11_fittingSteps_46 sm_kc_1 (sm_iload_n (z := a3) hx dX11_fittingSteps_47 rfl (sm_ishl (a := 1) (b := a3) hx dX11_fittingSteps_48 (sm_ior (a := a2) (b := (1 <<< (a3 &&& 31))) hx dX11_fittingSteps_49 (sm_istore_n (ls' := [some (.ref 0), some (.int a1), some (.int (a2 ||| (1 <<< (a3 &&& 31)))), some (.int a3)]) hx dX11_fittingSteps_50 (by decide) rfl (sm_iinc (ls' := [some (.ref 0), some (.int a1), some (.int (a2 ||| (1 <<< (a3 &&& 31)))), some (.int (a3 + 1))]) (z := a3) (v := (a3 + 1)) hx dX11_fittingSteps_51 rfl (sm_kii_1 _) (by decide) rfl (sm_goto hx dX11_fittingSteps_54 (tgt := 4) (by decide) ((hI3.2 q1))))))))))))))))))))))))))))
set_option maxRecDepth 100000 in
theorem c_X11_fittingSteps {n : Nat} {F : Int32 → sm_MI → sm_ML → Prop} {T : List sm_Sh} {I : sm_MI} {L : sm_ML} {a1 : Int32} (hB : sm_Bs T)
    (h : ∀ x : sm_Cx, sm_Ok x mX11_fittingSteps (n + 1) (sm_KI T F) → sm_V x 0 0 T I L 4 [some (.ref 0), some (.int a1), some (.int 0), some (.int 0)] []) :
    sm_CI (n + 1) mX11_fittingSteps T I L [.ref 0, .int a1] F :=
  sm_CI.of (by decide +kernel) rfl (fun x hx => show sm_V x 0 0 T I L 0 [some (.ref 0), some (.int a1), none, none] [] from
  sm_iconst (v := 0) hx dX11_fittingSteps_0 sm_kc_0 (sm_istore_n (ls' := [some (.ref 0), some (.int a1), some (.int 0), none]) hx dX11_fittingSteps_1 (by decide) rfl (sm_iconst (v := 0) hx dX11_fittingSteps_2 sm_kc_0 (sm_istore_n (ls' := [some (.ref 0), some (.int a1), some (.int 0), some (.int 0)]) hx dX11_fittingSteps_3 (by decide) rfl ((h x hx))))))
theorem dX11_dreamIsAsSeen_0 : decode cX11_dreamIsAsSeen 0 = .ok (.iconst 1, 1) := by decide +kernel
theorem dX11_dreamIsAsSeen_1 : decode cX11_dreamIsAsSeen 1 = .ok (.istore_n 1, 1) := by decide +kernel
theorem dX11_dreamIsAsSeen_2 : decode cX11_dreamIsAsSeen 2 = .ok (.iload_n 1, 1) := by decide +kernel
theorem dX11_dreamIsAsSeen_3 : decode cX11_dreamIsAsSeen 3 = .ok (.aload_n 0, 1) := by decide +kernel
theorem dX11_dreamIsAsSeen_4 : decode cX11_dreamIsAsSeen 4 = .ok (.getfield 70, 3) := by decide +kernel
theorem dX11_dreamIsAsSeen_7 : decode cX11_dreamIsAsSeen 7 = .ok (.getfield 349, 3) := by decide +kernel
theorem dX11_dreamIsAsSeen_10 : decode cX11_dreamIsAsSeen 10 = .ok (.if_icmp .gt 36, 3) := by decide +kernel
theorem dX11_dreamIsAsSeen_13 : decode cX11_dreamIsAsSeen 13 = .ok (.aload_n 0, 1) := by decide +kernel
theorem dX11_dreamIsAsSeen_14 : decode cX11_dreamIsAsSeen 14 = .ok (.getfield 79, 3) := by decide +kernel
theorem dX11_dreamIsAsSeen_17 : decode cX11_dreamIsAsSeen 17 = .ok (.invokevirtual 254, 3) := by decide +kernel
theorem dX11_dreamIsAsSeen_20 : decode cX11_dreamIsAsSeen 20 = .ok (.aload_n 0, 1) := by decide +kernel
theorem dX11_dreamIsAsSeen_21 : decode cX11_dreamIsAsSeen 21 = .ok (.getfield 70, 3) := by decide +kernel
theorem dX11_dreamIsAsSeen_24 : decode cX11_dreamIsAsSeen 24 = .ok (.iload_n 1, 1) := by decide +kernel
theorem dX11_dreamIsAsSeen_25 : decode cX11_dreamIsAsSeen 25 = .ok (.aload_n 0, 1) := by decide +kernel
theorem dX11_dreamIsAsSeen_26 : decode cX11_dreamIsAsSeen 26 = .ok (.getfield 79, 3) := by decide +kernel
theorem dX11_dreamIsAsSeen_29 : decode cX11_dreamIsAsSeen 29 = .ok (.getfield 266, 3) := by decide +kernel
theorem dX11_dreamIsAsSeen_32 : decode cX11_dreamIsAsSeen 32 = .ok (.invokevirtual 352, 3) := by decide +kernel
theorem dX11_dreamIsAsSeen_35 : decode cX11_dreamIsAsSeen 35 = .ok (.ifCond .ne 5, 3) := by decide +kernel
theorem dX11_dreamIsAsSeen_38 : decode cX11_dreamIsAsSeen 38 = .ok (.iconst 0, 1) := by decide +kernel
theorem dX11_dreamIsAsSeen_39 : decode cX11_dreamIsAsSeen 39 = .ok (.ireturn, 1) := by decide +kernel
theorem dX11_dreamIsAsSeen_40 : decode cX11_dreamIsAsSeen 40 = .ok (.iinc 1 1, 3) := by decide +kernel
theorem dX11_dreamIsAsSeen_43 : decode cX11_dreamIsAsSeen 43 = .ok (.goto (-41), 3) := by decide +kernel
theorem dX11_dreamIsAsSeen_46 : decode cX11_dreamIsAsSeen 46 = .ok (.iconst 1, 1) := by decide +kernel
theorem dX11_dreamIsAsSeen_47 : decode cX11_dreamIsAsSeen 47 = .ok (.ireturn, 1) := by decide +kernel
set_option maxRecDepth 100000 in
theorem u_X11_dreamIsAsSeen_2 {x : sm_Cx} {n : Nat} {F : Bool → sm_MI → sm_ML → Prop} {T : List sm_Sh} {I : sm_MI} {L : sm_ML} {a1 : Int32} (hB : sm_Bs T) (hx : sm_Ok x mX11_dreamIsAsSeen (n + 1) (sm_KZ T F))
    (h : ((I 44 5) < a1 → F true I L) ∧ (¬ (I 44 5) < a1 → sm_CV n mX0_goOneNight T I L [.ref 53] (fun I1 L1 => sm_CZ n mX6_allows T I1 L1 [.ref 44, .int a1, .int (I1 53 0)] (fun r3 I2 L2 => (r3 = true → sm_V x 0 0 T I2 L2 2 [some (.ref 0), some (.int (a1 + 1))] []) ∧ (r3 = false → F false I2 L2))))) :
    sm_V x 0 0 T I L 2 [some (.ref 0), some (.int a1)] [] :=
  sm_iload_n (z := a1) hx dX11_dreamIsAsSeen_2 rfl (sm_aload_n (z := 0) hx dX11_dreamIsAsSeen_3 rfl (sm_getR hx dX11_dreamIsAsSeen_4 fl_X11_70_11 (t_0 hB) rfl (sm_getI hx dX11_dreamIsAsSeen_7 fl_X11_349_6 (t_44 hB) rfl (sm_icmpgt (a := a1) (b := (I 44 5)) hx dX11_dreamIsAsSeen_10 (tgt := 46) (by decide) (fun q2 => sm_iconst (v := 1) hx dX11_dreamIsAsSeen_46 sm_kc_1 (sm_iretZ (z := true) hx dX11_dreamIsAsSeen_47 rfl (h.1 q2))) (fun q2 => sm_aload_n (z := 0) hx dX11_dreamIsAsSeen_13 rfl (sm_getR hx dX11_dreamIsAsSeen_14 fl_X11_79_11 (t_0 hB) rfl (sm_callVV (args := []) (st := []) hx dX11_dreamIsAsSeen_17 lv_X11_254_1 rfl rfl (t_53 hB) rfl rfl (h.2 q2) (fun I1 L1 hI1 => sm_aload_n (z := 0) hx dX11_dreamIsAsSeen_20 rfl (sm_getR hx dX11_dreamIsAsSeen_21 fl_X11_70_11 (t_0 hB) rfl (sm_iload_n (z := a1) hx dX11_dreamIsAsSeen_24 rfl (sm_aload_n (z := 0) hx dX11_dreamIsAsSeen_25 rfl (sm_getR hx dX11_dreamIsAsSeen_26 fl_X11_79_11 (t_0 hB) rfl (sm_getI hx dX11_dreamIsAsSeen_29 fl_X11_266_1 (t_53 hB) rfl (sm_callVZ (args := [.int a1, .int (I1 53 0)]) (st := []) hx dX11_dreamIsAsSeen_32 lv_X11_352_6 rfl rfl (t_44 hB) rfl rfl hI1 (fun r3 I2 L2 hI2 => sm_ifneZ (b := r3) hx dX11_dreamIsAsSeen_35 (tgt := 40) (by decide) (fun q1 => sm_iinc (ls' := [some (.ref 0), some (.int (a1 + 1))]) (z := a1) (v := (a1 + 1)) hx dX11_dreamIsAsSeen_40 rfl (sm_kii_1 _) (by decide) rfl (sm_goto hx dX11_dreamIsAsSeen_43 (tgt := 2) (by decide) ((hI2.1 q1)))) (fun q1 => sm_iconst (v := 0) hx dX11_dreamIsAsSeen_38 sm_kc_0 (sm_iretZ (z := false) hx dX11_dreamIsAsSeen_39 rfl (hI2.2 q1))))))))))))))))))
set_option maxRecDepth 100000 in
theorem c_X11_dreamIsAsSeen {n : Nat} {F : Bool → sm_MI → sm_ML → Prop} {T : List sm_Sh} {I : sm_MI} {L : sm_ML}  (hB : sm_Bs T)
    (h : ∀ x : sm_Cx, sm_Ok x mX11_dreamIsAsSeen (n + 1) (sm_KZ T F) → sm_V x 0 0 T I L 2 [some (.ref 0), some (.int 1)] []) :
    sm_CZ (n + 1) mX11_dreamIsAsSeen T I L [.ref 0] F :=
  sm_CZ.of (by decide +kernel) rfl (fun x hx => show sm_V x 0 0 T I L 0 [some (.ref 0), none] [] from
  sm_iconst (v := 1) hx dX11_dreamIsAsSeen_0 sm_kc_1 (sm_istore_n (ls' := [some (.ref 0), some (.int 1)]) hx dX11_dreamIsAsSeen_1 (by decide) rfl ((h x hx))))
theorem dX11_kindsOfPlaces_0 : decode cX11_kindsOfPlaces 0 = .ok (.iconst 0, 1) := by decide +kernel
theorem dX11_kindsOfPlaces_1 : decode cX11_kindsOfPlaces 1 = .ok (.istore 5, 2) := by decide +kernel
theorem dX11_kindsOfPlaces_3 : decode cX11_kindsOfPlaces 3 = .ok (.iconst 0, 1) := by decide +kernel
theorem dX11_kindsOfPlaces_4 : decode cX11_kindsOfPlaces 4 = .ok (.istore 6, 2) := by decide +kernel
theorem dX11_kindsOfPlaces_6 : decode cX11_kindsOfPlaces 6 = .ok (.iload 6, 2) := by decide +kernel
theorem dX11_kindsOfPlaces_8 : decode cX11_kindsOfPlaces 8 = .ok (.aload_n 0, 1) := by decide +kernel
theorem dX11_kindsOfPlaces_9 : decode cX11_kindsOfPlaces 9 = .ok (.getfield 42, 3) := by decide +kernel
theorem dX11_kindsOfPlaces_12 : decode cX11_kindsOfPlaces 12 = .ok (.getfield 217, 3) := by decide +kernel
theorem dX11_kindsOfPlaces_15 : decode cX11_kindsOfPlaces 15 = .ok (.if_icmp .ge 79, 3) := by decide +kernel
theorem dX11_kindsOfPlaces_18 : decode cX11_kindsOfPlaces 18 = .ok (.aload_n 0, 1) := by decide +kernel
theorem dX11_kindsOfPlaces_19 : decode cX11_kindsOfPlaces 19 = .ok (.getfield 79, 3) := by decide +kernel
theorem dX11_kindsOfPlaces_22 : decode cX11_kindsOfPlaces 22 = .ok (.aload_n 0, 1) := by decide +kernel
theorem dX11_kindsOfPlaces_23 : decode cX11_kindsOfPlaces 23 = .ok (.getfield 49, 3) := by decide +kernel
theorem dX11_kindsOfPlaces_26 : decode cX11_kindsOfPlaces 26 = .ok (.invokevirtual 250, 3) := by decide +kernel
theorem dX11_kindsOfPlaces_29 : decode cX11_kindsOfPlaces 29 = .ok (.aload_n 0, 1) := by decide +kernel
theorem dX11_kindsOfPlaces_30 : decode cX11_kindsOfPlaces 30 = .ok (.getfield 79, 3) := by decide +kernel
theorem dX11_kindsOfPlaces_33 : decode cX11_kindsOfPlaces 33 = .ok (.aload_n 0, 1) := by decide +kernel
theorem dX11_kindsOfPlaces_34 : decode cX11_kindsOfPlaces 34 = .ok (.getfield 79, 3) := by decide +kernel
theorem dX11_kindsOfPlaces_37 : decode cX11_kindsOfPlaces 37 = .ok (.getfield 266, 3) := by decide +kernel
theorem dX11_kindsOfPlaces_40 : decode cX11_kindsOfPlaces 40 = .ok (.iload_n 3, 1) := by decide +kernel
theorem dX11_kindsOfPlaces_41 : decode cX11_kindsOfPlaces 41 = .ok (.iload 4, 2) := by decide +kernel
theorem dX11_kindsOfPlaces_43 : decode cX11_kindsOfPlaces 43 = .ok (.invokestatic 242, 3) := by decide +kernel
theorem dX11_kindsOfPlaces_46 : decode cX11_kindsOfPlaces 46 = .ok (.putfield 266, 3) := by decide +kernel
theorem dX11_kindsOfPlaces_49 : decode cX11_kindsOfPlaces 49 = .ok (.aload_n 0, 1) := by decide +kernel
theorem dX11_kindsOfPlaces_50 : decode cX11_kindsOfPlaces 50 = .ok (.getfield 79, 3) := by decide +kernel
theorem dX11_kindsOfPlaces_53 : decode cX11_kindsOfPlaces 53 = .ok (.getfield 302, 3) := by decide +kernel
theorem dX11_kindsOfPlaces_56 : decode cX11_kindsOfPlaces 56 = .ok (.iload_n 1, 1) := by decide +kernel
theorem dX11_kindsOfPlaces_57 : decode cX11_kindsOfPlaces 57 = .ok (.iload 6, 2) := by decide +kernel
theorem dX11_kindsOfPlaces_59 : decode cX11_kindsOfPlaces 59 = .ok (.invokevirtual 231, 3) := by decide +kernel
theorem dX11_kindsOfPlaces_62 : decode cX11_kindsOfPlaces 62 = .ok (.aload_n 0, 1) := by decide +kernel
theorem dX11_kindsOfPlaces_63 : decode cX11_kindsOfPlaces 63 = .ok (.getfield 79, 3) := by decide +kernel
theorem dX11_kindsOfPlaces_66 : decode cX11_kindsOfPlaces 66 = .ok (.iload_n 2, 1) := by decide +kernel
theorem dX11_kindsOfPlaces_67 : decode cX11_kindsOfPlaces 67 = .ok (.invokevirtual 346, 3) := by decide +kernel
theorem dX11_kindsOfPlaces_70 : decode cX11_kindsOfPlaces 70 = .ok (.iload 5, 2) := by decide +kernel
theorem dX11_kindsOfPlaces_72 : decode cX11_kindsOfPlaces 72 = .ok (.iconst 1, 1) := by decide +kernel
theorem dX11_kindsOfPlaces_73 : decode cX11_kindsOfPlaces 73 = .ok (.aload_n 0, 1) := by decide +kernel
theorem dX11_kindsOfPlaces_74 : decode cX11_kindsOfPlaces 74 = .ok (.getfield 79, 3) := by decide +kernel
theorem dX11_kindsOfPlaces_77 : decode cX11_kindsOfPlaces 77 = .ok (.getfield 266, 3) := by decide +kernel
theorem dX11_kindsOfPlaces_80 : decode cX11_kindsOfPlaces 80 = .ok (.iload_n 3, 1) := by decide +kernel
theorem dX11_kindsOfPlaces_81 : decode cX11_kindsOfPlaces 81 = .ok (.invokestatic 197, 3) := by decide +kernel
theorem dX11_kindsOfPlaces_84 : decode cX11_kindsOfPlaces 84 = .ok (.ishl, 1) := by decide +kernel
theorem dX11_kindsOfPlaces_85 : decode cX11_kindsOfPlaces 85 = .ok (.ior, 1) := by decide +kernel
theorem dX11_kindsOfPlaces_86 : decode cX11_kindsOfPlaces 86 = .ok (.istore 5, 2) := by decide +kernel
theorem dX11_kindsOfPlaces_88 : decode cX11_kindsOfPlaces 88 = .ok (.iinc 6 1, 3) := by decide +kernel
theorem dX11_kindsOfPlaces_91 : decode cX11_kindsOfPlaces 91 = .ok (.goto (-85), 3) := by decide +kernel
theorem dX11_kindsOfPlaces_94 : decode cX11_kindsOfPlaces 94 = .ok (.iload 5, 2) := by decide +kernel
theorem dX11_kindsOfPlaces_96 : decode cX11_kindsOfPlaces 96 = .ok (.invokestatic 288, 3) := by decide +kernel
theorem dX11_kindsOfPlaces_99 : decode cX11_kindsOfPlaces 99 = .ok (.ireturn, 1) := by decide +kernel
set_option maxRecDepth 100000 in
theorem u_X11_kindsOfPlaces_6 {x : sm_Cx} {n : Nat} {F : Int32 → sm_MI → sm_ML → Prop} {T : List sm_Sh} {I : sm_MI} {L : sm_ML} {a1 : Int32} {a2 : Int32} {a3 : Int32} {a4 : Int32} {a5 : Int32} {a6 : Int32} (hB : sm_Bs T) (hx : sm_Ok x mX11_kindsOfPlaces (n + 1) (sm_KI T F))
    (h : ((I 24 0) ≤ a6 → sm_CI n mJ6_bitCount_0f7a4 T I L [.int a5] (fun r2 I1 L1 => F r2 I1 L1)) ∧ (¬ (I 24 0) ≤ a6 → sm_CV n mX0_begin T I L [.ref 53, .ref 35] (fun I3 L3 => sm_CI n mX11_placed T I3 L3 [.int (I3 53 0), .int a3, .int a4] (fun r5 I4 L4 => sm_CV n mX3_set T (sm_uI I4 53 0 r5) L4 [.ref 54, .int a1, .int a6] (fun I6 L6 => sm_CV n mX0_goOn T I6 L6 [.ref 53, .int a2] (fun I7 L7 => sm_CI n mX11_placeIn T I7 L7 [.int (I7 53 0), .int a3] (fun r9 I8 L8 => sm_V x 0 0 T I8 L8 6 [some (.ref 0), some (.int a1), some (.int a2), some (.int a3), some (.int a4), some (.int (a5 ||| (1 <<< (r9 &&& 31)))), some (.int (a6 + 1))] []))))))) :
    sm_V x 0 0 T I L 6 [some (.ref 0), some (.int a1), some (.int a2), some (.int a3), some (.int a4), some (.int a5), some (.int a6)] [] :=
  sm_iload (z := a6) hx dX11_kindsOfPlaces_6 rfl (sm_aload_n (z := 0) hx dX11_kindsOfPlaces_8 rfl (sm_getR hx dX11_kindsOfPlaces_9 fl_X11_42_11 (t_0 hB) rfl (sm_getI hx dX11_kindsOfPlaces_12 fl_X11_217_8 (t_24 hB) rfl (sm_icmpge (a := a6) (b := (I 24 0)) hx dX11_kindsOfPlaces_15 (tgt := 94) (by decide) (fun q1 => sm_iload (z := a5) hx dX11_kindsOfPlaces_94 rfl (sm_callSI (args := [.int a5]) (st := []) hx dX11_kindsOfPlaces_96 ls_X11_288 rfl rfl rfl (h.1 q1) (fun r2 I1 L1 hI1 => sm_iretI hx dX11_kindsOfPlaces_99 rfl hI1))) (fun q1 => sm_aload_n (z := 0) hx dX11_kindsOfPlaces_18 rfl (sm_getR hx dX11_kindsOfPlaces_19 fl_X11_79_11 (t_0 hB) rfl (sm_aload_n (z := 0) hx dX11_kindsOfPlaces_22 rfl (sm_getR hx dX11_kindsOfPlaces_23 fl_X11_49_11 (t_0 hB) rfl (sm_callVV (args := [.ref 35]) (st := []) hx dX11_kindsOfPlaces_26 lv_X11_250_1 rfl rfl (t_53 hB) rfl rfl (h.2 q1) (fun I3 L3 hI3 => sm_aload_n (z := 0) hx dX11_kindsOfPlaces_29 rfl (sm_getR hx dX11_kindsOfPlaces_30 fl_X11_79_11 (t_0 hB) rfl (sm_aload_n (z := 0) hx dX11_kindsOfPlaces_33 rfl (sm_getR hx dX11_kindsOfPlaces_34 fl_X11_79_11 (t_0 hB) rfl (sm_getI hx dX11_kindsOfPlaces_37 fl_X11_266_1 (t_53 hB) rfl (sm_iload_n (z := a3) hx dX11_kindsOfPlaces_40 rfl (sm_iload (z := a4) hx dX11_kindsOfPlaces_41 rfl (sm_callSI (args := [.int (I3 53 0), .int a3, .int a4]) (st := [.ref 53]) hx dX11_kindsOfPlaces_43 ls_X11_242 rfl rfl rfl hI3 (fun r5 I4 L4 hI4 => sm_putI hx dX11_kindsOfPlaces_46 fl_X11_266_1 (t_53 hB) rfl (sm_aload_n (z := 0) hx dX11_kindsOfPlaces_49 rfl (sm_getR hx dX11_kindsOfPlaces_50 fl_X11_79_11 (t_0 hB) rfl (sm_getR hx dX11_kindsOfPlaces_53 fl_X11_302_1 (t_53 hB) rfl (sm_iload_n (z := a1) hx dX11_kindsOfPlaces_56 rfl (sm_iload (z := a6) hx dX11_kindsOfPlaces_57 rfl (sm_callVV (args := [.int a1, .int a6]) (st := []) hx dX11_kindsOfPlaces_59 lv_X11_231_3 rfl rfl (t_54 hB) rfl rfl hI4 (fun I6 L6 hI6 => sm_aload_n (z := 0) hx dX11_kindsOfPlaces_62 rfl (sm_getR hx dX11_kindsOfPlaces_63 fl_X11_79_11 (t_0 hB) rfl (sm_iload_n (z := a2) hx dX11_kindsOfPlaces_66 rfl (sm_callVV (args := [.int a2]) (st := []) hx dX11_kindsOfPlaces_67 lv_X11_346_1 rfl rfl (t_53 hB) rfl rfl hI6 (fun I7 L7 hI7 => sm_iload (z := a5) hx dX11_kindsOfPlaces_70 rfl (sm_iconst (v := 1) hx dX11_kindsOfPlaces_72 sm_kc_1 (sm_aload_n (z := 0) hx dX11_kindsOfPlaces_73 rfl (sm_getR hx dX11_kindsOfPlaces_74 fl_X11_79_11 (t_0 hB) rfl (sm_getI hx dX11_kindsOfPlaces_77 fl_X11_266_1 (t_53 hB) rfl (sm_iload_n (z := a3) hx dX11_kindsOfPlaces_80 rfl (sm_callSI (args := [.int (I7 53 0), .int a3]) (st := [.int 1, .int a5]) hx dX11_kindsOfPlaces_81 ls_X11_197 rfl rfl rfl hI7 (fun r9 I8 L8 hI8 => sm_ishl (a := 1) (b := r9) hx dX11_kindsOfPlaces_84 (sm_ior (a := a5) (b := (1 <<< (r9 &&& 31))) hx dX11_kindsOfPlaces_85 (sm_istore (ls' := [some (.ref 0), some (.int a1), some (.int a2), some (.int a3), some (.int a4), some (.int (a5 ||| (1 <<< (r9 &&& 31)))), some (.int a6)]) hx dX11_kindsOfPlaces_86 (by decide) rfl (sm_iinc (ls' := [some (.ref 0), some (.int a1), some (.int a2), some (.int a3), some (.int a4), some (.int (a5 ||| (1 <<< (r9 &&& 31)))), some (.int (a6 + 1))]) (z := a6) (v := (a6 + 1)) hx dX11_kindsOfPlaces_88 rfl (sm_kii_1 _) (by decide) rfl (sm_goto hx dX11_kindsOfPlaces_91 (tgt := 6) (by decide) (hI8)))))))))))))))))))))))))))))))))))))))))
set_option maxRecDepth 100000 in
theorem c_X11_kindsOfPlaces {n : Nat} {F : Int32 → sm_MI → sm_ML → Prop} {T : List sm_Sh} {I : sm_MI} {L : sm_ML} {a1 : Int32} {a2 : Int32} {a3 : Int32} {a4 : Int32} (hB : sm_Bs T)
    (h : ∀ x : sm_Cx, sm_Ok x mX11_kindsOfPlaces (n + 1) (sm_KI T F) → sm_V x 0 0 T I L 6 [some (.ref 0), some (.int a1), some (.int a2), some (.int a3), some (.int a4), some (.int 0), some (.int 0)] []) :
    sm_CI (n + 1) mX11_kindsOfPlaces T I L [.ref 0, .int a1, .int a2, .int a3, .int a4] F :=
  sm_CI.of (by decide +kernel) rfl (fun x hx => show sm_V x 0 0 T I L 0 [some (.ref 0), some (.int a1), some (.int a2), some (.int a3), some (.int a4), none, none] [] from
  sm_iconst (v := 0) hx dX11_kindsOfPlaces_0 sm_kc_0 (sm_istore (ls' := [some (.ref 0), some (.int a1), some (.int a2), some (.int a3), some (.int a4), some (.int 0), none]) hx dX11_kindsOfPlaces_1 (by decide) rfl (sm_iconst (v := 0) hx dX11_kindsOfPlaces_3 sm_kc_0 (sm_istore (ls' := [some (.ref 0), some (.int a1), some (.int a2), some (.int a3), some (.int a4), some (.int 0), some (.int 0)]) hx dX11_kindsOfPlaces_4 (by decide) rfl ((h x hx))))))
theorem dX11_staysBehind_0 : decode cX11_staysBehind 0 = .ok (.aload_n 0, 1) := by decide +kernel
theorem dX11_staysBehind_1 : decode cX11_staysBehind 1 = .ok (.getfield 49, 3) := by decide +kernel
theorem dX11_staysBehind_4 : decode cX11_staysBehind 4 = .ok (.getfield 150, 3) := by decide +kernel
theorem dX11_staysBehind_7 : decode cX11_staysBehind 7 = .ok (.iload_n 1, 1) := by decide +kernel
theorem dX11_staysBehind_8 : decode cX11_staysBehind 8 = .ok (.invokestatic 197, 3) := by decide +kernel
theorem dX11_staysBehind_11 : decode cX11_staysBehind 11 = .ok (.istore 4, 2) := by decide +kernel
theorem dX11_staysBehind_13 : decode cX11_staysBehind 13 = .ok (.aload_n 0, 1) := by decide +kernel
theorem dX11_staysBehind_14 : decode cX11_staysBehind 14 = .ok (.getfield 79, 3) := by decide +kernel
theorem dX11_staysBehind_17 : decode cX11_staysBehind 17 = .ok (.aload_n 0, 1) := by decide +kernel
theorem dX11_staysBehind_18 : decode cX11_staysBehind 18 = .ok (.getfield 49, 3) := by decide +kernel
theorem dX11_staysBehind_21 : decode cX11_staysBehind 21 = .ok (.invokevirtual 250, 3) := by decide +kernel
theorem dX11_staysBehind_24 : decode cX11_staysBehind 24 = .ok (.aload_n 0, 1) := by decide +kernel
theorem dX11_staysBehind_25 : decode cX11_staysBehind 25 = .ok (.getfield 79, 3) := by decide +kernel
theorem dX11_staysBehind_28 : decode cX11_staysBehind 28 = .ok (.iload_n 3, 1) := by decide +kernel
theorem dX11_staysBehind_29 : decode cX11_staysBehind 29 = .ok (.putfield 356, 3) := by decide +kernel
theorem dX11_staysBehind_32 : decode cX11_staysBehind 32 = .ok (.iconst 0, 1) := by decide +kernel
theorem dX11_staysBehind_33 : decode cX11_staysBehind 33 = .ok (.istore 5, 2) := by decide +kernel
theorem dX11_staysBehind_35 : decode cX11_staysBehind 35 = .ok (.iload 5, 2) := by decide +kernel
theorem dX11_staysBehind_37 : decode cX11_staysBehind 37 = .ok (.iload_n 2, 1) := by decide +kernel
theorem dX11_staysBehind_38 : decode cX11_staysBehind 38 = .ok (.if_icmp .ge 34, 3) := by decide +kernel
theorem dX11_staysBehind_41 : decode cX11_staysBehind 41 = .ok (.aload_n 0, 1) := by decide +kernel
theorem dX11_staysBehind_42 : decode cX11_staysBehind 42 = .ok (.getfield 79, 3) := by decide +kernel
theorem dX11_staysBehind_45 : decode cX11_staysBehind 45 = .ok (.invokevirtual 254, 3) := by decide +kernel
theorem dX11_staysBehind_48 : decode cX11_staysBehind 48 = .ok (.aload_n 0, 1) := by decide +kernel
theorem dX11_staysBehind_49 : decode cX11_staysBehind 49 = .ok (.getfield 79, 3) := by decide +kernel
theorem dX11_staysBehind_52 : decode cX11_staysBehind 52 = .ok (.getfield 266, 3) := by decide +kernel
theorem dX11_staysBehind_55 : decode cX11_staysBehind 55 = .ok (.iload_n 1, 1) := by decide +kernel
theorem dX11_staysBehind_56 : decode cX11_staysBehind 56 = .ok (.invokestatic 197, 3) := by decide +kernel
theorem dX11_staysBehind_59 : decode cX11_staysBehind 59 = .ok (.iload 4, 2) := by decide +kernel
theorem dX11_staysBehind_61 : decode cX11_staysBehind 61 = .ok (.if_icmp .eq 5, 3) := by decide +kernel
theorem dX11_staysBehind_64 : decode cX11_staysBehind 64 = .ok (.iconst 0, 1) := by decide +kernel
theorem dX11_staysBehind_65 : decode cX11_staysBehind 65 = .ok (.ireturn, 1) := by decide +kernel
theorem dX11_staysBehind_66 : decode cX11_staysBehind 66 = .ok (.iinc 5 1, 3) := by decide +kernel
theorem dX11_staysBehind_69 : decode cX11_staysBehind 69 = .ok (.goto (-34), 3) := by decide +kernel
theorem dX11_staysBehind_72 : decode cX11_staysBehind 72 = .ok (.iconst 1, 1) := by decide +kernel
theorem dX11_staysBehind_73 : decode cX11_staysBehind 73 = .ok (.ireturn, 1) := by decide +kernel
set_option maxRecDepth 100000 in
theorem u_X11_staysBehind_35 {x : sm_Cx} {n : Nat} {F : Bool → sm_MI → sm_ML → Prop} {T : List sm_Sh} {I : sm_MI} {L : sm_ML} {a1 : Int32} {a2 : Int32} {a3 : Int32} {a4 : Int32} {a5 : Int32} (hB : sm_Bs T) (hx : sm_Ok x mX11_staysBehind (n + 1) (sm_KZ T F))
    (h : (a2 ≤ a5 → F true I L) ∧ (¬ a2 ≤ a5 → sm_CV n mX0_goOneNight T I L [.ref 53] (fun I1 L1 => sm_CI n mX11_placeIn T I1 L1 [.int (I1 53 0), .int a1] (fun r3 I2 L2 => (r3 = a4 → sm_V x 0 0 T I2 L2 35 [some (.ref 0), some (.int a1), some (.int a2), some (.int a3), some (.int a4), some (.int (a5 + 1))] []) ∧ (¬ r3 = a4 → F false I2 L2))))) :
    sm_V x 0 0 T I L 35 [some (.ref 0), some (.int a1), some (.int a2), some (.int a3), some (.int a4), some (.int a5)] [] :=
  sm_iload (z := a5) hx dX11_staysBehind_35 rfl (sm_iload_n (z := a2) hx dX11_staysBehind_37 rfl (sm_icmpge (a := a5) (b := a2) hx dX11_staysBehind_38 (tgt := 72) (by decide) (fun q2 => sm_iconst (v := 1) hx dX11_staysBehind_72 sm_kc_1 (sm_iretZ (z := true) hx dX11_staysBehind_73 rfl (h.1 q2))) (fun q2 => sm_aload_n (z := 0) hx dX11_staysBehind_41 rfl (sm_getR hx dX11_staysBehind_42 fl_X11_79_11 (t_0 hB) rfl (sm_callVV (args := []) (st := []) hx dX11_staysBehind_45 lv_X11_254_1 rfl rfl (t_53 hB) rfl rfl (h.2 q2) (fun I1 L1 hI1 => sm_aload_n (z := 0) hx dX11_staysBehind_48 rfl (sm_getR hx dX11_staysBehind_49 fl_X11_79_11 (t_0 hB) rfl (sm_getI hx dX11_staysBehind_52 fl_X11_266_1 (t_53 hB) rfl (sm_iload_n (z := a1) hx dX11_staysBehind_55 rfl (sm_callSI (args := [.int (I1 53 0), .int a1]) (st := []) hx dX11_staysBehind_56 ls_X11_197 rfl rfl rfl hI1 (fun r3 I2 L2 hI2 => sm_iload (z := a4) hx dX11_staysBehind_59 rfl (sm_icmpeq (a := r3) (b := a4) hx dX11_staysBehind_61 (tgt := 66) (by decide) (fun q1 => sm_iinc (ls' := [some (.ref 0), some (.int a1), some (.int a2), some (.int a3), some (.int a4), some (.int (a5 + 1))]) (z := a5) (v := (a5 + 1)) hx dX11_staysBehind_66 rfl (sm_kii_1 _) (by decide) rfl (sm_goto hx dX11_staysBehind_69 (tgt := 35) (by decide) ((hI2.1 q1)))) (fun q1 => sm_iconst (v := 0) hx dX11_staysBehind_64 sm_kc_0 (sm_iretZ (z := false) hx dX11_staysBehind_65 rfl (hI2.2 q1)))))))))))))))
set_option maxRecDepth 100000 in
theorem c_X11_staysBehind {n : Nat} {F : Bool → sm_MI → sm_ML → Prop} {T : List sm_Sh} {I : sm_MI} {L : sm_ML} {a1 : Int32} {a2 : Int32} {a3 : Int32} (hB : sm_Bs T)
    (h : ∀ x : sm_Cx, sm_Ok x mX11_staysBehind (n + 1) (sm_KZ T F) → sm_CI n mX11_placeIn T I L [.int (I 35 0), .int a1] (fun r2 I1 L1 => sm_CV n mX0_begin T I1 L1 [.ref 53, .ref 35] (fun I3 L3 => sm_V x 0 0 T (sm_uI I3 53 2 a3) L3 35 [some (.ref 0), some (.int a1), some (.int a2), some (.int a3), some (.int r2), some (.int 0)] []))) :
    sm_CZ (n + 1) mX11_staysBehind T I L [.ref 0, .int a1, .int a2, .int a3] F :=
  sm_CZ.of (by decide +kernel) rfl (fun x hx => show sm_V x 0 0 T I L 0 [some (.ref 0), some (.int a1), some (.int a2), some (.int a3), none, none] [] from
  sm_aload_n (z := 0) hx dX11_staysBehind_0 rfl (sm_getR hx dX11_staysBehind_1 fl_X11_49_11 (t_0 hB) rfl (sm_getI hx dX11_staysBehind_4 fl_X11_150_7 (t_35 hB) rfl (sm_iload_n (z := a1) hx dX11_staysBehind_7 rfl (sm_callSI (args := [.int (I 35 0), .int a1]) (st := []) hx dX11_staysBehind_8 ls_X11_197 rfl rfl rfl (h x hx) (fun r2 I1 L1 hI1 => sm_istore (ls' := [some (.ref 0), some (.int a1), some (.int a2), some (.int a3), some (.int r2), none]) hx dX11_staysBehind_11 (by decide) rfl (sm_aload_n (z := 0) hx dX11_staysBehind_13 rfl (sm_getR hx dX11_staysBehind_14 fl_X11_79_11 (t_0 hB) rfl (sm_aload_n (z := 0) hx dX11_staysBehind_17 rfl (sm_getR hx dX11_staysBehind_18 fl_X11_49_11 (t_0 hB) rfl (sm_callVV (args := [.ref 35]) (st := []) hx dX11_staysBehind_21 lv_X11_250_1 rfl rfl (t_53 hB) rfl rfl hI1 (fun I3 L3 hI3 => sm_aload_n (z := 0) hx dX11_staysBehind_24 rfl (sm_getR hx dX11_staysBehind_25 fl_X11_79_11 (t_0 hB) rfl (sm_iload_n (z := a3) hx dX11_staysBehind_28 rfl (sm_putI hx dX11_staysBehind_29 fl_X11_356_1 (t_53 hB) rfl (sm_iconst (v := 0) hx dX11_staysBehind_32 sm_kc_0 (sm_istore (ls' := [some (.ref 0), some (.int a1), some (.int a2), some (.int a3), some (.int r2), some (.int 0)]) hx dX11_staysBehind_33 (by decide) rfl (hI3))))))))))))))))))
theorem dX11_landAllStarts_0 : decode cX11_landAllStarts 0 = .ok (.aload_n 0, 1) := by decide +kernel
theorem dX11_landAllStarts_1 : decode cX11_landAllStarts 1 = .ok (.getfield 42, 3) := by decide +kernel
theorem dX11_landAllStarts_4 : decode cX11_landAllStarts 4 = .ok (.invokevirtual 328, 3) := by decide +kernel
theorem dX11_landAllStarts_7 : decode cX11_landAllStarts 7 = .ok (.istore_n 2, 1) := by decide +kernel
theorem dX11_landAllStarts_8 : decode cX11_landAllStarts 8 = .ok (.iconst 0, 1) := by decide +kernel
theorem dX11_landAllStarts_9 : decode cX11_landAllStarts 9 = .ok (.istore_n 3, 1) := by decide +kernel
theorem dX11_landAllStarts_10 : decode cX11_landAllStarts 10 = .ok (.iload_n 3, 1) := by decide +kernel
theorem dX11_landAllStarts_11 : decode cX11_landAllStarts 11 = .ok (.iload_n 2, 1) := by decide +kernel
theorem dX11_landAllStarts_12 : decode cX11_landAllStarts 12 = .ok (.if_icmp .ge 27, 3) := by decide +kernel
theorem dX11_landAllStarts_15 : decode cX11_landAllStarts 15 = .ok (.aload_n 0, 1) := by decide +kernel
theorem dX11_landAllStarts_16 : decode cX11_landAllStarts 16 = .ok (.getfield 96, 3) := by decide +kernel
theorem dX11_landAllStarts_19 : decode cX11_landAllStarts 19 = .ok (.iload_n 3, 1) := by decide +kernel
theorem dX11_landAllStarts_20 : decode cX11_landAllStarts 20 = .ok (.iload_n 3, 1) := by decide +kernel
theorem dX11_landAllStarts_21 : decode cX11_landAllStarts 21 = .ok (.invokevirtual 231, 3) := by decide +kernel
theorem dX11_landAllStarts_24 : decode cX11_landAllStarts 24 = .ok (.aload_n 0, 1) := by decide +kernel
theorem dX11_landAllStarts_25 : decode cX11_landAllStarts 25 = .ok (.getfield 102, 3) := by decide +kernel
theorem dX11_landAllStarts_28 : decode cX11_landAllStarts 28 = .ok (.iload_n 3, 1) := by decide +kernel
theorem dX11_landAllStarts_29 : decode cX11_landAllStarts 29 = .ok (.iconst (-1), 1) := by decide +kernel
theorem dX11_landAllStarts_30 : decode cX11_landAllStarts 30 = .ok (.invokevirtual 231, 3) := by decide +kernel
theorem dX11_landAllStarts_33 : decode cX11_landAllStarts 33 = .ok (.iinc 3 1, 3) := by decide +kernel
theorem dX11_landAllStarts_36 : decode cX11_landAllStarts 36 = .ok (.goto (-26), 3) := by decide +kernel
theorem dX11_landAllStarts_39 : decode cX11_landAllStarts 39 = .ok (.aload_n 0, 1) := by decide +kernel
theorem dX11_landAllStarts_40 : decode cX11_landAllStarts 40 = .ok (.getfield 79, 3) := by decide +kernel
theorem dX11_landAllStarts_43 : decode cX11_landAllStarts 43 = .ok (.aload_n 0, 1) := by decide +kernel
theorem dX11_landAllStarts_44 : decode cX11_landAllStarts 44 = .ok (.getfield 49, 3) := by decide +kernel
theorem dX11_landAllStarts_47 : decode cX11_landAllStarts 47 = .ok (.invokevirtual 250, 3) := by decide +kernel
theorem dX11_landAllStarts_50 : decode cX11_landAllStarts 50 = .ok (.iconst 0, 1) := by decide +kernel
theorem dX11_landAllStarts_51 : decode cX11_landAllStarts 51 = .ok (.istore_n 3, 1) := by decide +kernel
theorem dX11_landAllStarts_52 : decode cX11_landAllStarts 52 = .ok (.iload_n 3, 1) := by decide +kernel
theorem dX11_landAllStarts_53 : decode cX11_landAllStarts 53 = .ok (.iload_n 1, 1) := by decide +kernel
theorem dX11_landAllStarts_54 : decode cX11_landAllStarts 54 = .ok (.if_icmp .ge 144, 3) := by decide +kernel
theorem dX11_landAllStarts_57 : decode cX11_landAllStarts 57 = .ok (.aload_n 0, 1) := by decide +kernel
theorem dX11_landAllStarts_58 : decode cX11_landAllStarts 58 = .ok (.getfield 49, 3) := by decide +kernel
theorem dX11_landAllStarts_61 : decode cX11_landAllStarts 61 = .ok (.getfield 153, 3) := by decide +kernel
theorem dX11_landAllStarts_64 : decode cX11_landAllStarts 64 = .ok (.iload_n 3, 1) := by decide +kernel
theorem dX11_landAllStarts_65 : decode cX11_landAllStarts 65 = .ok (.iadd, 1) := by decide +kernel
theorem dX11_landAllStarts_66 : decode cX11_landAllStarts 66 = .ok (.istore 4, 2) := by decide +kernel
theorem dX11_landAllStarts_68 : decode cX11_landAllStarts 68 = .ok (.iconst 0, 1) := by decide +kernel
theorem dX11_landAllStarts_69 : decode cX11_landAllStarts 69 = .ok (.istore 5, 2) := by decide +kernel
theorem dX11_landAllStarts_71 : decode cX11_landAllStarts 71 = .ok (.iload 5, 2) := by decide +kernel
theorem dX11_landAllStarts_73 : decode cX11_landAllStarts 73 = .ok (.iload_n 2, 1) := by decide +kernel
theorem dX11_landAllStarts_74 : decode cX11_landAllStarts 74 = .ok (.if_icmp .ge 118, 3) := by decide +kernel
theorem dX11_landAllStarts_77 : decode cX11_landAllStarts 77 = .ok (.aload_n 0, 1) := by decide +kernel
theorem dX11_landAllStarts_78 : decode cX11_landAllStarts 78 = .ok (.getfield 96, 3) := by decide +kernel
theorem dX11_landAllStarts_81 : decode cX11_landAllStarts 81 = .ok (.iload 5, 2) := by decide +kernel
theorem dX11_landAllStarts_83 : decode cX11_landAllStarts 83 = .ok (.invokevirtual 177, 3) := by decide +kernel
theorem dX11_landAllStarts_86 : decode cX11_landAllStarts 86 = .ok (.istore 6, 2) := by decide +kernel
theorem dX11_landAllStarts_88 : decode cX11_landAllStarts 88 = .ok (.aload_n 0, 1) := by decide +kernel
theorem dX11_landAllStarts_89 : decode cX11_landAllStarts 89 = .ok (.getfield 102, 3) := by decide +kernel
theorem dX11_landAllStarts_92 : decode cX11_landAllStarts 92 = .ok (.iload 6, 2) := by decide +kernel
theorem dX11_landAllStarts_94 : decode cX11_landAllStarts 94 = .ok (.invokevirtual 177, 3) := by decide +kernel
theorem dX11_landAllStarts_97 : decode cX11_landAllStarts 97 = .ok (.iload 4, 2) := by decide +kernel
theorem dX11_landAllStarts_99 : decode cX11_landAllStarts 99 = .ok (.if_icmp .eq 69, 3) := by decide +kernel
theorem dX11_landAllStarts_102 : decode cX11_landAllStarts 102 = .ok (.aload_n 0, 1) := by decide +kernel
theorem dX11_landAllStarts_103 : decode cX11_landAllStarts 103 = .ok (.getfield 79, 3) := by decide +kernel
theorem dX11_landAllStarts_106 : decode cX11_landAllStarts 106 = .ok (.aload_n 0, 1) := by decide +kernel
theorem dX11_landAllStarts_107 : decode cX11_landAllStarts 107 = .ok (.getfield 42, 3) := by decide +kernel
theorem dX11_landAllStarts_110 : decode cX11_landAllStarts 110 = .ok (.iload 6, 2) := by decide +kernel
theorem dX11_landAllStarts_112 : decode cX11_landAllStarts 112 = .ok (.invokevirtual 331, 3) := by decide +kernel
theorem dX11_landAllStarts_115 : decode cX11_landAllStarts 115 = .ok (.putfield 266, 3) := by decide +kernel
theorem dX11_landAllStarts_118 : decode cX11_landAllStarts 118 = .ok (.aload_n 0, 1) := by decide +kernel
theorem dX11_landAllStarts_119 : decode cX11_landAllStarts 119 = .ok (.getfield 79, 3) := by decide +kernel
theorem dX11_landAllStarts_122 : decode cX11_landAllStarts 122 = .ok (.iload 4, 2) := by decide +kernel
theorem dX11_landAllStarts_124 : decode cX11_landAllStarts 124 = .ok (.putfield 357, 3) := by decide +kernel
theorem dX11_landAllStarts_127 : decode cX11_landAllStarts 127 = .ok (.aload_n 0, 1) := by decide +kernel
theorem dX11_landAllStarts_128 : decode cX11_landAllStarts 128 = .ok (.getfield 79, 3) := by decide +kernel
theorem dX11_landAllStarts_131 : decode cX11_landAllStarts 131 = .ok (.invokevirtual 254, 3) := by decide +kernel
theorem dX11_landAllStarts_134 : decode cX11_landAllStarts 134 = .ok (.aload_n 0, 1) := by decide +kernel
theorem dX11_landAllStarts_135 : decode cX11_landAllStarts 135 = .ok (.getfield 99, 3) := by decide +kernel
theorem dX11_landAllStarts_138 : decode cX11_landAllStarts 138 = .ok (.iload 6, 2) := by decide +kernel
theorem dX11_landAllStarts_140 : decode cX11_landAllStarts 140 = .ok (.aload_n 0, 1) := by decide +kernel
theorem dX11_landAllStarts_141 : decode cX11_landAllStarts 141 = .ok (.getfield 42, 3) := by decide +kernel
theorem dX11_landAllStarts_144 : decode cX11_landAllStarts 144 = .ok (.aload_n 0, 1) := by decide +kernel
theorem dX11_landAllStarts_145 : decode cX11_landAllStarts 145 = .ok (.getfield 79, 3) := by decide +kernel
theorem dX11_landAllStarts_148 : decode cX11_landAllStarts 148 = .ok (.getfield 266, 3) := by decide +kernel
theorem dX11_landAllStarts_151 : decode cX11_landAllStarts 151 = .ok (.invokevirtual 325, 3) := by decide +kernel
theorem dX11_landAllStarts_154 : decode cX11_landAllStarts 154 = .ok (.invokevirtual 231, 3) := by decide +kernel
theorem dX11_landAllStarts_157 : decode cX11_landAllStarts 157 = .ok (.aload_n 0, 1) := by decide +kernel
theorem dX11_landAllStarts_158 : decode cX11_landAllStarts 158 = .ok (.getfield 102, 3) := by decide +kernel
theorem dX11_landAllStarts_161 : decode cX11_landAllStarts 161 = .ok (.iload 6, 2) := by decide +kernel
theorem dX11_landAllStarts_163 : decode cX11_landAllStarts 163 = .ok (.iload 4, 2) := by decide +kernel
theorem dX11_landAllStarts_165 : decode cX11_landAllStarts 165 = .ok (.invokevirtual 231, 3) := by decide +kernel
theorem dX11_landAllStarts_168 : decode cX11_landAllStarts 168 = .ok (.aload_n 0, 1) := by decide +kernel
theorem dX11_landAllStarts_169 : decode cX11_landAllStarts 169 = .ok (.getfield 96, 3) := by decide +kernel
theorem dX11_landAllStarts_172 : decode cX11_landAllStarts 172 = .ok (.iload 5, 2) := by decide +kernel
theorem dX11_landAllStarts_174 : decode cX11_landAllStarts 174 = .ok (.aload_n 0, 1) := by decide +kernel
theorem dX11_landAllStarts_175 : decode cX11_landAllStarts 175 = .ok (.getfield 99, 3) := by decide +kernel
theorem dX11_landAllStarts_178 : decode cX11_landAllStarts 178 = .ok (.iload 6, 2) := by decide +kernel
theorem dX11_landAllStarts_180 : decode cX11_landAllStarts 180 = .ok (.invokevirtual 177, 3) := by decide +kernel
theorem dX11_landAllStarts_183 : decode cX11_landAllStarts 183 = .ok (.invokevirtual 231, 3) := by decide +kernel
theorem dX11_landAllStarts_186 : decode cX11_landAllStarts 186 = .ok (.iinc 5 1, 3) := by decide +kernel
theorem dX11_landAllStarts_189 : decode cX11_landAllStarts 189 = .ok (.goto (-118), 3) := by decide +kernel
theorem dX11_landAllStarts_192 : decode cX11_landAllStarts 192 = .ok (.iinc 3 1, 3) := by decide +kernel
theorem dX11_landAllStarts_195 : decode cX11_landAllStarts 195 = .ok (.goto (-143), 3) := by decide +kernel
theorem dX11_landAllStarts_198 : decode cX11_landAllStarts 198 = .ok (.return_, 1) := by decide +kernel
set_option maxRecDepth 100000 in
theorem u_X11_landAllStarts_10 {x : sm_Cx} {n : Nat} {F : sm_MI → sm_ML → Prop} {T : List sm_Sh} {I : sm_MI} {L : sm_ML} {a1 : Int32} {a2 : Int32} {a3 : Int32} (hB : sm_Bs T) (hx : sm_Ok x mX11_landAllStarts (n + 1) (sm_KV T F))
    (h : (a2 ≤ a3 → sm_CV n mX0_begin T I L [.ref 53, .ref 35] (fun I1 L1 => sm_V x 0 0 T I1 L1 52 [some (.ref 0), some (.int a1), some (.int a2), some (.int 0), none, none, none] [])) ∧ (¬ a2 ≤ a3 → sm_CV n mX3_set T I L [.ref 70, .int a3, .int a3] (fun I2 L2 => sm_CV n mX3_set T I2 L2 [.ref 74, .int a3, .int (-1)] (fun I3 L3 => sm_V x 0 0 T I3 L3 10 [some (.ref 0), some (.int a1), some (.int a2), some (.int (a3 + 1)), none, none, none] [])))) :
    sm_V x 0 0 T I L 10 [some (.ref 0), some (.int a1), some (.int a2), some (.int a3), none, none, none] [] :=
  sm_iload_n (z := a3) hx dX11_landAllStarts_10 rfl (sm_iload_n (z := a2) hx dX11_landAllStarts_11 rfl (sm_icmpge (a := a3) (b := a2) hx dX11_landAllStarts_12 (tgt := 39) (by decide) (fun q1 => sm_aload_n (z := 0) hx dX11_landAllStarts_39 rfl (sm_getR hx dX11_landAllStarts_40 fl_X11_79_11 (t_0 hB) rfl (sm_aload_n (z := 0) hx dX11_landAllStarts_43 rfl (sm_getR hx dX11_landAllStarts_44 fl_X11_49_11 (t_0 hB) rfl (sm_callVV (args := [.ref 35]) (st := []) hx dX11_landAllStarts_47 lv_X11_250_1 rfl rfl (t_53 hB) rfl rfl (h.1 q1) (fun I1 L1 hI1 => sm_iconst (v := 0) hx dX11_landAllStarts_50 sm_kc_0 (sm_istore_n (ls' := [some (.ref 0), some (.int a1), some (.int a2), some (.int 0), none, none, none]) hx dX11_landAllStarts_51 (by decide) rfl (hI1)))))))) (fun q1 => sm_aload_n (z := 0) hx dX11_landAllStarts_15 rfl (sm_getR hx dX11_landAllStarts_16 fl_X11_96_11 (t_0 hB) rfl (sm_iload_n (z := a3) hx dX11_landAllStarts_19 rfl (sm_iload_n (z := a3) hx dX11_landAllStarts_20 rfl (sm_callVV (args := [.int a3, .int a3]) (st := []) hx dX11_landAllStarts_21 lv_X11_231_3 rfl rfl (t_70 hB) rfl rfl (h.2 q1) (fun I2 L2 hI2 => sm_aload_n (z := 0) hx dX11_landAllStarts_24 rfl (sm_getR hx dX11_landAllStarts_25 fl_X11_102_11 (t_0 hB) rfl (sm_iload_n (z := a3) hx dX11_landAllStarts_28 rfl (sm_iconst (v := (-1)) hx dX11_landAllStarts_29 sm_kc_m1 (sm_callVV (args := [.int a3, .int (-1)]) (st := []) hx dX11_landAllStarts_30 lv_X11_231_3 rfl rfl (t_74 hB) rfl rfl hI2 (fun I3 L3 hI3 => sm_iinc (ls' := [some (.ref 0), some (.int a1), some (.int a2), some (.int (a3 + 1)), none, none, none]) (z := a3) (v := (a3 + 1)) hx dX11_landAllStarts_33 rfl (sm_kii_1 _) (by decide) rfl (sm_goto hx dX11_landAllStarts_36 (tgt := 10) (by decide) (hI3)))))))))))))))
set_option maxRecDepth 100000 in
theorem u_X11_landAllStarts_52 {x : sm_Cx} {n : Nat} {F : sm_MI → sm_ML → Prop} {T : List sm_Sh} {I : sm_MI} {L : sm_ML} {a1 : Int32} {a2 : Int32} {a3 : Int32} {u4 : Option Value} {u5 : Option Value} {u6 : Option Value} (hB : sm_Bs T) (hx : sm_Ok x mX11_landAllStarts (n + 1) (sm_KV T F))
    (h : (a1 ≤ a3 → F I L) ∧ (¬ a1 ≤ a3 → sm_V x 0 0 T I L 71 [some (.ref 0), some (.int a1), some (.int a2), some (.int a3), some (.int ((I 35 1) + a3)), some (.int 0), u6] [])) :
    sm_V x 0 0 T I L 52 [some (.ref 0), some (.int a1), some (.int a2), some (.int a3), u4, u5, u6] [] :=
  sm_iload_n (z := a3) hx dX11_landAllStarts_52 rfl (sm_iload_n (z := a1) hx dX11_landAllStarts_53 rfl (sm_icmpge (a := a3) (b := a1) hx dX11_landAllStarts_54 (tgt := 198) (by decide) (fun q2 => sm_vretV hx dX11_landAllStarts_198 rfl (h.1 q2)) (fun q2 => sm_aload_n (z := 0) hx dX11_landAllStarts_57 rfl (sm_getR hx dX11_landAllStarts_58 fl_X11_49_11 (t_0 hB) rfl (sm_getI hx dX11_landAllStarts_61 fl_X11_153_7 (t_35 hB) rfl (sm_iload_n (z := a3) hx dX11_landAllStarts_64 rfl (sm_iadd (a := (I 35 1)) (b := a3) hx dX11_landAllStarts_65 (sm_istore (ls' := [some (.ref 0), some (.int a1), some (.int a2), some (.int a3), some (.int ((I 35 1) + a3)), u5, u6]) hx dX11_landAllStarts_66 (by decide) rfl (sm_iconst (v := 0) hx dX11_landAllStarts_68 sm_kc_0 (sm_istore (ls' := [some (.ref 0), some (.int a1), some (.int a2), some (.int a3), some (.int ((I 35 1) + a3)), some (.int 0), u6]) hx dX11_landAllStarts_69 (by decide) rfl ((h.2 q2))))))))))))
set_option maxRecDepth 100000 in
theorem u_X11_landAllStarts_71 {x : sm_Cx} {n : Nat} {F : sm_MI → sm_ML → Prop} {T : List sm_Sh} {I : sm_MI} {L : sm_ML} {a1 : Int32} {a2 : Int32} {a3 : Int32} {a4 : Int32} {a5 : Int32} {u6 : Option Value} (hB : sm_Bs T) (hx : sm_Ok x mX11_landAllStarts (n + 1) (sm_KV T F))
    (h : (a2 ≤ a5 → sm_V x 0 0 T I L 52 [some (.ref 0), some (.int a1), some (.int a2), some (.int (a3 + 1)), some (.int a4), some (.int a5), u6] []) ∧ (¬ a2 ≤ a5 → sm_CI n mX3_at T I L [.ref 70, .int a5] (fun r2 I1 L1 => sm_CI n mX3_at T I1 L1 [.ref 74, .int r2] (fun r4 I3 L3 => (r4 = a4 → sm_CI n mX3_at T I3 L3 [.ref 72, .int r2] (fun r6 I5 L5 => sm_CV n mX3_set T I5 L5 [.ref 70, .int a5, .int r6] (fun I7 L7 => sm_V x 0 0 T I7 L7 71 [some (.ref 0), some (.int a1), some (.int a2), some (.int a3), some (.int a4), some (.int (a5 + 1)), some (.int r2)] []))) ∧ (¬ r4 = a4 → sm_CI n mX8_placesOf T I3 L3 [.ref 24, .int r2] (fun r9 I8 L8 => sm_CV n mX0_goOneNight T (sm_uI (sm_uI I8 53 0 r9) 53 1 a4) L8 [.ref 53] (fun I10 L10 => sm_CI n mX8_startOf T I10 L10 [.ref 24, .int (I10 53 0)] (fun r12 I11 L11 => sm_CV n mX3_set T I11 L11 [.ref 72, .int r2, .int r12] (fun I13 L13 => sm_CV n mX3_set T I13 L13 [.ref 74, .int r2, .int a4] (fun I14 L14 => sm_CI n mX3_at T I14 L14 [.ref 72, .int r2] (fun r16 I15 L15 => sm_CV n mX3_set T I15 L15 [.ref 70, .int a5, .int r16] (fun I17 L17 => sm_V x 0 0 T I17 L17 71 [some (.ref 0), some (.int a1), some (.int a2), some (.int a3), some (.int a4), some (.int (a5 + 1)), some (.int r2)] [])))))))))))) :
    sm_V x 0 0 T I L 71 [some (.ref 0), some (.int a1), some (.int a2), some (.int a3), some (.int a4), some (.int a5), u6] [] :=
  sm_iload (z := a5) hx dX11_landAllStarts_71 rfl (sm_iload_n (z := a2) hx dX11_landAllStarts_73 rfl (sm_icmpge (a := a5) (b := a2) hx dX11_landAllStarts_74 (tgt := 192) (by decide) (fun q4 => sm_iinc (ls' := [some (.ref 0), some (.int a1), some (.int a2), some (.int (a3 + 1)), some (.int a4), some (.int a5), u6]) (z := a3) (v := (a3 + 1)) hx dX11_landAllStarts_192 rfl (sm_kii_1 _) (by decide) rfl (sm_goto hx dX11_landAllStarts_195 (tgt := 52) (by decide) ((h.1 q4)))) (fun q4 => sm_aload_n (z := 0) hx dX11_landAllStarts_77 rfl (sm_getR hx dX11_landAllStarts_78 fl_X11_96_11 (t_0 hB) rfl (sm_iload (z := a5) hx dX11_landAllStarts_81 rfl (sm_callVI (args := [.int a5]) (st := []) hx dX11_landAllStarts_83 lv_X11_177_3 rfl rfl (t_70 hB) rfl rfl (h.2 q4) (fun r2 I1 L1 hI1 => sm_istore (ls' := [some (.ref 0), some (.int a1), some (.int a2), some (.int a3), some (.int a4), some (.int a5), some (.int r2)]) hx dX11_landAllStarts_86 (by decide) rfl (sm_aload_n (z := 0) hx dX11_landAllStarts_88 rfl (sm_getR hx dX11_landAllStarts_89 fl_X11_102_11 (t_0 hB) rfl (sm_iload (z := r2) hx dX11_landAllStarts_92 rfl (sm_callVI (args := [.int r2]) (st := []) hx dX11_landAllStarts_94 lv_X11_177_3 rfl rfl (t_74 hB) rfl rfl hI1 (fun r4 I3 L3 hI3 => sm_iload (z := a4) hx dX11_landAllStarts_97 rfl (sm_icmpeq (a := r4) (b := a4) hx dX11_landAllStarts_99 (tgt := 168) (by decide) (fun q3 => sm_aload_n (z := 0) hx dX11_landAllStarts_168 rfl (sm_getR hx dX11_landAllStarts_169 fl_X11_96_11 (t_0 hB) rfl (sm_iload (z := a5) hx dX11_landAllStarts_172 rfl (sm_aload_n (z := 0) hx dX11_landAllStarts_174 rfl (sm_getR hx dX11_landAllStarts_175 fl_X11_99_11 (t_0 hB) rfl (sm_iload (z := r2) hx dX11_landAllStarts_178 rfl (sm_callVI (args := [.int r2]) (st := [.int a5, .ref 70]) hx dX11_landAllStarts_180 lv_X11_177_3 rfl rfl (t_72 hB) rfl rfl (hI3.1 q3) (fun r6 I5 L5 hI5 => sm_callVV (args := [.int a5, .int r6]) (st := []) hx dX11_landAllStarts_183 lv_X11_231_3 rfl rfl (t_70 hB) rfl rfl hI5 (fun I7 L7 hI7 => sm_iinc (ls' := [some (.ref 0), some (.int a1), some (.int a2), some (.int a3), some (.int a4), some (.int (a5 + 1)), some (.int r2)]) (z := a5) (v := (a5 + 1)) hx dX11_landAllStarts_186 rfl (sm_kii_1 _) (by decide) rfl (sm_goto hx dX11_landAllStarts_189 (tgt := 71) (by decide) (hI7))))))))))) (fun q3 => sm_aload_n (z := 0) hx dX11_landAllStarts_102 rfl (sm_getR hx dX11_landAllStarts_103 fl_X11_79_11 (t_0 hB) rfl (sm_aload_n (z := 0) hx dX11_landAllStarts_106 rfl (sm_getR hx dX11_landAllStarts_107 fl_X11_42_11 (t_0 hB) rfl (sm_iload (z := r2) hx dX11_landAllStarts_110 rfl (sm_callVI (args := [.int r2]) (st := [.ref 53]) hx dX11_landAllStarts_112 lv_X11_331_8 rfl rfl (t_24 hB) rfl rfl (hI3.2 q3) (fun r9 I8 L8 hI8 => sm_putI hx dX11_landAllStarts_115 fl_X11_266_1 (t_53 hB) rfl (sm_aload_n (z := 0) hx dX11_landAllStarts_118 rfl (sm_getR hx dX11_landAllStarts_119 fl_X11_79_11 (t_0 hB) rfl (sm_iload (z := a4) hx dX11_landAllStarts_122 rfl (sm_putI hx dX11_landAllStarts_124 fl_X11_357_1 (t_53 hB) rfl (sm_aload_n (z := 0) hx dX11_landAllStarts_127 rfl (sm_getR hx dX11_landAllStarts_128 fl_X11_79_11 (t_0 hB) rfl (sm_callVV (args := []) (st := []) hx dX11_landAllStarts_131 lv_X11_254_1 rfl rfl (t_53 hB) rfl rfl hI8 (fun I10 L10 hI10 => sm_aload_n (z := 0) hx dX11_landAllStarts_134 rfl (sm_getR hx dX11_landAllStarts_135 fl_X11_99_11 (t_0 hB) rfl (sm_iload (z := r2) hx dX11_landAllStarts_138 rfl (sm_aload_n (z := 0) hx dX11_landAllStarts_140 rfl (sm_getR hx dX11_landAllStarts_141 fl_X11_42_11 (t_0 hB) rfl (sm_aload_n (z := 0) hx dX11_landAllStarts_144 rfl (sm_getR hx dX11_landAllStarts_145 fl_X11_79_11 (t_0 hB) rfl (sm_getI hx dX11_landAllStarts_148 fl_X11_266_1 (t_53 hB) rfl (sm_callVI (args := [.int (I10 53 0)]) (st := [.int r2, .ref 72]) hx dX11_landAllStarts_151 lv_X11_325_8 rfl rfl (t_24 hB) rfl rfl hI10 (fun r12 I11 L11 hI11 => sm_callVV (args := [.int r2, .int r12]) (st := []) hx dX11_landAllStarts_154 lv_X11_231_3 rfl rfl (t_72 hB) rfl rfl hI11 (fun I13 L13 hI13 => sm_aload_n (z := 0) hx dX11_landAllStarts_157 rfl (sm_getR hx dX11_landAllStarts_158 fl_X11_102_11 (t_0 hB) rfl (sm_iload (z := r2) hx dX11_landAllStarts_161 rfl (sm_iload (z := a4) hx dX11_landAllStarts_163 rfl (sm_callVV (args := [.int r2, .int a4]) (st := []) hx dX11_landAllStarts_165 lv_X11_231_3 rfl rfl (t_74 hB) rfl rfl hI13 (fun I14 L14 hI14 => sm_aload_n (z := 0) hx dX11_landAllStarts_168 rfl (sm_getR hx dX11_landAllStarts_169 fl_X11_96_11 (t_0 hB) rfl (sm_iload (z := a5) hx dX11_landAllStarts_172 rfl (sm_aload_n (z := 0) hx dX11_landAllStarts_174 rfl (sm_getR hx dX11_landAllStarts_175 fl_X11_99_11 (t_0 hB) rfl (sm_iload (z := r2) hx dX11_landAllStarts_178 rfl (sm_callVI (args := [.int r2]) (st := [.int a5, .ref 70]) hx dX11_landAllStarts_180 lv_X11_177_3 rfl rfl (t_72 hB) rfl rfl hI14 (fun r16 I15 L15 hI15 => sm_callVV (args := [.int a5, .int r16]) (st := []) hx dX11_landAllStarts_183 lv_X11_231_3 rfl rfl (t_70 hB) rfl rfl hI15 (fun I17 L17 hI17 => sm_iinc (ls' := [some (.ref 0), some (.int a1), some (.int a2), some (.int a3), some (.int a4), some (.int (a5 + 1)), some (.int r2)]) (z := a5) (v := (a5 + 1)) hx dX11_landAllStarts_186 rfl (sm_kii_1 _) (by decide) rfl (sm_goto hx dX11_landAllStarts_189 (tgt := 71) (by decide) (hI17)))))))))))))))))))))))))))))))))))))))))))))))))))))
set_option maxRecDepth 100000 in
theorem c_X11_landAllStarts {n : Nat} {F : sm_MI → sm_ML → Prop} {T : List sm_Sh} {I : sm_MI} {L : sm_ML} {a1 : Int32} (hB : sm_Bs T)
    (h : ∀ x : sm_Cx, sm_Ok x mX11_landAllStarts (n + 1) (sm_KV T F) → sm_CI n mX8_starts T I L [.ref 24] (fun r2 I1 L1 => sm_V x 0 0 T I1 L1 10 [some (.ref 0), some (.int a1), some (.int r2), some (.int 0), none, none, none] [])) :
    sm_CV (n + 1) mX11_landAllStarts T I L [.ref 0, .int a1] F :=
  sm_CV.of (by decide +kernel) rfl (fun x hx => show sm_V x 0 0 T I L 0 [some (.ref 0), some (.int a1), none, none, none, none, none] [] from
  sm_aload_n (z := 0) hx dX11_landAllStarts_0 rfl (sm_getR hx dX11_landAllStarts_1 fl_X11_42_11 (t_0 hB) rfl (sm_callVI (args := []) (st := []) hx dX11_landAllStarts_4 lv_X11_328_8 rfl rfl (t_24 hB) rfl rfl (h x hx) (fun r2 I1 L1 hI1 => sm_istore_n (ls' := [some (.ref 0), some (.int a1), some (.int r2), none, none, none, none]) hx dX11_landAllStarts_7 (by decide) rfl (sm_iconst (v := 0) hx dX11_landAllStarts_8 sm_kc_0 (sm_istore_n (ls' := [some (.ref 0), some (.int a1), some (.int r2), some (.int 0), none, none, none]) hx dX11_landAllStarts_9 (by decide) rfl (hI1)))))))
theorem dX11_changedWithout_0 : decode cX11_changedWithout 0 = .ok (.aload_n 0, 1) := by decide +kernel
theorem dX11_changedWithout_1 : decode cX11_changedWithout 1 = .ok (.getfield 79, 3) := by decide +kernel
theorem dX11_changedWithout_4 : decode cX11_changedWithout 4 = .ok (.aload_n 0, 1) := by decide +kernel
theorem dX11_changedWithout_5 : decode cX11_changedWithout 5 = .ok (.getfield 49, 3) := by decide +kernel
theorem dX11_changedWithout_8 : decode cX11_changedWithout 8 = .ok (.invokevirtual 250, 3) := by decide +kernel
theorem dX11_changedWithout_11 : decode cX11_changedWithout 11 = .ok (.aload_n 0, 1) := by decide +kernel
theorem dX11_changedWithout_12 : decode cX11_changedWithout 12 = .ok (.getfield 79, 3) := by decide +kernel
theorem dX11_changedWithout_15 : decode cX11_changedWithout 15 = .ok (.iload_n 1, 1) := by decide +kernel
theorem dX11_changedWithout_16 : decode cX11_changedWithout 16 = .ok (.putfield 358, 3) := by decide +kernel
theorem dX11_changedWithout_19 : decode cX11_changedWithout 19 = .ok (.aload_n 0, 1) := by decide +kernel
theorem dX11_changedWithout_20 : decode cX11_changedWithout 20 = .ok (.getfield 79, 3) := by decide +kernel
theorem dX11_changedWithout_23 : decode cX11_changedWithout 23 = .ok (.iload_n 2, 1) := by decide +kernel
theorem dX11_changedWithout_24 : decode cX11_changedWithout 24 = .ok (.invokevirtual 346, 3) := by decide +kernel
theorem dX11_changedWithout_27 : decode cX11_changedWithout 27 = .ok (.aload_n 0, 1) := by decide +kernel
theorem dX11_changedWithout_28 : decode cX11_changedWithout 28 = .ok (.getfield 42, 3) := by decide +kernel
theorem dX11_changedWithout_31 : decode cX11_changedWithout 31 = .ok (.aload_n 0, 1) := by decide +kernel
theorem dX11_changedWithout_32 : decode cX11_changedWithout 32 = .ok (.getfield 79, 3) := by decide +kernel
theorem dX11_changedWithout_35 : decode cX11_changedWithout 35 = .ok (.getfield 266, 3) := by decide +kernel
theorem dX11_changedWithout_38 : decode cX11_changedWithout 38 = .ok (.iload_n 3, 1) := by decide +kernel
theorem dX11_changedWithout_39 : decode cX11_changedWithout 39 = .ok (.invokevirtual 293, 3) := by decide +kernel
theorem dX11_changedWithout_42 : decode cX11_changedWithout 42 = .ok (.invokestatic 288, 3) := by decide +kernel
theorem dX11_changedWithout_45 : decode cX11_changedWithout 45 = .ok (.ireturn, 1) := by decide +kernel
set_option maxRecDepth 100000 in
theorem c_X11_changedWithout {n : Nat} {F : Int32 → sm_MI → sm_ML → Prop} {T : List sm_Sh} {I : sm_MI} {L : sm_ML} {a1 : Int32} {a2 : Int32} {a3 : Int32} (hB : sm_Bs T)
    (h : sm_CV n mX0_begin T I L [.ref 53, .ref 35] (fun I1 L1 => sm_CV n mX0_goOn T (sm_uI I1 53 10 a1) L1 [.ref 53, .int a2] (fun I2 L2 => sm_CI n mX8_elsewhere T I2 L2 [.ref 24, .int (I2 53 0), .int a3] (fun r4 I3 L3 => sm_CI n mJ6_bitCount_0f7a4 T I3 L3 [.int r4] (fun r6 I5 L5 => F r6 I5 L5))))) :
    sm_CI (n + 1) mX11_changedWithout T I L [.ref 0, .int a1, .int a2, .int a3] F :=
  sm_CI.of (by decide +kernel) rfl (fun x hx => show sm_V x 0 0 T I L 0 [some (.ref 0), some (.int a1), some (.int a2), some (.int a3)] [] from
  sm_aload_n (z := 0) hx dX11_changedWithout_0 rfl (sm_getR hx dX11_changedWithout_1 fl_X11_79_11 (t_0 hB) rfl (sm_aload_n (z := 0) hx dX11_changedWithout_4 rfl (sm_getR hx dX11_changedWithout_5 fl_X11_49_11 (t_0 hB) rfl (sm_callVV (args := [.ref 35]) (st := []) hx dX11_changedWithout_8 lv_X11_250_1 rfl rfl (t_53 hB) rfl rfl h (fun I1 L1 hI1 => sm_aload_n (z := 0) hx dX11_changedWithout_11 rfl (sm_getR hx dX11_changedWithout_12 fl_X11_79_11 (t_0 hB) rfl (sm_iload_n (z := a1) hx dX11_changedWithout_15 rfl (sm_putI hx dX11_changedWithout_16 fl_X11_358_1 (t_53 hB) rfl (sm_aload_n (z := 0) hx dX11_changedWithout_19 rfl (sm_getR hx dX11_changedWithout_20 fl_X11_79_11 (t_0 hB) rfl (sm_iload_n (z := a2) hx dX11_changedWithout_23 rfl (sm_callVV (args := [.int a2]) (st := []) hx dX11_changedWithout_24 lv_X11_346_1 rfl rfl (t_53 hB) rfl rfl hI1 (fun I2 L2 hI2 => sm_aload_n (z := 0) hx dX11_changedWithout_27 rfl (sm_getR hx dX11_changedWithout_28 fl_X11_42_11 (t_0 hB) rfl (sm_aload_n (z := 0) hx dX11_changedWithout_31 rfl (sm_getR hx dX11_changedWithout_32 fl_X11_79_11 (t_0 hB) rfl (sm_getI hx dX11_changedWithout_35 fl_X11_266_1 (t_53 hB) rfl (sm_iload_n (z := a3) hx dX11_changedWithout_38 rfl (sm_callVI (args := [.int (I2 53 0), .int a3]) (st := []) hx dX11_changedWithout_39 lv_X11_293_8 rfl rfl (t_24 hB) rfl rfl hI2 (fun r4 I3 L3 hI3 => sm_callSI (args := [.int r4]) (st := []) hx dX11_changedWithout_42 ls_X11_288 rfl rfl rfl hI3 (fun r6 I5 L5 hI5 => sm_iretI hx dX11_changedWithout_45 rfl hI5))))))))))))))))))))))
theorem dX11_firstOf_0 : decode cX11_firstOf 0 = .ok (.iconst 0, 1) := by decide +kernel
theorem dX11_firstOf_1 : decode cX11_firstOf 1 = .ok (.istore_n 2, 1) := by decide +kernel
theorem dX11_firstOf_2 : decode cX11_firstOf 2 = .ok (.iload_n 2, 1) := by decide +kernel
theorem dX11_firstOf_3 : decode cX11_firstOf 3 = .ok (.aload_n 0, 1) := by decide +kernel
theorem dX11_firstOf_4 : decode cX11_firstOf 4 = .ok (.invokevirtual 361, 3) := by decide +kernel
theorem dX11_firstOf_7 : decode cX11_firstOf 7 = .ok (.if_icmp .ge 20, 3) := by decide +kernel
theorem dX11_firstOf_10 : decode cX11_firstOf 10 = .ok (.aload_n 0, 1) := by decide +kernel
theorem dX11_firstOf_11 : decode cX11_firstOf 11 = .ok (.iload_n 2, 1) := by decide +kernel
theorem dX11_firstOf_12 : decode cX11_firstOf 12 = .ok (.invokevirtual 177, 3) := by decide +kernel
theorem dX11_firstOf_15 : decode cX11_firstOf 15 = .ok (.iload_n 1, 1) := by decide +kernel
theorem dX11_firstOf_16 : decode cX11_firstOf 16 = .ok (.if_icmp .ne 5, 3) := by decide +kernel
theorem dX11_firstOf_19 : decode cX11_firstOf 19 = .ok (.iload_n 2, 1) := by decide +kernel
theorem dX11_firstOf_20 : decode cX11_firstOf 20 = .ok (.ireturn, 1) := by decide +kernel
theorem dX11_firstOf_21 : decode cX11_firstOf 21 = .ok (.iinc 2 1, 3) := by decide +kernel
theorem dX11_firstOf_24 : decode cX11_firstOf 24 = .ok (.goto (-22), 3) := by decide +kernel
theorem dX11_firstOf_27 : decode cX11_firstOf 27 = .ok (.aload_n 0, 1) := by decide +kernel
theorem dX11_firstOf_28 : decode cX11_firstOf 28 = .ok (.invokevirtual 361, 3) := by decide +kernel
theorem dX11_firstOf_31 : decode cX11_firstOf 31 = .ok (.ireturn, 1) := by decide +kernel
set_option maxRecDepth 100000 in
theorem u_X11_firstOf_2 {x : sm_Cx} {n : Nat} {F : Int32 → sm_MI → sm_ML → Prop} {T : List sm_Sh} {I : sm_MI} {L : sm_ML} {a1 : Int32} {a2 : Int32} (hB : sm_Bs T) (hx : sm_Ok x mX11_firstOf (n + 1) (sm_KI T F))
    (h : sm_CI n mX3_length T I L [.ref 68] (fun r2 I1 L1 => (r2 ≤ a2 → sm_CI n mX3_length T I1 L1 [.ref 68] (fun r4 I3 L3 => F r4 I3 L3)) ∧ (¬ r2 ≤ a2 → sm_CI n mX3_at T I1 L1 [.ref 68, .int a2] (fun r6 I5 L5 => (¬ r6 = a1 → sm_V x 0 0 T I5 L5 2 [some (.ref 68), some (.int a1), some (.int (a2 + 1))] []) ∧ (r6 = a1 → F a2 I5 L5))))) :
    sm_V x 0 0 T I L 2 [some (.ref 68), some (.int a1), some (.int a2)] [] :=
  sm_iload_n (z := a2) hx dX11_firstOf_2 rfl (sm_aload_n (z := 68) hx dX11_firstOf_3 rfl (sm_callVI (args := []) (st := [.int a2]) hx dX11_firstOf_4 lv_X11_361_3 rfl rfl (t_68 hB) rfl rfl h (fun r2 I1 L1 hI1 => sm_icmpge (a := a2) (b := r2) hx dX11_firstOf_7 (tgt := 27) (by decide) (fun q2 => sm_aload_n (z := 68) hx dX11_firstOf_27 rfl (sm_callVI (args := []) (st := []) hx dX11_firstOf_28 lv_X11_361_3 rfl rfl (t_68 hB) rfl rfl (hI1.1 q2) (fun r4 I3 L3 hI3 => sm_iretI hx dX11_firstOf_31 rfl hI3))) (fun q2 => sm_aload_n (z := 68) hx dX11_firstOf_10 rfl (sm_iload_n (z := a2) hx dX11_firstOf_11 rfl (sm_callVI (args := [.int a2]) (st := []) hx dX11_firstOf_12 lv_X11_177_3 rfl rfl (t_68 hB) rfl rfl (hI1.2 q2) (fun r6 I5 L5 hI5 => sm_iload_n (z := a1) hx dX11_firstOf_15 rfl (sm_icmpne (a := r6) (b := a1) hx dX11_firstOf_16 (tgt := 21) (by decide) (fun q1 => sm_iinc (ls' := [some (.ref 68), some (.int a1), some (.int (a2 + 1))]) (z := a2) (v := (a2 + 1)) hx dX11_firstOf_21 rfl (sm_kii_1 _) (by decide) rfl (sm_goto hx dX11_firstOf_24 (tgt := 2) (by decide) ((hI5.1 q1)))) (fun q1 => sm_iload_n (z := a2) hx dX11_firstOf_19 rfl (sm_iretI hx dX11_firstOf_20 rfl (hI5.2 q1)))))))))))
set_option maxRecDepth 100000 in
theorem c_X11_firstOf {n : Nat} {F : Int32 → sm_MI → sm_ML → Prop} {T : List sm_Sh} {I : sm_MI} {L : sm_ML} {a1 : Int32} (hB : sm_Bs T)
    (h : ∀ x : sm_Cx, sm_Ok x mX11_firstOf (n + 1) (sm_KI T F) → sm_V x 0 0 T I L 2 [some (.ref 68), some (.int a1), some (.int 0)] []) :
    sm_CI (n + 1) mX11_firstOf T I L [.ref 68, .int a1] F :=
  sm_CI.of (by decide +kernel) rfl (fun x hx => show sm_V x 0 0 T I L 0 [some (.ref 68), some (.int a1), none] [] from
  sm_iconst (v := 0) hx dX11_firstOf_0 sm_kc_0 (sm_istore_n (ls' := [some (.ref 68), some (.int a1), some (.int 0)]) hx dX11_firstOf_1 (by decide) rfl ((h x hx))))
theorem dX11_within_0 : decode cX11_within 0 = .ok (.iload_n 0, 1) := by decide +kernel
theorem dX11_within_1 : decode cX11_within 1 = .ok (.iload_n 1, 1) := by decide +kernel
theorem dX11_within_2 : decode cX11_within 2 = .ok (.if_icmp .lt 12, 3) := by decide +kernel
theorem dX11_within_5 : decode cX11_within 5 = .ok (.iload_n 0, 1) := by decide +kernel
theorem dX11_within_6 : decode cX11_within 6 = .ok (.iload_n 2, 1) := by decide +kernel
theorem dX11_within_7 : decode cX11_within 7 = .ok (.if_icmp .gt 7, 3) := by decide +kernel
theorem dX11_within_10 : decode cX11_within 10 = .ok (.iconst 1, 1) := by decide +kernel
theorem dX11_within_11 : decode cX11_within 11 = .ok (.goto 4, 3) := by decide +kernel
theorem dX11_within_14 : decode cX11_within 14 = .ok (.iconst 0, 1) := by decide +kernel
theorem dX11_within_15 : decode cX11_within 15 = .ok (.ireturn, 1) := by decide +kernel
set_option maxRecDepth 100000 in
theorem c_X11_within {n : Nat} {F : Bool → sm_MI → sm_ML → Prop} {T : List sm_Sh} {I : sm_MI} {L : sm_ML} {a0 : Int32} {a1 : Int32} {a2 : Int32} (hB : sm_Bs T)
    (h : (a0 < a1 → F false I L) ∧ (¬ a0 < a1 → (a2 < a0 → F false I L) ∧ (¬ a2 < a0 → F true I L))) :
    sm_CZ n mX11_within T I L [.int a0, .int a1, .int a2] F :=
  sm_CZ.of (by decide +kernel) rfl (fun x hx => show sm_V x 0 0 T I L 0 [some (.int a0), some (.int a1), some (.int a2)] [] from
  sm_iload_n (z := a0) hx dX11_within_0 rfl (sm_iload_n (z := a1) hx dX11_within_1 rfl (sm_icmplt (a := a0) (b := a1) hx dX11_within_2 (tgt := 14) (by decide) (fun q2 => sm_iconst (v := 0) hx dX11_within_14 sm_kc_0 (sm_iretZ (z := false) hx dX11_within_15 rfl (h.1 q2))) (fun q2 => sm_iload_n (z := a0) hx dX11_within_5 rfl (sm_iload_n (z := a2) hx dX11_within_6 rfl (sm_icmpgt (a := a0) (b := a2) hx dX11_within_7 (tgt := 14) (by decide) (fun q1 => sm_iconst (v := 0) hx dX11_within_14 sm_kc_0 (sm_iretZ (z := false) hx dX11_within_15 rfl ((h.2 q2).1 q1))) (fun q1 => sm_iconst (v := 1) hx dX11_within_10 sm_kc_1 (sm_goto hx dX11_within_11 (tgt := 15) (by decide) (sm_iretZ (z := true) hx dX11_within_15 rfl ((h.2 q2).2 q1))))))))))
theorem dX11_bitOf_0 : decode cX11_bitOf 0 = .ok (.iload_n 0, 1) := by decide +kernel
theorem dX11_bitOf_1 : decode cX11_bitOf 1 = .ok (.iload_n 1, 1) := by decide +kernel
theorem dX11_bitOf_2 : decode cX11_bitOf 2 = .ok (.iushr, 1) := by decide +kernel
theorem dX11_bitOf_3 : decode cX11_bitOf 3 = .ok (.iconst 1, 1) := by decide +kernel
theorem dX11_bitOf_4 : decode cX11_bitOf 4 = .ok (.iand, 1) := by decide +kernel
theorem dX11_bitOf_5 : decode cX11_bitOf 5 = .ok (.ireturn, 1) := by decide +kernel
set_option maxRecDepth 100000 in
theorem c_X11_bitOf {n : Nat} {F : Int32 → sm_MI → sm_ML → Prop} {T : List sm_Sh} {I : sm_MI} {L : sm_ML} {a0 : Int32} {a1 : Int32} (hB : sm_Bs T)
    (h : F ((((Int32.toUInt32 a0) >>> ((Int32.toUInt32 a1) &&& Int32.toUInt32 31)).toInt32) &&& 1) I L) :
    sm_CI n mX11_bitOf T I L [.int a0, .int a1] F :=
  sm_CI.of (by decide +kernel) rfl (fun x hx => show sm_V x 0 0 T I L 0 [some (.int a0), some (.int a1)] [] from
  sm_iload_n (z := a0) hx dX11_bitOf_0 rfl (sm_iload_n (z := a1) hx dX11_bitOf_1 rfl (sm_iushr (a := a0) (b := a1) hx dX11_bitOf_2 (sm_iconst (v := 1) hx dX11_bitOf_3 sm_kc_1 (sm_iand (a := (((Int32.toUInt32 a0) >>> ((Int32.toUInt32 a1) &&& Int32.toUInt32 31)).toInt32)) (b := 1) hx dX11_bitOf_4 (sm_iretI hx dX11_bitOf_5 rfl h))))))
theorem dX11_placeIn_0 : decode cX11_placeIn 0 = .ok (.iload_n 0, 1) := by decide +kernel
theorem dX11_placeIn_1 : decode cX11_placeIn 1 = .ok (.iconst 3, 1) := by decide +kernel
theorem dX11_placeIn_2 : decode cX11_placeIn 2 = .ok (.iload_n 1, 1) := by decide +kernel
theorem dX11_placeIn_3 : decode cX11_placeIn 3 = .ok (.imul, 1) := by decide +kernel
theorem dX11_placeIn_4 : decode cX11_placeIn 4 = .ok (.iushr, 1) := by decide +kernel
theorem dX11_placeIn_5 : decode cX11_placeIn 5 = .ok (.bipush 7, 2) := by decide +kernel
theorem dX11_placeIn_7 : decode cX11_placeIn 7 = .ok (.iand, 1) := by decide +kernel
theorem dX11_placeIn_8 : decode cX11_placeIn 8 = .ok (.ireturn, 1) := by decide +kernel
set_option maxRecDepth 100000 in
theorem c_X11_placeIn {n : Nat} {F : Int32 → sm_MI → sm_ML → Prop} {T : List sm_Sh} {I : sm_MI} {L : sm_ML} {a0 : Int32} {a1 : Int32} (hB : sm_Bs T)
    (h : F ((((Int32.toUInt32 a0) >>> ((Int32.toUInt32 (3 * a1)) &&& Int32.toUInt32 31)).toInt32) &&& 7) I L) :
    sm_CI n mX11_placeIn T I L [.int a0, .int a1] F :=
  sm_CI.of (by decide +kernel) rfl (fun x hx => show sm_V x 0 0 T I L 0 [some (.int a0), some (.int a1)] [] from
  sm_iload_n (z := a0) hx dX11_placeIn_0 rfl (sm_iconst (v := 3) hx dX11_placeIn_1 sm_kc_3 (sm_iload_n (z := a1) hx dX11_placeIn_2 rfl (sm_imul (a := 3) (b := a1) hx dX11_placeIn_3 (sm_iushr (a := a0) (b := (3 * a1)) hx dX11_placeIn_4 (sm_bipush (v := 7) hx dX11_placeIn_5 sm_kb_7 (sm_iand (a := (((Int32.toUInt32 a0) >>> ((Int32.toUInt32 (3 * a1)) &&& Int32.toUInt32 31)).toInt32)) (b := 7) hx dX11_placeIn_7 (sm_iretI hx dX11_placeIn_8 rfl h))))))))
theorem dX11_placed_0 : decode cX11_placed 0 = .ok (.iload_n 0, 1) := by decide +kernel
theorem dX11_placed_1 : decode cX11_placed 1 = .ok (.bipush 7, 2) := by decide +kernel
theorem dX11_placed_3 : decode cX11_placed 3 = .ok (.iconst 3, 1) := by decide +kernel
theorem dX11_placed_4 : decode cX11_placed 4 = .ok (.iload_n 1, 1) := by decide +kernel
theorem dX11_placed_5 : decode cX11_placed 5 = .ok (.imul, 1) := by decide +kernel
theorem dX11_placed_6 : decode cX11_placed 6 = .ok (.ishl, 1) := by decide +kernel
theorem dX11_placed_7 : decode cX11_placed 7 = .ok (.iconst (-1), 1) := by decide +kernel
theorem dX11_placed_8 : decode cX11_placed 8 = .ok (.ixor, 1) := by decide +kernel
theorem dX11_placed_9 : decode cX11_placed 9 = .ok (.iand, 1) := by decide +kernel
theorem dX11_placed_10 : decode cX11_placed 10 = .ok (.iload_n 2, 1) := by decide +kernel
theorem dX11_placed_11 : decode cX11_placed 11 = .ok (.iconst 3, 1) := by decide +kernel
theorem dX11_placed_12 : decode cX11_placed 12 = .ok (.iload_n 1, 1) := by decide +kernel
theorem dX11_placed_13 : decode cX11_placed 13 = .ok (.imul, 1) := by decide +kernel
theorem dX11_placed_14 : decode cX11_placed 14 = .ok (.ishl, 1) := by decide +kernel
theorem dX11_placed_15 : decode cX11_placed 15 = .ok (.ior, 1) := by decide +kernel
theorem dX11_placed_16 : decode cX11_placed 16 = .ok (.ireturn, 1) := by decide +kernel
set_option maxRecDepth 100000 in
theorem c_X11_placed {n : Nat} {F : Int32 → sm_MI → sm_ML → Prop} {T : List sm_Sh} {I : sm_MI} {L : sm_ML} {a0 : Int32} {a1 : Int32} {a2 : Int32} (hB : sm_Bs T)
    (h : F ((a0 &&& ((7 <<< ((3 * a1) &&& 31)) ^^^ (-1))) ||| (a2 <<< ((3 * a1) &&& 31))) I L) :
    sm_CI n mX11_placed T I L [.int a0, .int a1, .int a2] F :=
  sm_CI.of (by decide +kernel) rfl (fun x hx => show sm_V x 0 0 T I L 0 [some (.int a0), some (.int a1), some (.int a2)] [] from
  sm_iload_n (z := a0) hx dX11_placed_0 rfl (sm_bipush (v := 7) hx dX11_placed_1 sm_kb_7 (sm_iconst (v := 3) hx dX11_placed_3 sm_kc_3 (sm_iload_n (z := a1) hx dX11_placed_4 rfl (sm_imul (a := 3) (b := a1) hx dX11_placed_5 (sm_ishl (a := 7) (b := (3 * a1)) hx dX11_placed_6 (sm_iconst (v := (-1)) hx dX11_placed_7 sm_kc_m1 (sm_ixor (a := (7 <<< ((3 * a1) &&& 31))) (b := (-1)) hx dX11_placed_8 (sm_iand (a := a0) (b := ((7 <<< ((3 * a1) &&& 31)) ^^^ (-1))) hx dX11_placed_9 (sm_iload_n (z := a2) hx dX11_placed_10 rfl (sm_iconst (v := 3) hx dX11_placed_11 sm_kc_3 (sm_iload_n (z := a1) hx dX11_placed_12 rfl (sm_imul (a := 3) (b := a1) hx dX11_placed_13 (sm_ishl (a := a2) (b := (3 * a1)) hx dX11_placed_14 (sm_ior (a := (a0 &&& ((7 <<< ((3 * a1) &&& 31)) ^^^ (-1)))) (b := (a2 <<< ((3 * a1) &&& 31))) hx dX11_placed_15 (sm_iretI hx dX11_placed_16 rfl h))))))))))))))))
