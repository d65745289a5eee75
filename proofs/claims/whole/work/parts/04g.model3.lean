/-! METHODS (model3), laid by program (wip/gen): what each instruction is, and between cut points what the walk asks. -/
theorem dX12_empty_0 : decode cX12_empty 0 = .ok (.aload_n 0, 1) := by decide +kernel
theorem dX12_empty_1 : decode cX12_empty 1 = .ok (.iload_n 1, 1) := by decide +kernel
theorem dX12_empty_2 : decode cX12_empty 2 = .ok (.invokevirtual 321, 3) := by decide +kernel
theorem dX12_empty_5 : decode cX12_empty 5 = .ok (.ifCond .eq 11, 3) := by decide +kernel
theorem dX12_empty_8 : decode cX12_empty 8 = .ok (.aload_n 0, 1) := by decide +kernel
theorem dX12_empty_9 : decode cX12_empty 9 = .ok (.iload_n 2, 1) := by decide +kernel
theorem dX12_empty_10 : decode cX12_empty 10 = .ok (.invokevirtual 366, 3) := by decide +kernel
theorem dX12_empty_13 : decode cX12_empty 13 = .ok (.ifCond .ne 5, 3) := by decide +kernel
theorem dX12_empty_16 : decode cX12_empty 16 = .ok (.iconst (-1), 1) := by decide +kernel
theorem dX12_empty_17 : decode cX12_empty 17 = .ok (.ireturn, 1) := by decide +kernel
theorem dX12_empty_18 : decode cX12_empty 18 = .ok (.aload_n 0, 1) := by decide +kernel
theorem dX12_empty_19 : decode cX12_empty 19 = .ok (.invokevirtual 385, 3) := by decide +kernel
theorem dX12_empty_22 : decode cX12_empty 22 = .ok (.iconst 0, 1) := by decide +kernel
theorem dX12_empty_23 : decode cX12_empty 23 = .ok (.istore_n 3, 1) := by decide +kernel
theorem dX12_empty_24 : decode cX12_empty 24 = .ok (.iconst 0, 1) := by decide +kernel
theorem dX12_empty_25 : decode cX12_empty 25 = .ok (.istore 4, 2) := by decide +kernel
theorem dX12_empty_27 : decode cX12_empty 27 = .ok (.iload 4, 2) := by decide +kernel
theorem dX12_empty_29 : decode cX12_empty 29 = .ok (.iload_n 2, 1) := by decide +kernel
theorem dX12_empty_30 : decode cX12_empty 30 = .ok (.if_icmp .ge 29, 3) := by decide +kernel
theorem dX12_empty_33 : decode cX12_empty 33 = .ok (.aload_n 0, 1) := by decide +kernel
theorem dX12_empty_34 : decode cX12_empty 34 = .ok (.invokevirtual 382, 3) := by decide +kernel
theorem dX12_empty_37 : decode cX12_empty 37 = .ok (.iload_n 3, 1) := by decide +kernel
theorem dX12_empty_38 : decode cX12_empty 38 = .ok (.aload_n 0, 1) := by decide +kernel
theorem dX12_empty_39 : decode cX12_empty 39 = .ok (.iload_n 1, 1) := by decide +kernel
theorem dX12_empty_40 : decode cX12_empty 40 = .ok (.invokevirtual 324, 3) := by decide +kernel
theorem dX12_empty_43 : decode cX12_empty 43 = .ok (.ifCond .ne 7, 3) := by decide +kernel
theorem dX12_empty_46 : decode cX12_empty 46 = .ok (.iconst 1, 1) := by decide +kernel
theorem dX12_empty_47 : decode cX12_empty 47 = .ok (.goto 4, 3) := by decide +kernel
theorem dX12_empty_50 : decode cX12_empty 50 = .ok (.iconst 0, 1) := by decide +kernel
theorem dX12_empty_51 : decode cX12_empty 51 = .ok (.iadd, 1) := by decide +kernel
theorem dX12_empty_52 : decode cX12_empty 52 = .ok (.istore_n 3, 1) := by decide +kernel
theorem dX12_empty_53 : decode cX12_empty 53 = .ok (.iinc 4 1, 3) := by decide +kernel
theorem dX12_empty_56 : decode cX12_empty 56 = .ok (.goto (-29), 3) := by decide +kernel
theorem dX12_empty_59 : decode cX12_empty 59 = .ok (.aload_n 0, 1) := by decide +kernel
theorem dX12_empty_60 : decode cX12_empty 60 = .ok (.invokevirtual 391, 3) := by decide +kernel
theorem dX12_empty_63 : decode cX12_empty 63 = .ok (.iload_n 3, 1) := by decide +kernel
theorem dX12_empty_64 : decode cX12_empty 64 = .ok (.ireturn, 1) := by decide +kernel
set_option maxRecDepth 100000 in
theorem u_X12_empty_27 {x : sm_Cx} {n : Nat} {F : Int32 → sm_MI → sm_ML → Prop} {T : List sm_Sh} {I : sm_MI} {L : sm_ML} {a1 : Int32} {a2 : Int32} {a3 : Int32} {a4 : Int32} (hB : sm_Bs T) (hx : sm_Ok x mX12_empty (n + 1) (sm_KI T F))
    (h : (a2 ≤ a4 → sm_CV n mX12_takeBack T I L [.ref 76] (fun I1 L1 => F a3 I1 L1)) ∧ (¬ a2 ≤ a4 → sm_CV n mX12_calmNight T I L [.ref 76] (fun I2 L2 => sm_CI n mX12_thingsIn T I2 L2 [.ref 76, .int a1] (fun r4 I3 L3 => (¬ r4 = 0 → sm_V x 0 0 T I3 L3 27 [some (.ref 76), some (.int a1), some (.int a2), some (.int (a3 + 0)), some (.int (a4 + 1))] []) ∧ (r4 = 0 → sm_V x 0 0 T I3 L3 27 [some (.ref 76), some (.int a1), some (.int a2), some (.int (a3 + 1)), some (.int (a4 + 1))] []))))) :
    sm_V x 0 0 T I L 27 [some (.ref 76), some (.int a1), some (.int a2), some (.int a3), some (.int a4)] [] :=
  sm_iload (z := a4) hx dX12_empty_27 rfl (sm_iload_n (z := a2) hx dX12_empty_29 rfl (sm_icmpge (a := a4) (b := a2) hx dX12_empty_30 (tgt := 59) (by decide) (fun q2 => sm_aload_n (z := 76) hx dX12_empty_59 rfl (sm_callVV (args := []) (st := []) hx dX12_empty_60 lv_X12_391_12 rfl rfl (t_76 hB) rfl rfl (h.1 q2) (fun I1 L1 hI1 => sm_iload_n (z := a3) hx dX12_empty_63 rfl (sm_iretI hx dX12_empty_64 rfl hI1)))) (fun q2 => sm_aload_n (z := 76) hx dX12_empty_33 rfl (sm_callVV (args := []) (st := []) hx dX12_empty_34 lv_X12_382_12 rfl rfl (t_76 hB) rfl rfl (h.2 q2) (fun I2 L2 hI2 => sm_iload_n (z := a3) hx dX12_empty_37 rfl (sm_aload_n (z := 76) hx dX12_empty_38 rfl (sm_iload_n (z := a1) hx dX12_empty_39 rfl (sm_callVI (args := [.int a1]) (st := [.int a3]) hx dX12_empty_40 lv_X12_324_12 rfl rfl (t_76 hB) rfl rfl hI2 (fun r4 I3 L3 hI3 => sm_ifne (a := r4) hx dX12_empty_43 (tgt := 50) (by decide) (fun q1 => sm_iconst (v := 0) hx dX12_empty_50 sm_kc_0 (sm_iadd (a := a3) (b := 0) hx dX12_empty_51 (sm_istore_n (ls' := [some (.ref 76), some (.int a1), some (.int a2), some (.int (a3 + 0)), some (.int a4)]) hx dX12_empty_52 (by decide) rfl (sm_iinc (ls' := [some (.ref 76), some (.int a1), some (.int a2), some (.int (a3 + 0)), some (.int (a4 + 1))]) (z := a4) (v := (a4 + 1)) hx dX12_empty_53 rfl (sm_kii_1 _) (by decide) rfl (sm_goto hx dX12_empty_56 (tgt := 27) (by decide) ((hI3.1 q1))))))) (fun q1 => sm_iconst (v := 1) hx dX12_empty_46 sm_kc_1 (sm_goto hx dX12_empty_47 (tgt := 51) (by decide) (sm_iadd (a := a3) (b := 1) hx dX12_empty_51 (sm_istore_n (ls' := [some (.ref 76), some (.int a1), some (.int a2), some (.int (a3 + 1)), some (.int a4)]) hx dX12_empty_52 (by decide) rfl (sm_iinc (ls' := [some (.ref 76), some (.int a1), some (.int a2), some (.int (a3 + 1)), some (.int (a4 + 1))]) (z := a4) (v := (a4 + 1)) hx dX12_empty_53 rfl (sm_kii_1 _) (by decide) rfl (sm_goto hx dX12_empty_56 (tgt := 27) (by decide) ((hI3.2 q1)))))))))))))))))
set_option maxRecDepth 100000 in
theorem c_X12_empty {n : Nat} {F : Int32 → sm_MI → sm_ML → Prop} {T : List sm_Sh} {I : sm_MI} {L : sm_ML} {a1 : Int32} {a2 : Int32} (hB : sm_Bs T)
    (h : ∀ x : sm_Cx, sm_Ok x mX12_empty (n + 1) (sm_KI T F) → sm_CZ n mX12_isHouse T I L [.ref 76, .int a1] (fun r2 I1 L1 => (r2 = false → F (-1) I1 L1) ∧ (r2 = true → sm_CZ n mX12_areNights T I1 L1 [.ref 76, .int a2] (fun r4 I3 L3 => (r4 = true → sm_CV n mX12_putAside T I3 L3 [.ref 76] (fun I5 L5 => sm_V x 0 0 T I5 L5 27 [some (.ref 76), some (.int a1), some (.int a2), some (.int 0), some (.int 0)] [])) ∧ (r4 = false → F (-1) I3 L3))))) :
    sm_CI (n + 1) mX12_empty T I L [.ref 76, .int a1, .int a2] F :=
  sm_CI.of (by decide +kernel) rfl (fun x hx => show sm_V x 0 0 T I L 0 [some (.ref 76), some (.int a1), some (.int a2), none, none] [] from
  sm_aload_n (z := 76) hx dX12_empty_0 rfl (sm_iload_n (z := a1) hx dX12_empty_1 rfl (sm_callVZ (args := [.int a1]) (st := []) hx dX12_empty_2 lv_X12_321_12 rfl rfl (t_76 hB) rfl rfl (h x hx) (fun r2 I1 L1 hI1 => sm_ifeqZ (b := r2) hx dX12_empty_5 (tgt := 16) (by decide) (fun q4 => sm_iconst (v := (-1)) hx dX12_empty_16 sm_kc_m1 (sm_iretI hx dX12_empty_17 rfl (hI1.1 q4))) (fun q4 => sm_aload_n (z := 76) hx dX12_empty_8 rfl (sm_iload_n (z := a2) hx dX12_empty_9 rfl (sm_callVZ (args := [.int a2]) (st := []) hx dX12_empty_10 lv_X12_366_12 rfl rfl (t_76 hB) rfl rfl (hI1.2 q4) (fun r4 I3 L3 hI3 => sm_ifneZ (b := r4) hx dX12_empty_13 (tgt := 18) (by decide) (fun q3 => sm_aload_n (z := 76) hx dX12_empty_18 rfl (sm_callVV (args := []) (st := []) hx dX12_empty_19 lv_X12_385_12 rfl rfl (t_76 hB) rfl rfl (hI3.1 q3) (fun I5 L5 hI5 => sm_iconst (v := 0) hx dX12_empty_22 sm_kc_0 (sm_istore_n (ls' := [some (.ref 76), some (.int a1), some (.int a2), some (.int 0), none]) hx dX12_empty_23 (by decide) rfl (sm_iconst (v := 0) hx dX12_empty_24 sm_kc_0 (sm_istore (ls' := [some (.ref 76), some (.int a1), some (.int a2), some (.int 0), some (.int 0)]) hx dX12_empty_25 (by decide) rfl (hI5))))))) (fun q3 => sm_iconst (v := (-1)) hx dX12_empty_16 sm_kc_m1 (sm_iretI hx dX12_empty_17 rfl (hI3.2 q3)))))))))))
theorem dX12_met_0 : decode cX12_met 0 = .ok (.aload_n 0, 1) := by decide +kernel
theorem dX12_met_1 : decode cX12_met 1 = .ok (.iload_n 1, 1) := by decide +kernel
theorem dX12_met_2 : decode cX12_met 2 = .ok (.invokevirtual 318, 3) := by decide +kernel
theorem dX12_met_5 : decode cX12_met 5 = .ok (.ifCond .eq 34, 3) := by decide +kernel
theorem dX12_met_8 : decode cX12_met 8 = .ok (.aload_n 0, 1) := by decide +kernel
theorem dX12_met_9 : decode cX12_met 9 = .ok (.iload_n 2, 1) := by decide +kernel
theorem dX12_met_10 : decode cX12_met 10 = .ok (.invokevirtual 318, 3) := by decide +kernel
theorem dX12_met_13 : decode cX12_met 13 = .ok (.ifCond .eq 26, 3) := by decide +kernel
theorem dX12_met_16 : decode cX12_met 16 = .ok (.iload_n 1, 1) := by decide +kernel
theorem dX12_met_17 : decode cX12_met 17 = .ok (.iload_n 2, 1) := by decide +kernel
theorem dX12_met_18 : decode cX12_met 18 = .ok (.if_icmp .eq 21, 3) := by decide +kernel
theorem dX12_met_21 : decode cX12_met 21 = .ok (.aload_n 0, 1) := by decide +kernel
theorem dX12_met_22 : decode cX12_met 22 = .ok (.iload_n 3, 1) := by decide +kernel
theorem dX12_met_23 : decode cX12_met 23 = .ok (.invokevirtual 366, 3) := by decide +kernel
theorem dX12_met_26 : decode cX12_met 26 = .ok (.ifCond .eq 13, 3) := by decide +kernel
theorem dX12_met_29 : decode cX12_met 29 = .ok (.iload 4, 2) := by decide +kernel
theorem dX12_met_31 : decode cX12_met 31 = .ok (.iconst 0, 1) := by decide +kernel
theorem dX12_met_32 : decode cX12_met 32 = .ok (.iconst 1, 1) := by decide +kernel
theorem dX12_met_33 : decode cX12_met 33 = .ok (.invokestatic 227, 3) := by decide +kernel
theorem dX12_met_36 : decode cX12_met 36 = .ok (.ifCond .ne 7, 3) := by decide +kernel
theorem dX12_met_39 : decode cX12_met 39 = .ok (.ldc_w 394, 3) := by decide +kernel
theorem dX12_met_42 : decode cX12_met 42 = .ok (.ireturn, 1) := by decide +kernel
theorem dX12_met_43 : decode cX12_met 43 = .ok (.aload_n 0, 1) := by decide +kernel
theorem dX12_met_44 : decode cX12_met 44 = .ok (.invokevirtual 385, 3) := by decide +kernel
theorem dX12_met_47 : decode cX12_met 47 = .ok (.iconst 0, 1) := by decide +kernel
theorem dX12_met_48 : decode cX12_met 48 = .ok (.istore 5, 2) := by decide +kernel
theorem dX12_met_50 : decode cX12_met 50 = .ok (.iconst (-1), 1) := by decide +kernel
theorem dX12_met_51 : decode cX12_met 51 = .ok (.istore 6, 2) := by decide +kernel
theorem dX12_met_53 : decode cX12_met 53 = .ok (.iconst 1, 1) := by decide +kernel
theorem dX12_met_54 : decode cX12_met 54 = .ok (.istore 7, 2) := by decide +kernel
theorem dX12_met_56 : decode cX12_met 56 = .ok (.iload 7, 2) := by decide +kernel
theorem dX12_met_58 : decode cX12_met 58 = .ok (.iload_n 3, 1) := by decide +kernel
theorem dX12_met_59 : decode cX12_met 59 = .ok (.if_icmp .gt 45, 3) := by decide +kernel
theorem dX12_met_62 : decode cX12_met 62 = .ok (.aload_n 0, 1) := by decide +kernel
theorem dX12_met_63 : decode cX12_met 63 = .ok (.invokevirtual 382, 3) := by decide +kernel
theorem dX12_met_66 : decode cX12_met 66 = .ok (.aload_n 0, 1) := by decide +kernel
theorem dX12_met_67 : decode cX12_met 67 = .ok (.getfield 55, 3) := by decide +kernel
theorem dX12_met_70 : decode cX12_met 70 = .ok (.iload_n 1, 1) := by decide +kernel
theorem dX12_met_71 : decode cX12_met 71 = .ok (.iaload, 1) := by decide +kernel
theorem dX12_met_72 : decode cX12_met 72 = .ok (.aload_n 0, 1) := by decide +kernel
theorem dX12_met_73 : decode cX12_met 73 = .ok (.getfield 55, 3) := by decide +kernel
theorem dX12_met_76 : decode cX12_met 76 = .ok (.iload_n 2, 1) := by decide +kernel
theorem dX12_met_77 : decode cX12_met 77 = .ok (.iaload, 1) := by decide +kernel
theorem dX12_met_78 : decode cX12_met 78 = .ok (.if_icmp .ne 20, 3) := by decide +kernel
theorem dX12_met_81 : decode cX12_met 81 = .ok (.iload 5, 2) := by decide +kernel
theorem dX12_met_83 : decode cX12_met 83 = .ok (.ifCond .ne 8, 3) := by decide +kernel
theorem dX12_met_86 : decode cX12_met 86 = .ok (.iload 7, 2) := by decide +kernel
theorem dX12_met_88 : decode cX12_met 88 = .ok (.goto 5, 3) := by decide +kernel
theorem dX12_met_91 : decode cX12_met 91 = .ok (.iload 6, 2) := by decide +kernel
theorem dX12_met_93 : decode cX12_met 93 = .ok (.istore 6, 2) := by decide +kernel
theorem dX12_met_95 : decode cX12_met 95 = .ok (.iinc 5 1, 3) := by decide +kernel
theorem dX12_met_98 : decode cX12_met 98 = .ok (.iinc 7 1, 3) := by decide +kernel
theorem dX12_met_101 : decode cX12_met 101 = .ok (.goto (-45), 3) := by decide +kernel
theorem dX12_met_104 : decode cX12_met 104 = .ok (.aload_n 0, 1) := by decide +kernel
theorem dX12_met_105 : decode cX12_met 105 = .ok (.invokevirtual 391, 3) := by decide +kernel
theorem dX12_met_108 : decode cX12_met 108 = .ok (.iload 4, 2) := by decide +kernel
theorem dX12_met_110 : decode cX12_met 110 = .ok (.ifCond .ne 8, 3) := by decide +kernel
theorem dX12_met_113 : decode cX12_met 113 = .ok (.iload 5, 2) := by decide +kernel
theorem dX12_met_115 : decode cX12_met 115 = .ok (.goto 5, 3) := by decide +kernel
theorem dX12_met_118 : decode cX12_met 118 = .ok (.iload 6, 2) := by decide +kernel
theorem dX12_met_120 : decode cX12_met 120 = .ok (.ireturn, 1) := by decide +kernel
set_option maxRecDepth 100000 in
theorem u_X12_met_56 {x : sm_Cx} {n : Nat} {F : Int32 → sm_MI → sm_ML → Prop} {T : List sm_Sh} {I : sm_MI} {L : sm_ML} {a1 : Int32} {a2 : Int32} {a3 : Int32} {a4 : Int32} {a5 : Int32} {a6 : Int32} {a7 : Int32} (hB : sm_Bs T) (hx : sm_Ok x mX12_met (n + 1) (sm_KI T F))
    (h : (a3 < a7 → sm_CV n mX12_takeBack T I L [.ref 76] (fun I1 L1 => (¬ a4 = 0 → F a6 I1 L1) ∧ (a4 = 0 → F a5 I1 L1))) ∧ (¬ a3 < a7 → sm_CV n mX12_calmNight T I L [.ref 76] (fun I2 L2 => vp_in a1 8 ∧ (vp_in a2 8 ∧ ((¬ (I2 92 (Int32.toNatClampNeg (a1))) = (I2 92 (Int32.toNatClampNeg (a2))) → sm_V x 0 0 T I2 L2 56 [some (.ref 76), some (.int a1), some (.int a2), some (.int a3), some (.int a4), some (.int a5), some (.int a6), some (.int (a7 + 1))] []) ∧ ((I2 92 (Int32.toNatClampNeg (a1))) = (I2 92 (Int32.toNatClampNeg (a2))) → (¬ a5 = 0 → sm_V x 0 0 T I2 L2 56 [some (.ref 76), some (.int a1), some (.int a2), some (.int a3), some (.int a4), some (.int (a5 + 1)), some (.int a6), some (.int (a7 + 1))] []) ∧ (a5 = 0 → sm_V x 0 0 T I2 L2 56 [some (.ref 76), some (.int a1), some (.int a2), some (.int a3), some (.int a4), some (.int (a5 + 1)), some (.int a7), some (.int (a7 + 1))] []))))))) :
    sm_V x 0 0 T I L 56 [some (.ref 76), some (.int a1), some (.int a2), some (.int a3), some (.int a4), some (.int a5), some (.int a6), some (.int a7)] [] :=
  sm_iload (z := a7) hx dX12_met_56 rfl (sm_iload_n (z := a3) hx dX12_met_58 rfl (sm_icmpgt (a := a7) (b := a3) hx dX12_met_59 (tgt := 104) (by decide) (fun q4 => sm_aload_n (z := 76) hx dX12_met_104 rfl (sm_callVV (args := []) (st := []) hx dX12_met_105 lv_X12_391_12 rfl rfl (t_76 hB) rfl rfl (h.1 q4) (fun I1 L1 hI1 => sm_iload (z := a4) hx dX12_met_108 rfl (sm_ifne (a := a4) hx dX12_met_110 (tgt := 118) (by decide) (fun q1 => sm_iload (z := a6) hx dX12_met_118 rfl (sm_iretI hx dX12_met_120 rfl (hI1.1 q1))) (fun q1 => sm_iload (z := a5) hx dX12_met_113 rfl (sm_goto hx dX12_met_115 (tgt := 120) (by decide) (sm_iretI hx dX12_met_120 rfl (hI1.2 q1)))))))) (fun q4 => sm_aload_n (z := 76) hx dX12_met_62 rfl (sm_callVV (args := []) (st := []) hx dX12_met_63 lv_X12_382_12 rfl rfl (t_76 hB) rfl rfl (h.2 q4) (fun I2 L2 hI2 => sm_aload_n (z := 76) hx dX12_met_66 rfl (sm_getR hx dX12_met_67 fl_X12_55_12 (t_76 hB) rfl (sm_iload_n (z := a1) hx dX12_met_70 rfl (sm_iald (i := a1) hx dX12_met_71 (t_92 hB) hI2.1 (sm_aload_n (z := 76) hx dX12_met_72 rfl (sm_getR hx dX12_met_73 fl_X12_55_12 (t_76 hB) rfl (sm_iload_n (z := a2) hx dX12_met_76 rfl (sm_iald (i := a2) hx dX12_met_77 (t_92 hB) hI2.2.1 (sm_icmpne (a := (I2 92 (Int32.toNatClampNeg (a1)))) (b := (I2 92 (Int32.toNatClampNeg (a2)))) hx dX12_met_78 (tgt := 98) (by decide) (fun q3 => sm_iinc (ls' := [some (.ref 76), some (.int a1), some (.int a2), some (.int a3), some (.int a4), some (.int a5), some (.int a6), some (.int (a7 + 1))]) (z := a7) (v := (a7 + 1)) hx dX12_met_98 rfl (sm_kii_1 _) (by decide) rfl (sm_goto hx dX12_met_101 (tgt := 56) (by decide) ((hI2.2.2.1 q3)))) (fun q3 => sm_iload (z := a5) hx dX12_met_81 rfl (sm_ifne (a := a5) hx dX12_met_83 (tgt := 91) (by decide) (fun q2 => sm_iload (z := a6) hx dX12_met_91 rfl (sm_istore (ls' := [some (.ref 76), some (.int a1), some (.int a2), some (.int a3), some (.int a4), some (.int a5), some (.int a6), some (.int a7)]) hx dX12_met_93 (by decide) rfl (sm_iinc (ls' := [some (.ref 76), some (.int a1), some (.int a2), some (.int a3), some (.int a4), some (.int (a5 + 1)), some (.int a6), some (.int a7)]) (z := a5) (v := (a5 + 1)) hx dX12_met_95 rfl (sm_kii_1 _) (by decide) rfl (sm_iinc (ls' := [some (.ref 76), some (.int a1), some (.int a2), some (.int a3), some (.int a4), some (.int (a5 + 1)), some (.int a6), some (.int (a7 + 1))]) (z := a7) (v := (a7 + 1)) hx dX12_met_98 rfl (sm_kii_1 _) (by decide) rfl (sm_goto hx dX12_met_101 (tgt := 56) (by decide) (((hI2.2.2.2 q3).1 q2))))))) (fun q2 => sm_iload (z := a7) hx dX12_met_86 rfl (sm_goto hx dX12_met_88 (tgt := 93) (by decide) (sm_istore (ls' := [some (.ref 76), some (.int a1), some (.int a2), some (.int a3), some (.int a4), some (.int a5), some (.int a7), some (.int a7)]) hx dX12_met_93 (by decide) rfl (sm_iinc (ls' := [some (.ref 76), some (.int a1), some (.int a2), some (.int a3), some (.int a4), some (.int (a5 + 1)), some (.int a7), some (.int a7)]) (z := a5) (v := (a5 + 1)) hx dX12_met_95 rfl (sm_kii_1 _) (by decide) rfl (sm_iinc (ls' := [some (.ref 76), some (.int a1), some (.int a2), some (.int a3), some (.int a4), some (.int (a5 + 1)), some (.int a7), some (.int (a7 + 1))]) (z := a7) (v := (a7 + 1)) hx dX12_met_98 rfl (sm_kii_1 _) (by decide) rfl (sm_goto hx dX12_met_101 (tgt := 56) (by decide) (((hI2.2.2.2 q3).2 q2)))))))))))))))))))))))
set_option maxRecDepth 100000 in
theorem c_X12_met {n : Nat} {F : Int32 → sm_MI → sm_ML → Prop} {T : List sm_Sh} {I : sm_MI} {L : sm_ML} {a1 : Int32} {a2 : Int32} {a3 : Int32} {a4 : Int32} (hB : sm_Bs T)
    (h : ∀ x : sm_Cx, sm_Ok x mX12_met (n + 1) (sm_KI T F) → sm_CZ n mX12_isThing T I L [.ref 76, .int a1] (fun r2 I1 L1 => (r2 = false → F (-1000000) I1 L1) ∧ (r2 = true → sm_CZ n mX12_isThing T I1 L1 [.ref 76, .int a2] (fun r4 I3 L3 => (r4 = false → F (-1000000) I3 L3) ∧ (r4 = true → (a1 = a2 → F (-1000000) I3 L3) ∧ (¬ a1 = a2 → sm_CZ n mX12_areNights T I3 L3 [.ref 76, .int a3] (fun r6 I5 L5 => (r6 = false → F (-1000000) I5 L5) ∧ (r6 = true → sm_CZ n mX12_in T I5 L5 [.int a4, .int 0, .int 1] (fun r8 I7 L7 => (r8 = true → sm_CV n mX12_putAside T I7 L7 [.ref 76] (fun I9 L9 => sm_V x 0 0 T I9 L9 56 [some (.ref 76), some (.int a1), some (.int a2), some (.int a3), some (.int a4), some (.int 0), some (.int (-1)), some (.int 1)] [])) ∧ (r8 = false → F (-1000000) I7 L7)))))))))) :
    sm_CI (n + 1) mX12_met T I L [.ref 76, .int a1, .int a2, .int a3, .int a4] F :=
  sm_CI.of (by decide +kernel) rfl (fun x hx => show sm_V x 0 0 T I L 0 [some (.ref 76), some (.int a1), some (.int a2), some (.int a3), some (.int a4), none, none, none] [] from
  sm_aload_n (z := 76) hx dX12_met_0 rfl (sm_iload_n (z := a1) hx dX12_met_1 rfl (sm_callVZ (args := [.int a1]) (st := []) hx dX12_met_2 lv_X12_318_12 rfl rfl (t_76 hB) rfl rfl (h x hx) (fun r2 I1 L1 hI1 => sm_ifeqZ (b := r2) hx dX12_met_5 (tgt := 39) (by decide) (fun q9 => sm_ldcw (v := (-1000000)) hx dX12_met_39 k_X12_394 (sm_iretI hx dX12_met_42 rfl (hI1.1 q9))) (fun q9 => sm_aload_n (z := 76) hx dX12_met_8 rfl (sm_iload_n (z := a2) hx dX12_met_9 rfl (sm_callVZ (args := [.int a2]) (st := []) hx dX12_met_10 lv_X12_318_12 rfl rfl (t_76 hB) rfl rfl (hI1.2 q9) (fun r4 I3 L3 hI3 => sm_ifeqZ (b := r4) hx dX12_met_13 (tgt := 39) (by decide) (fun q8 => sm_ldcw (v := (-1000000)) hx dX12_met_39 k_X12_394 (sm_iretI hx dX12_met_42 rfl (hI3.1 q8))) (fun q8 => sm_iload_n (z := a1) hx dX12_met_16 rfl (sm_iload_n (z := a2) hx dX12_met_17 rfl (sm_icmpeq (a := a1) (b := a2) hx dX12_met_18 (tgt := 39) (by decide) (fun q7 => sm_ldcw (v := (-1000000)) hx dX12_met_39 k_X12_394 (sm_iretI hx dX12_met_42 rfl ((hI3.2 q8).1 q7))) (fun q7 => sm_aload_n (z := 76) hx dX12_met_21 rfl (sm_iload_n (z := a3) hx dX12_met_22 rfl (sm_callVZ (args := [.int a3]) (st := []) hx dX12_met_23 lv_X12_366_12 rfl rfl (t_76 hB) rfl rfl ((hI3.2 q8).2 q7) (fun r6 I5 L5 hI5 => sm_ifeqZ (b := r6) hx dX12_met_26 (tgt := 39) (by decide) (fun q6 => sm_ldcw (v := (-1000000)) hx dX12_met_39 k_X12_394 (sm_iretI hx dX12_met_42 rfl (hI5.1 q6))) (fun q6 => sm_iload (z := a4) hx dX12_met_29 rfl (sm_iconst (v := 0) hx dX12_met_31 sm_kc_0 (sm_iconst (v := 1) hx dX12_met_32 sm_kc_1 (sm_callSZ (args := [.int a4, .int 0, .int 1]) (st := []) hx dX12_met_33 ls_X12_227 rfl rfl rfl (hI5.2 q6) (fun r8 I7 L7 hI7 => sm_ifneZ (b := r8) hx dX12_met_36 (tgt := 43) (by decide) (fun q5 => sm_aload_n (z := 76) hx dX12_met_43 rfl (sm_callVV (args := []) (st := []) hx dX12_met_44 lv_X12_385_12 rfl rfl (t_76 hB) rfl rfl (hI7.1 q5) (fun I9 L9 hI9 => sm_iconst (v := 0) hx dX12_met_47 sm_kc_0 (sm_istore (ls' := [some (.ref 76), some (.int a1), some (.int a2), some (.int a3), some (.int a4), some (.int 0), none, none]) hx dX12_met_48 (by decide) rfl (sm_iconst (v := (-1)) hx dX12_met_50 sm_kc_m1 (sm_istore (ls' := [some (.ref 76), some (.int a1), some (.int a2), some (.int a3), some (.int a4), some (.int 0), some (.int (-1)), none]) hx dX12_met_51 (by decide) rfl (sm_iconst (v := 1) hx dX12_met_53 sm_kc_1 (sm_istore (ls' := [some (.ref 76), some (.int a1), some (.int a2), some (.int a3), some (.int a4), some (.int 0), some (.int (-1)), some (.int 1)]) hx dX12_met_54 (by decide) rfl (hI9))))))))) (fun q5 => sm_ldcw (v := (-1000000)) hx dX12_met_39 k_X12_394 (sm_iretI hx dX12_met_42 rfl (hI7.2 q5)))))))))))))))))))))))
theorem dX12_stand_0 : decode cX12_stand 0 = .ok (.aload_n 0, 1) := by decide +kernel
theorem dX12_stand_1 : decode cX12_stand 1 = .ok (.getfield 284, 3) := by decide +kernel
theorem dX12_stand_4 : decode cX12_stand 4 = .ok (.ifCond .ne 7, 3) := by decide +kernel
theorem dX12_stand_7 : decode cX12_stand 7 = .ok (.iconst 0, 1) := by decide +kernel
theorem dX12_stand_8 : decode cX12_stand 8 = .ok (.goto 19, 3) := by decide +kernel
theorem dX12_stand_11 : decode cX12_stand 11 = .ok (.aload_n 0, 1) := by decide +kernel
theorem dX12_stand_12 : decode cX12_stand 12 = .ok (.getfield 293, 3) := by decide +kernel
theorem dX12_stand_15 : decode cX12_stand 15 = .ok (.aload_n 0, 1) := by decide +kernel
theorem dX12_stand_16 : decode cX12_stand 16 = .ok (.getfield 287, 3) := by decide +kernel
theorem dX12_stand_19 : decode cX12_stand 19 = .ok (.isub, 1) := by decide +kernel
theorem dX12_stand_20 : decode cX12_stand 20 = .ok (.aload_n 0, 1) := by decide +kernel
theorem dX12_stand_21 : decode cX12_stand 21 = .ok (.getfield 284, 3) := by decide +kernel
theorem dX12_stand_24 : decode cX12_stand 24 = .ok (.invokestatic 354, 3) := by decide +kernel
theorem dX12_stand_27 : decode cX12_stand 27 = .ok (.istore_n 1, 1) := by decide +kernel
theorem dX12_stand_28 : decode cX12_stand 28 = .ok (.iconst 0, 1) := by decide +kernel
theorem dX12_stand_29 : decode cX12_stand 29 = .ok (.istore_n 2, 1) := by decide +kernel
theorem dX12_stand_30 : decode cX12_stand 30 = .ok (.iload_n 2, 1) := by decide +kernel
theorem dX12_stand_31 : decode cX12_stand 31 = .ok (.aload_n 0, 1) := by decide +kernel
theorem dX12_stand_32 : decode cX12_stand 32 = .ok (.getfield 281, 3) := by decide +kernel
theorem dX12_stand_35 : decode cX12_stand 35 = .ok (.if_icmp .ge 21, 3) := by decide +kernel
theorem dX12_stand_38 : decode cX12_stand 38 = .ok (.bipush 8, 2) := by decide +kernel
theorem dX12_stand_40 : decode cX12_stand 40 = .ok (.iload_n 1, 1) := by decide +kernel
theorem dX12_stand_41 : decode cX12_stand 41 = .ok (.imul, 1) := by decide +kernel
theorem dX12_stand_42 : decode cX12_stand 42 = .ok (.aload_n 0, 1) := by decide +kernel
theorem dX12_stand_43 : decode cX12_stand 43 = .ok (.getfield 55, 3) := by decide +kernel
theorem dX12_stand_46 : decode cX12_stand 46 = .ok (.iload_n 2, 1) := by decide +kernel
theorem dX12_stand_47 : decode cX12_stand 47 = .ok (.iaload, 1) := by decide +kernel
theorem dX12_stand_48 : decode cX12_stand 48 = .ok (.iadd, 1) := by decide +kernel
theorem dX12_stand_49 : decode cX12_stand 49 = .ok (.istore_n 1, 1) := by decide +kernel
theorem dX12_stand_50 : decode cX12_stand 50 = .ok (.iinc 2 1, 3) := by decide +kernel
theorem dX12_stand_53 : decode cX12_stand 53 = .ok (.goto (-23), 3) := by decide +kernel
theorem dX12_stand_56 : decode cX12_stand 56 = .ok (.iload_n 1, 1) := by decide +kernel
theorem dX12_stand_57 : decode cX12_stand 57 = .ok (.ireturn, 1) := by decide +kernel
set_option maxRecDepth 100000 in
theorem u_X12_stand_30 {x : sm_Cx} {n : Nat} {F : Int32 → sm_MI → sm_ML → Prop} {T : List sm_Sh} {I : sm_MI} {L : sm_ML} {a1 : Int32} {a2 : Int32} (hB : sm_Bs T) (hx : sm_Ok x mX12_stand (n + 1) (sm_KI T F))
    (h : ((I 76 28) ≤ a2 → F a1 I L) ∧ (¬ (I 76 28) ≤ a2 → vp_in a2 8 ∧ (sm_V x 0 0 T I L 30 [some (.ref 76), some (.int ((8 * a1) + (I 92 (Int32.toNatClampNeg (a2))))), some (.int (a2 + 1))] []))) :
    sm_V x 0 0 T I L 30 [some (.ref 76), some (.int a1), some (.int a2)] [] :=
  sm_iload_n (z := a2) hx dX12_stand_30 rfl (sm_aload_n (z := 76) hx dX12_stand_31 rfl (sm_getI hx dX12_stand_32 fl_X12_281_12 (t_76 hB) rfl (sm_icmpge (a := a2) (b := (I 76 28)) hx dX12_stand_35 (tgt := 56) (by decide) (fun q1 => sm_iload_n (z := a1) hx dX12_stand_56 rfl (sm_iretI hx dX12_stand_57 rfl (h.1 q1))) (fun q1 => sm_bipush (v := 8) hx dX12_stand_38 sm_kb_8 (sm_iload_n (z := a1) hx dX12_stand_40 rfl (sm_imul (a := 8) (b := a1) hx dX12_stand_41 (sm_aload_n (z := 76) hx dX12_stand_42 rfl (sm_getR hx dX12_stand_43 fl_X12_55_12 (t_76 hB) rfl (sm_iload_n (z := a2) hx dX12_stand_46 rfl (sm_iald (i := a2) hx dX12_stand_47 (t_92 hB) (h.2 q1).1 (sm_iadd (a := (8 * a1)) (b := (I 92 (Int32.toNatClampNeg (a2)))) hx dX12_stand_48 (sm_istore_n (ls' := [some (.ref 76), some (.int ((8 * a1) + (I 92 (Int32.toNatClampNeg (a2))))), some (.int a2)]) hx dX12_stand_49 (by decide) rfl (sm_iinc (ls' := [some (.ref 76), some (.int ((8 * a1) + (I 92 (Int32.toNatClampNeg (a2))))), some (.int (a2 + 1))]) (z := a2) (v := (a2 + 1)) hx dX12_stand_50 rfl (sm_kii_1 _) (by decide) rfl (sm_goto hx dX12_stand_53 (tgt := 30) (by decide) ((h.2 q1).2)))))))))))))))
set_option maxRecDepth 100000 in
theorem c_X12_stand {n : Nat} {F : Int32 → sm_MI → sm_ML → Prop} {T : List sm_Sh} {I : sm_MI} {L : sm_ML}  (hB : sm_Bs T)
    (h : ∀ x : sm_Cx, sm_Ok x mX12_stand (n + 1) (sm_KI T F) → (¬ (I 76 29) = 0 → sm_CI n mJ9_floorMod_7cf53 T I L [.int ((I 76 34) - (I 76 30)), .int (I 76 29)] (fun r2 I1 L1 => sm_V x 0 0 T I1 L1 30 [some (.ref 76), some (.int r2), some (.int 0)] [])) ∧ ((I 76 29) = 0 → sm_V x 0 0 T I L 30 [some (.ref 76), some (.int 0), some (.int 0)] [])) :
    sm_CI (n + 1) mX12_stand T I L [.ref 76] F :=
  sm_CI.of (by decide +kernel) rfl (fun x hx => show sm_V x 0 0 T I L 0 [some (.ref 76), none, none] [] from
  sm_aload_n (z := 76) hx dX12_stand_0 rfl (sm_getI hx dX12_stand_1 fl_X12_284_12 (t_76 hB) rfl (sm_ifne (a := (I 76 29)) hx dX12_stand_4 (tgt := 11) (by decide) (fun q2 => sm_aload_n (z := 76) hx dX12_stand_11 rfl (sm_getI hx dX12_stand_12 fl_X12_293_12 (t_76 hB) rfl (sm_aload_n (z := 76) hx dX12_stand_15 rfl (sm_getI hx dX12_stand_16 fl_X12_287_12 (t_76 hB) rfl (sm_isub (a := (I 76 34)) (b := (I 76 30)) hx dX12_stand_19 (sm_aload_n (z := 76) hx dX12_stand_20 rfl (sm_getI hx dX12_stand_21 fl_X12_284_12 (t_76 hB) rfl (sm_callSI (args := [.int ((I 76 34) - (I 76 30)), .int (I 76 29)]) (st := []) hx dX12_stand_24 ls_X12_354 rfl rfl rfl ((h x hx).1 q2) (fun r2 I1 L1 hI1 => sm_istore_n (ls' := [some (.ref 76), some (.int r2), none]) hx dX12_stand_27 (by decide) rfl (sm_iconst (v := 0) hx dX12_stand_28 sm_kc_0 (sm_istore_n (ls' := [some (.ref 76), some (.int r2), some (.int 0)]) hx dX12_stand_29 (by decide) rfl (hI1)))))))))))) (fun q2 => sm_iconst (v := 0) hx dX12_stand_7 sm_kc_0 (sm_goto hx dX12_stand_8 (tgt := 27) (by decide) (sm_istore_n (ls' := [some (.ref 76), some (.int 0), none]) hx dX12_stand_27 (by decide) rfl (sm_iconst (v := 0) hx dX12_stand_28 sm_kc_0 (sm_istore_n (ls' := [some (.ref 76), some (.int 0), some (.int 0)]) hx dX12_stand_29 (by decide) rfl (((h x hx).2 q2))))))))))
theorem dX12_round_0 : decode cX12_round 0 = .ok (.aload_n 0, 1) := by decide +kernel
theorem dX12_round_1 : decode cX12_round 1 = .ok (.getfield 275, 3) := by decide +kernel
theorem dX12_round_4 : decode cX12_round 4 = .ok (.ifCond .eq 12, 3) := by decide +kernel
theorem dX12_round_7 : decode cX12_round 7 = .ok (.iload_n 1, 1) := by decide +kernel
theorem dX12_round_8 : decode cX12_round 8 = .ok (.iconst 0, 1) := by decide +kernel
theorem dX12_round_9 : decode cX12_round 9 = .ok (.iconst 1, 1) := by decide +kernel
theorem dX12_round_10 : decode cX12_round 10 = .ok (.invokestatic 227, 3) := by decide +kernel
theorem dX12_round_13 : decode cX12_round 13 = .ok (.ifCond .ne 5, 3) := by decide +kernel
theorem dX12_round_16 : decode cX12_round 16 = .ok (.iconst (-1), 1) := by decide +kernel
theorem dX12_round_17 : decode cX12_round 17 = .ok (.ireturn, 1) := by decide +kernel
theorem dX12_round_18 : decode cX12_round 18 = .ok (.aload_n 0, 1) := by decide +kernel
theorem dX12_round_19 : decode cX12_round 19 = .ok (.invokevirtual 385, 3) := by decide +kernel
theorem dX12_round_22 : decode cX12_round 22 = .ok (.iconst (-1), 1) := by decide +kernel
theorem dX12_round_23 : decode cX12_round 23 = .ok (.istore_n 2, 1) := by decide +kernel
theorem dX12_round_24 : decode cX12_round 24 = .ok (.iconst (-1), 1) := by decide +kernel
theorem dX12_round_25 : decode cX12_round 25 = .ok (.istore_n 3, 1) := by decide +kernel
theorem dX12_round_26 : decode cX12_round 26 = .ok (.iconst 0, 1) := by decide +kernel
theorem dX12_round_27 : decode cX12_round 27 = .ok (.istore 4, 2) := by decide +kernel
theorem dX12_round_29 : decode cX12_round 29 = .ok (.iload 4, 2) := by decide +kernel
theorem dX12_round_31 : decode cX12_round 31 = .ok (.sipush 200, 3) := by decide +kernel
theorem dX12_round_34 : decode cX12_round 34 = .ok (.if_icmp .gt 76, 3) := by decide +kernel
theorem dX12_round_37 : decode cX12_round 37 = .ok (.iload_n 2, 1) := by decide +kernel
theorem dX12_round_38 : decode cX12_round 38 = .ok (.iconst (-1), 1) := by decide +kernel
theorem dX12_round_39 : decode cX12_round 39 = .ok (.if_icmp .ne 71, 3) := by decide +kernel
theorem dX12_round_42 : decode cX12_round 42 = .ok (.aload_n 0, 1) := by decide +kernel
theorem dX12_round_43 : decode cX12_round 43 = .ok (.getfield 81, 3) := by decide +kernel
theorem dX12_round_46 : decode cX12_round 46 = .ok (.iload 4, 2) := by decide +kernel
theorem dX12_round_48 : decode cX12_round 48 = .ok (.aload_n 0, 1) := by decide +kernel
theorem dX12_round_49 : decode cX12_round 49 = .ok (.invokevirtual 395, 3) := by decide +kernel
theorem dX12_round_52 : decode cX12_round 52 = .ok (.iastore, 1) := by decide +kernel
theorem dX12_round_53 : decode cX12_round 53 = .ok (.iconst 0, 1) := by decide +kernel
theorem dX12_round_54 : decode cX12_round 54 = .ok (.istore 5, 2) := by decide +kernel
theorem dX12_round_56 : decode cX12_round 56 = .ok (.iload 5, 2) := by decide +kernel
theorem dX12_round_58 : decode cX12_round 58 = .ok (.iload 4, 2) := by decide +kernel
theorem dX12_round_60 : decode cX12_round 60 = .ok (.if_icmp .ge 40, 3) := by decide +kernel
theorem dX12_round_63 : decode cX12_round 63 = .ok (.iload_n 2, 1) := by decide +kernel
theorem dX12_round_64 : decode cX12_round 64 = .ok (.iconst (-1), 1) := by decide +kernel
theorem dX12_round_65 : decode cX12_round 65 = .ok (.if_icmp .ne 35, 3) := by decide +kernel
theorem dX12_round_68 : decode cX12_round 68 = .ok (.aload_n 0, 1) := by decide +kernel
theorem dX12_round_69 : decode cX12_round 69 = .ok (.getfield 81, 3) := by decide +kernel
theorem dX12_round_72 : decode cX12_round 72 = .ok (.iload 5, 2) := by decide +kernel
theorem dX12_round_74 : decode cX12_round 74 = .ok (.iaload, 1) := by decide +kernel
theorem dX12_round_75 : decode cX12_round 75 = .ok (.aload_n 0, 1) := by decide +kernel
theorem dX12_round_76 : decode cX12_round 76 = .ok (.getfield 81, 3) := by decide +kernel
theorem dX12_round_79 : decode cX12_round 79 = .ok (.iload 4, 2) := by decide +kernel
theorem dX12_round_81 : decode cX12_round 81 = .ok (.iaload, 1) := by decide +kernel
theorem dX12_round_82 : decode cX12_round 82 = .ok (.if_icmp .ne 12, 3) := by decide +kernel
theorem dX12_round_85 : decode cX12_round 85 = .ok (.iload 5, 2) := by decide +kernel
theorem dX12_round_87 : decode cX12_round 87 = .ok (.istore_n 2, 1) := by decide +kernel
theorem dX12_round_88 : decode cX12_round 88 = .ok (.iload 4, 2) := by decide +kernel
theorem dX12_round_90 : decode cX12_round 90 = .ok (.iload 5, 2) := by decide +kernel
theorem dX12_round_92 : decode cX12_round 92 = .ok (.isub, 1) := by decide +kernel
theorem dX12_round_93 : decode cX12_round 93 = .ok (.istore_n 3, 1) := by decide +kernel
theorem dX12_round_94 : decode cX12_round 94 = .ok (.iinc 5 1, 3) := by decide +kernel
theorem dX12_round_97 : decode cX12_round 97 = .ok (.goto (-41), 3) := by decide +kernel
theorem dX12_round_100 : decode cX12_round 100 = .ok (.aload_n 0, 1) := by decide +kernel
theorem dX12_round_101 : decode cX12_round 101 = .ok (.invokevirtual 382, 3) := by decide +kernel
theorem dX12_round_104 : decode cX12_round 104 = .ok (.iinc 4 1, 3) := by decide +kernel
theorem dX12_round_107 : decode cX12_round 107 = .ok (.goto (-78), 3) := by decide +kernel
theorem dX12_round_110 : decode cX12_round 110 = .ok (.aload_n 0, 1) := by decide +kernel
theorem dX12_round_111 : decode cX12_round 111 = .ok (.invokevirtual 391, 3) := by decide +kernel
theorem dX12_round_114 : decode cX12_round 114 = .ok (.iload_n 1, 1) := by decide +kernel
theorem dX12_round_115 : decode cX12_round 115 = .ok (.ifCond .ne 7, 3) := by decide +kernel
theorem dX12_round_118 : decode cX12_round 118 = .ok (.iload_n 2, 1) := by decide +kernel
theorem dX12_round_119 : decode cX12_round 119 = .ok (.goto 4, 3) := by decide +kernel
theorem dX12_round_122 : decode cX12_round 122 = .ok (.iload_n 3, 1) := by decide +kernel
theorem dX12_round_123 : decode cX12_round 123 = .ok (.ireturn, 1) := by decide +kernel
set_option maxRecDepth 100000 in
theorem u_X12_round_29 {x : sm_Cx} {n : Nat} {F : Int32 → sm_MI → sm_ML → Prop} {T : List sm_Sh} {I : sm_MI} {L : sm_ML} {a1 : Int32} {a2 : Int32} {a3 : Int32} {a4 : Int32} {u5 : Option Value} (hB : sm_Bs T) (hx : sm_Ok x mX12_round (n + 1) (sm_KI T F))
    (h : (200 < a4 → sm_CV n mX12_takeBack T I L [.ref 76] (fun I1 L1 => (¬ a1 = 0 → F a3 I1 L1) ∧ (a1 = 0 → F a2 I1 L1))) ∧ (¬ 200 < a4 → (¬ a2 = (-1) → sm_CV n mX12_takeBack T I L [.ref 76] (fun I2 L2 => (¬ a1 = 0 → F a3 I2 L2) ∧ (a1 = 0 → F a2 I2 L2))) ∧ (a2 = (-1) → sm_CI n mX12_stand T I L [.ref 76] (fun r4 I3 L3 => vp_in a4 201 ∧ (sm_V x 0 0 T (sm_uI I3 99 (Int32.toNatClampNeg (a4)) r4) L3 56 [some (.ref 76), some (.int a1), some (.int a2), some (.int a3), some (.int a4), some (.int 0)] []))))) :
    sm_V x 0 0 T I L 29 [some (.ref 76), some (.int a1), some (.int a2), some (.int a3), some (.int a4), u5] [] :=
  sm_iload (z := a4) hx dX12_round_29 rfl (sm_sipush (v := 200) hx dX12_round_31 sm_ks_200 (sm_icmpgt (a := a4) (b := 200) hx dX12_round_34 (tgt := 110) (by decide) (fun q4 => sm_aload_n (z := 76) hx dX12_round_110 rfl (sm_callVV (args := []) (st := []) hx dX12_round_111 lv_X12_391_12 rfl rfl (t_76 hB) rfl rfl (h.1 q4) (fun I1 L1 hI1 => sm_iload_n (z := a1) hx dX12_round_114 rfl (sm_ifne (a := a1) hx dX12_round_115 (tgt := 122) (by decide) (fun q1 => sm_iload_n (z := a3) hx dX12_round_122 rfl (sm_iretI hx dX12_round_123 rfl (hI1.1 q1))) (fun q1 => sm_iload_n (z := a2) hx dX12_round_118 rfl (sm_goto hx dX12_round_119 (tgt := 123) (by decide) (sm_iretI hx dX12_round_123 rfl (hI1.2 q1)))))))) (fun q4 => sm_iload_n (z := a2) hx dX12_round_37 rfl (sm_iconst (v := (-1)) hx dX12_round_38 sm_kc_m1 (sm_icmpne (a := a2) (b := (-1)) hx dX12_round_39 (tgt := 110) (by decide) (fun q3 => sm_aload_n (z := 76) hx dX12_round_110 rfl (sm_callVV (args := []) (st := []) hx dX12_round_111 lv_X12_391_12 rfl rfl (t_76 hB) rfl rfl ((h.2 q4).1 q3) (fun I2 L2 hI2 => sm_iload_n (z := a1) hx dX12_round_114 rfl (sm_ifne (a := a1) hx dX12_round_115 (tgt := 122) (by decide) (fun q2 => sm_iload_n (z := a3) hx dX12_round_122 rfl (sm_iretI hx dX12_round_123 rfl (hI2.1 q2))) (fun q2 => sm_iload_n (z := a2) hx dX12_round_118 rfl (sm_goto hx dX12_round_119 (tgt := 123) (by decide) (sm_iretI hx dX12_round_123 rfl (hI2.2 q2)))))))) (fun q3 => sm_aload_n (z := 76) hx dX12_round_42 rfl (sm_getR hx dX12_round_43 fl_X12_81_12 (t_76 hB) rfl (sm_iload (z := a4) hx dX12_round_46 rfl (sm_aload_n (z := 76) hx dX12_round_48 rfl (sm_callVI (args := []) (st := [.int a4, .ref 99]) hx dX12_round_49 lv_X12_395_12 rfl rfl (t_76 hB) rfl rfl ((h.2 q4).2 q3) (fun r4 I3 L3 hI3 => sm_iast (i := a4) (v := r4) hx dX12_round_52 (t_99 hB) hI3.1 (sm_iconst (v := 0) hx dX12_round_53 sm_kc_0 (sm_istore (ls' := [some (.ref 76), some (.int a1), some (.int a2), some (.int a3), some (.int a4), some (.int 0)]) hx dX12_round_54 (by decide) rfl (hI3.2))))))))))))))
set_option maxRecDepth 100000 in
theorem u_X12_round_56 {x : sm_Cx} {n : Nat} {F : Int32 → sm_MI → sm_ML → Prop} {T : List sm_Sh} {I : sm_MI} {L : sm_ML} {a1 : Int32} {a2 : Int32} {a3 : Int32} {a4 : Int32} {a5 : Int32} (hB : sm_Bs T) (hx : sm_Ok x mX12_round (n + 1) (sm_KI T F))
    (h : (a4 ≤ a5 → sm_CV n mX12_calmNight T I L [.ref 76] (fun I1 L1 => sm_V x 0 0 T I1 L1 29 [some (.ref 76), some (.int a1), some (.int a2), some (.int a3), some (.int (a4 + 1)), some (.int a5)] [])) ∧ (¬ a4 ≤ a5 → (¬ a2 = (-1) → sm_CV n mX12_calmNight T I L [.ref 76] (fun I2 L2 => sm_V x 0 0 T I2 L2 29 [some (.ref 76), some (.int a1), some (.int a2), some (.int a3), some (.int (a4 + 1)), some (.int a5)] [])) ∧ (a2 = (-1) → vp_in a5 201 ∧ (vp_in a4 201 ∧ ((¬ (I 99 (Int32.toNatClampNeg (a5))) = (I 99 (Int32.toNatClampNeg (a4))) → sm_V x 0 0 T I L 56 [some (.ref 76), some (.int a1), some (.int a2), some (.int a3), some (.int a4), some (.int (a5 + 1))] []) ∧ ((I 99 (Int32.toNatClampNeg (a5))) = (I 99 (Int32.toNatClampNeg (a4))) → sm_V x 0 0 T I L 56 [some (.ref 76), some (.int a1), some (.int a5), some (.int (a4 - a5)), some (.int a4), some (.int (a5 + 1))] [])))))) :
    sm_V x 0 0 T I L 56 [some (.ref 76), some (.int a1), some (.int a2), some (.int a3), some (.int a4), some (.int a5)] [] :=
  sm_iload (z := a5) hx dX12_round_56 rfl (sm_iload (z := a4) hx dX12_round_58 rfl (sm_icmpge (a := a5) (b := a4) hx dX12_round_60 (tgt := 100) (by decide) (fun q7 => sm_aload_n (z := 76) hx dX12_round_100 rfl (sm_callVV (args := []) (st := []) hx dX12_round_101 lv_X12_382_12 rfl rfl (t_76 hB) rfl rfl (h.1 q7) (fun I1 L1 hI1 => sm_iinc (ls' := [some (.ref 76), some (.int a1), some (.int a2), some (.int a3), some (.int (a4 + 1)), some (.int a5)]) (z := a4) (v := (a4 + 1)) hx dX12_round_104 rfl (sm_kii_1 _) (by decide) rfl (sm_goto hx dX12_round_107 (tgt := 29) (by decide) (hI1))))) (fun q7 => sm_iload_n (z := a2) hx dX12_round_63 rfl (sm_iconst (v := (-1)) hx dX12_round_64 sm_kc_m1 (sm_icmpne (a := a2) (b := (-1)) hx dX12_round_65 (tgt := 100) (by decide) (fun q6 => sm_aload_n (z := 76) hx dX12_round_100 rfl (sm_callVV (args := []) (st := []) hx dX12_round_101 lv_X12_382_12 rfl rfl (t_76 hB) rfl rfl ((h.2 q7).1 q6) (fun I2 L2 hI2 => sm_iinc (ls' := [some (.ref 76), some (.int a1), some (.int a2), some (.int a3), some (.int (a4 + 1)), some (.int a5)]) (z := a4) (v := (a4 + 1)) hx dX12_round_104 rfl (sm_kii_1 _) (by decide) rfl (sm_goto hx dX12_round_107 (tgt := 29) (by decide) (hI2))))) (fun q6 => sm_aload_n (z := 76) hx dX12_round_68 rfl (sm_getR hx dX12_round_69 fl_X12_81_12 (t_76 hB) rfl (sm_iload (z := a5) hx dX12_round_72 rfl (sm_iald (i := a5) hx dX12_round_74 (t_99 hB) ((h.2 q7).2 q6).1 (sm_aload_n (z := 76) hx dX12_round_75 rfl (sm_getR hx dX12_round_76 fl_X12_81_12 (t_76 hB) rfl (sm_iload (z := a4) hx dX12_round_79 rfl (sm_iald (i := a4) hx dX12_round_81 (t_99 hB) ((h.2 q7).2 q6).2.1 (sm_icmpne (a := (I 99 (Int32.toNatClampNeg (a5)))) (b := (I 99 (Int32.toNatClampNeg (a4)))) hx dX12_round_82 (tgt := 94) (by decide) (fun q5 => sm_iinc (ls' := [some (.ref 76), some (.int a1), some (.int a2), some (.int a3), some (.int a4), some (.int (a5 + 1))]) (z := a5) (v := (a5 + 1)) hx dX12_round_94 rfl (sm_kii_1 _) (by decide) rfl (sm_goto hx dX12_round_97 (tgt := 56) (by decide) ((((h.2 q7).2 q6).2.2.1 q5)))) (fun q5 => sm_iload (z := a5) hx dX12_round_85 rfl (sm_istore_n (ls' := [some (.ref 76), some (.int a1), some (.int a5), some (.int a3), some (.int a4), some (.int a5)]) hx dX12_round_87 (by decide) rfl (sm_iload (z := a4) hx dX12_round_88 rfl (sm_iload (z := a5) hx dX12_round_90 rfl (sm_isub (a := a4) (b := a5) hx dX12_round_92 (sm_istore_n (ls' := [some (.ref 76), some (.int a1), some (.int a5), some (.int (a4 - a5)), some (.int a4), some (.int a5)]) hx dX12_round_93 (by decide) rfl (sm_iinc (ls' := [some (.ref 76), some (.int a1), some (.int a5), some (.int (a4 - a5)), some (.int a4), some (.int (a5 + 1))]) (z := a5) (v := (a5 + 1)) hx dX12_round_94 rfl (sm_kii_1 _) (by decide) rfl (sm_goto hx dX12_round_97 (tgt := 56) (by decide) ((((h.2 q7).2 q6).2.2.2 q5))))))))))))))))))))))))
set_option maxRecDepth 100000 in
theorem c_X12_round {n : Nat} {F : Int32 → sm_MI → sm_ML → Prop} {T : List sm_Sh} {I : sm_MI} {L : sm_ML} {a1 : Int32} (hB : sm_Bs T)
    (h : ∀ x : sm_Cx, sm_Ok x mX12_round (n + 1) (sm_KI T F) → ((I 76 26) = 0 → F (-1) I L) ∧ (¬ (I 76 26) = 0 → sm_CZ n mX12_in T I L [.int a1, .int 0, .int 1] (fun r2 I1 L1 => (r2 = true → sm_CV n mX12_putAside T I1 L1 [.ref 76] (fun I3 L3 => sm_V x 0 0 T I3 L3 29 [some (.ref 76), some (.int a1), some (.int (-1)), some (.int (-1)), some (.int 0), none] [])) ∧ (r2 = false → F (-1) I1 L1)))) :
    sm_CI (n + 1) mX12_round T I L [.ref 76, .int a1] F :=
  sm_CI.of (by decide +kernel) rfl (fun x hx => show sm_V x 0 0 T I L 0 [some (.ref 76), some (.int a1), none, none, none, none] [] from
  sm_aload_n (z := 76) hx dX12_round_0 rfl (sm_getI hx dX12_round_1 fl_X12_275_12 (t_76 hB) rfl (sm_ifeq (a := (I 76 26)) hx dX12_round_4 (tgt := 16) (by decide) (fun q9 => sm_iconst (v := (-1)) hx dX12_round_16 sm_kc_m1 (sm_iretI hx dX12_round_17 rfl ((h x hx).1 q9))) (fun q9 => sm_iload_n (z := a1) hx dX12_round_7 rfl (sm_iconst (v := 0) hx dX12_round_8 sm_kc_0 (sm_iconst (v := 1) hx dX12_round_9 sm_kc_1 (sm_callSZ (args := [.int a1, .int 0, .int 1]) (st := []) hx dX12_round_10 ls_X12_227 rfl rfl rfl ((h x hx).2 q9) (fun r2 I1 L1 hI1 => sm_ifneZ (b := r2) hx dX12_round_13 (tgt := 18) (by decide) (fun q8 => sm_aload_n (z := 76) hx dX12_round_18 rfl (sm_callVV (args := []) (st := []) hx dX12_round_19 lv_X12_385_12 rfl rfl (t_76 hB) rfl rfl (hI1.1 q8) (fun I3 L3 hI3 => sm_iconst (v := (-1)) hx dX12_round_22 sm_kc_m1 (sm_istore_n (ls' := [some (.ref 76), some (.int a1), some (.int (-1)), none, none, none]) hx dX12_round_23 (by decide) rfl (sm_iconst (v := (-1)) hx dX12_round_24 sm_kc_m1 (sm_istore_n (ls' := [some (.ref 76), some (.int a1), some (.int (-1)), some (.int (-1)), none, none]) hx dX12_round_25 (by decide) rfl (sm_iconst (v := 0) hx dX12_round_26 sm_kc_0 (sm_istore (ls' := [some (.ref 76), some (.int a1), some (.int (-1)), some (.int (-1)), some (.int 0), none]) hx dX12_round_27 (by decide) rfl (hI3))))))))) (fun q8 => sm_iconst (v := (-1)) hx dX12_round_16 sm_kc_m1 (sm_iretI hx dX12_round_17 rfl (hI1.2 q8)))))))))))
theorem dX12_see_0 : decode cX12_see 0 = .ok (.aload_n 0, 1) := by decide +kernel
theorem dX12_see_1 : decode cX12_see 1 = .ok (.iload_n 1, 1) := by decide +kernel
theorem dX12_see_2 : decode cX12_see 2 = .ok (.invokevirtual 318, 3) := by decide +kernel
theorem dX12_see_5 : decode cX12_see 5 = .ok (.ifCond .eq 30, 3) := by decide +kernel
theorem dX12_see_8 : decode cX12_see 8 = .ok (.aload_n 0, 1) := by decide +kernel
theorem dX12_see_9 : decode cX12_see 9 = .ok (.iload_n 3, 1) := by decide +kernel
theorem dX12_see_10 : decode cX12_see 10 = .ok (.invokevirtual 321, 3) := by decide +kernel
theorem dX12_see_13 : decode cX12_see 13 = .ok (.ifCond .eq 22, 3) := by decide +kernel
theorem dX12_see_16 : decode cX12_see 16 = .ok (.iload_n 2, 1) := by decide +kernel
theorem dX12_see_17 : decode cX12_see 17 = .ok (.iconst 1, 1) := by decide +kernel
theorem dX12_see_18 : decode cX12_see 18 = .ok (.bipush 30, 2) := by decide +kernel
theorem dX12_see_20 : decode cX12_see 20 = .ok (.invokestatic 227, 3) := by decide +kernel
theorem dX12_see_23 : decode cX12_see 23 = .ok (.ifCond .eq 12, 3) := by decide +kernel
theorem dX12_see_26 : decode cX12_see 26 = .ok (.aload_n 0, 1) := by decide +kernel
theorem dX12_see_27 : decode cX12_see 27 = .ok (.getfield 299, 3) := by decide +kernel
theorem dX12_see_30 : decode cX12_see 30 = .ok (.bipush 20, 2) := by decide +kernel
theorem dX12_see_32 : decode cX12_see 32 = .ok (.if_icmp .ne 5, 3) := by decide +kernel
theorem dX12_see_35 : decode cX12_see 35 = .ok (.iconst (-1), 1) := by decide +kernel
theorem dX12_see_36 : decode cX12_see 36 = .ok (.ireturn, 1) := by decide +kernel
theorem dX12_see_37 : decode cX12_see 37 = .ok (.aload_n 0, 1) := by decide +kernel
theorem dX12_see_38 : decode cX12_see 38 = .ok (.getfield 84, 3) := by decide +kernel
theorem dX12_see_41 : decode cX12_see 41 = .ok (.aload_n 0, 1) := by decide +kernel
theorem dX12_see_42 : decode cX12_see 42 = .ok (.getfield 299, 3) := by decide +kernel
theorem dX12_see_45 : decode cX12_see 45 = .ok (.iload_n 1, 1) := by decide +kernel
theorem dX12_see_46 : decode cX12_see 46 = .ok (.iastore, 1) := by decide +kernel
theorem dX12_see_47 : decode cX12_see 47 = .ok (.aload_n 0, 1) := by decide +kernel
theorem dX12_see_48 : decode cX12_see 48 = .ok (.getfield 87, 3) := by decide +kernel
theorem dX12_see_51 : decode cX12_see 51 = .ok (.aload_n 0, 1) := by decide +kernel
theorem dX12_see_52 : decode cX12_see 52 = .ok (.getfield 299, 3) := by decide +kernel
theorem dX12_see_55 : decode cX12_see 55 = .ok (.iload_n 2, 1) := by decide +kernel
theorem dX12_see_56 : decode cX12_see 56 = .ok (.iastore, 1) := by decide +kernel
theorem dX12_see_57 : decode cX12_see 57 = .ok (.aload_n 0, 1) := by decide +kernel
theorem dX12_see_58 : decode cX12_see 58 = .ok (.getfield 90, 3) := by decide +kernel
theorem dX12_see_61 : decode cX12_see 61 = .ok (.aload_n 0, 1) := by decide +kernel
theorem dX12_see_62 : decode cX12_see 62 = .ok (.getfield 299, 3) := by decide +kernel
theorem dX12_see_65 : decode cX12_see 65 = .ok (.iload_n 3, 1) := by decide +kernel
theorem dX12_see_66 : decode cX12_see 66 = .ok (.iastore, 1) := by decide +kernel
theorem dX12_see_67 : decode cX12_see 67 = .ok (.aload_n 0, 1) := by decide +kernel
theorem dX12_see_68 : decode cX12_see 68 = .ok (.getfield 93, 3) := by decide +kernel
theorem dX12_see_71 : decode cX12_see 71 = .ok (.aload_n 0, 1) := by decide +kernel
theorem dX12_see_72 : decode cX12_see 72 = .ok (.getfield 299, 3) := by decide +kernel
theorem dX12_see_75 : decode cX12_see 75 = .ok (.iload 4, 2) := by decide +kernel
theorem dX12_see_77 : decode cX12_see 77 = .ok (.bastore, 1) := by decide +kernel
theorem dX12_see_78 : decode cX12_see 78 = .ok (.aload_n 0, 1) := by decide +kernel
theorem dX12_see_79 : decode cX12_see 79 = .ok (.dup, 1) := by decide +kernel
theorem dX12_see_80 : decode cX12_see 80 = .ok (.getfield 299, 3) := by decide +kernel
theorem dX12_see_83 : decode cX12_see 83 = .ok (.iconst 1, 1) := by decide +kernel
theorem dX12_see_84 : decode cX12_see 84 = .ok (.iadd, 1) := by decide +kernel
theorem dX12_see_85 : decode cX12_see 85 = .ok (.putfield 299, 3) := by decide +kernel
theorem dX12_see_88 : decode cX12_see 88 = .ok (.aload_n 0, 1) := by decide +kernel
theorem dX12_see_89 : decode cX12_see 89 = .ok (.getfield 299, 3) := by decide +kernel
theorem dX12_see_92 : decode cX12_see 92 = .ok (.ireturn, 1) := by decide +kernel
set_option maxRecDepth 100000 in
theorem c_X12_see {n : Nat} {F : Int32 → sm_MI → sm_ML → Prop} {T : List sm_Sh} {I : sm_MI} {L : sm_ML} {a1 : Int32} {a2 : Int32} {a3 : Int32} {b4 : Bool} (hB : sm_Bs T)
    (h : sm_CZ n mX12_isThing T I L [.ref 76, .int a1] (fun r2 I1 L1 => (r2 = false → F (-1) I1 L1) ∧ (r2 = true → sm_CZ n mX12_isHouse T I1 L1 [.ref 76, .int a3] (fun r4 I3 L3 => (r4 = false → F (-1) I3 L3) ∧ (r4 = true → sm_CZ n mX12_in T I3 L3 [.int a2, .int 1, .int 30] (fun r6 I5 L5 => (r6 = false → F (-1) I5 L5) ∧ (r6 = true → (¬ (I5 76 51) = 20 → vp_in (I5 76 51) 20 ∧ (∀ I7 : sm_MI, I7 = (sm_uI I5 100 (Int32.toNatClampNeg ((I5 76 51))) a1) → vp_in (I7 76 51) 20 ∧ (∀ I8 : sm_MI, I8 = (sm_uI I7 101 (Int32.toNatClampNeg ((I7 76 51))) a2) → vp_in (I8 76 51) 20 ∧ (∀ I9 : sm_MI, I9 = (sm_uI I8 102 (Int32.toNatClampNeg ((I8 76 51))) a3) → vp_in (I9 76 51) 20 ∧ (∀ I10 : sm_MI, I10 = (sm_uI I9 103 (Int32.toNatClampNeg ((I9 76 51))) (sm_z b4)) → ∀ I11 : sm_MI, I11 = (sm_uI I10 76 51 ((I10 76 51) + 1)) → F (I11 76 51) I11 L5))))) ∧ ((I5 76 51) = 20 → F (-1) I5 L5)))))))) :
    sm_CI (n + 1) mX12_see T I L [.ref 76, .int a1, .int a2, .int a3, .int (sm_z b4)] F :=
  sm_CI.of (by decide +kernel) rfl (fun x hx => show sm_V x 0 0 T I L 0 [some (.ref 76), some (.int a1), some (.int a2), some (.int a3), some (.int (sm_z b4))] [] from
  sm_aload_n (z := 76) hx dX12_see_0 rfl (sm_iload_n (z := a1) hx dX12_see_1 rfl (sm_callVZ (args := [.int a1]) (st := []) hx dX12_see_2 lv_X12_318_12 rfl rfl (t_76 hB) rfl rfl h (fun r2 I1 L1 hI1 => sm_ifeqZ (b := r2) hx dX12_see_5 (tgt := 35) (by decide) (fun q4 => sm_iconst (v := (-1)) hx dX12_see_35 sm_kc_m1 (sm_iretI hx dX12_see_36 rfl (hI1.1 q4))) (fun q4 => sm_aload_n (z := 76) hx dX12_see_8 rfl (sm_iload_n (z := a3) hx dX12_see_9 rfl (sm_callVZ (args := [.int a3]) (st := []) hx dX12_see_10 lv_X12_321_12 rfl rfl (t_76 hB) rfl rfl (hI1.2 q4) (fun r4 I3 L3 hI3 => sm_ifeqZ (b := r4) hx dX12_see_13 (tgt := 35) (by decide) (fun q3 => sm_iconst (v := (-1)) hx dX12_see_35 sm_kc_m1 (sm_iretI hx dX12_see_36 rfl (hI3.1 q3))) (fun q3 => sm_iload_n (z := a2) hx dX12_see_16 rfl (sm_iconst (v := 1) hx dX12_see_17 sm_kc_1 (sm_bipush (v := 30) hx dX12_see_18 sm_kb_30 (sm_callSZ (args := [.int a2, .int 1, .int 30]) (st := []) hx dX12_see_20 ls_X12_227 rfl rfl rfl (hI3.2 q3) (fun r6 I5 L5 hI5 => sm_ifeqZ (b := r6) hx dX12_see_23 (tgt := 35) (by decide) (fun q2 => sm_iconst (v := (-1)) hx dX12_see_35 sm_kc_m1 (sm_iretI hx dX12_see_36 rfl (hI5.1 q2))) (fun q2 => sm_aload_n (z := 76) hx dX12_see_26 rfl (sm_getI hx dX12_see_27 fl_X12_299_12 (t_76 hB) rfl (sm_bipush (v := 20) hx dX12_see_30 sm_kb_20 (sm_icmpne (a := (I5 76 51)) (b := 20) hx dX12_see_32 (tgt := 37) (by decide) (fun q1 => sm_aload_n (z := 76) hx dX12_see_37 rfl (sm_getR hx dX12_see_38 fl_X12_84_12 (t_76 hB) rfl (sm_aload_n (z := 76) hx dX12_see_41 rfl (sm_getI hx dX12_see_42 fl_X12_299_12 (t_76 hB) rfl (sm_iload_n (z := a1) hx dX12_see_45 rfl (sm_iast (i := (I5 76 51)) (v := a1) hx dX12_see_46 (t_100 hB) ((hI5.2 q2).1 q1).1 (sm_aload_n (z := 76) hx dX12_see_47 rfl (sm_getR hx dX12_see_48 fl_X12_87_12 (t_76 hB) rfl (sm_aload_n (z := 76) hx dX12_see_51 rfl (sm_getI hx dX12_see_52 fl_X12_299_12 (t_76 hB) rfl (sm_iload_n (z := a2) hx dX12_see_55 rfl (sm_iast (i := ((sm_uI I5 100 (Int32.toNatClampNeg ((I5 76 51))) a1) 76 51)) (v := a2) hx dX12_see_56 (t_101 hB) (((hI5.2 q2).1 q1).2 _ rfl).1 (sm_aload_n (z := 76) hx dX12_see_57 rfl (sm_getR hx dX12_see_58 fl_X12_90_12 (t_76 hB) rfl (sm_aload_n (z := 76) hx dX12_see_61 rfl (sm_getI hx dX12_see_62 fl_X12_299_12 (t_76 hB) rfl (sm_iload_n (z := a3) hx dX12_see_65 rfl (sm_iast (i := ((sm_uI (sm_uI I5 100 (Int32.toNatClampNeg ((I5 76 51))) a1) 101 (Int32.toNatClampNeg (((sm_uI I5 100 (Int32.toNatClampNeg ((I5 76 51))) a1) 76 51))) a2) 76 51)) (v := a3) hx dX12_see_66 (t_102 hB) ((((hI5.2 q2).1 q1).2 _ rfl).2 _ rfl).1 (sm_aload_n (z := 76) hx dX12_see_67 rfl (sm_getR hx dX12_see_68 fl_X12_93_12 (t_76 hB) rfl (sm_aload_n (z := 76) hx dX12_see_71 rfl (sm_getI hx dX12_see_72 fl_X12_299_12 (t_76 hB) rfl (sm_iload (z := (sm_z b4)) hx dX12_see_75 rfl (sm_bast (i := ((sm_uI (sm_uI (sm_uI I5 100 (Int32.toNatClampNeg ((I5 76 51))) a1) 101 (Int32.toNatClampNeg (((sm_uI I5 100 (Int32.toNatClampNeg ((I5 76 51))) a1) 76 51))) a2) 102 (Int32.toNatClampNeg (((sm_uI (sm_uI I5 100 (Int32.toNatClampNeg ((I5 76 51))) a1) 101 (Int32.toNatClampNeg (((sm_uI I5 100 (Int32.toNatClampNeg ((I5 76 51))) a1) 76 51))) a2) 76 51))) a3) 76 51)) (b := b4) hx dX12_see_77 (t_103 hB) (((((hI5.2 q2).1 q1).2 _ rfl).2 _ rfl).2 _ rfl).1 (sm_aload_n (z := 76) hx dX12_see_78 rfl (sm_dup hx dX12_see_79 rfl (sm_getI hx dX12_see_80 fl_X12_299_12 (t_76 hB) rfl (sm_iconst (v := 1) hx dX12_see_83 sm_kc_1 (sm_iadd (a := ((sm_uI (sm_uI (sm_uI (sm_uI I5 100 (Int32.toNatClampNeg ((I5 76 51))) a1) 101 (Int32.toNatClampNeg (((sm_uI I5 100 (Int32.toNatClampNeg ((I5 76 51))) a1) 76 51))) a2) 102 (Int32.toNatClampNeg (((sm_uI (sm_uI I5 100 (Int32.toNatClampNeg ((I5 76 51))) a1) 101 (Int32.toNatClampNeg (((sm_uI I5 100 (Int32.toNatClampNeg ((I5 76 51))) a1) 76 51))) a2) 76 51))) a3) 103 (Int32.toNatClampNeg (((sm_uI (sm_uI (sm_uI I5 100 (Int32.toNatClampNeg ((I5 76 51))) a1) 101 (Int32.toNatClampNeg (((sm_uI I5 100 (Int32.toNatClampNeg ((I5 76 51))) a1) 76 51))) a2) 102 (Int32.toNatClampNeg (((sm_uI (sm_uI I5 100 (Int32.toNatClampNeg ((I5 76 51))) a1) 101 (Int32.toNatClampNeg (((sm_uI I5 100 (Int32.toNatClampNeg ((I5 76 51))) a1) 76 51))) a2) 76 51))) a3) 76 51))) (sm_z b4)) 76 51)) (b := 1) hx dX12_see_84 (sm_putI hx dX12_see_85 fl_X12_299_12 (t_76 hB) rfl (sm_aload_n (z := 76) hx dX12_see_88 rfl (sm_getI hx dX12_see_89 fl_X12_299_12 (t_76 hB) rfl (sm_iretI hx dX12_see_92 rfl (((((((hI5.2 q2).1 q1).2 _ rfl).2 _ rfl).2 _ rfl).2 _ rfl) _ rfl)))))))))))))))))))))))))))))))))) (fun q1 => sm_iconst (v := (-1)) hx dX12_see_35 sm_kc_m1 (sm_iretI hx dX12_see_36 rfl ((hI5.2 q2).2 q1))))))))))))))))))))
theorem dX12_agrees_0 : decode cX12_agrees 0 = .ok (.aload_n 0, 1) := by decide +kernel
theorem dX12_agrees_1 : decode cX12_agrees 1 = .ok (.invokevirtual 385, 3) := by decide +kernel
theorem dX12_agrees_4 : decode cX12_agrees 4 = .ok (.iconst 1, 1) := by decide +kernel
theorem dX12_agrees_5 : decode cX12_agrees 5 = .ok (.istore_n 1, 1) := by decide +kernel
theorem dX12_agrees_6 : decode cX12_agrees 6 = .ok (.iconst 1, 1) := by decide +kernel
theorem dX12_agrees_7 : decode cX12_agrees 7 = .ok (.istore_n 2, 1) := by decide +kernel
theorem dX12_agrees_8 : decode cX12_agrees 8 = .ok (.iload_n 2, 1) := by decide +kernel
theorem dX12_agrees_9 : decode cX12_agrees 9 = .ok (.bipush 30, 2) := by decide +kernel
theorem dX12_agrees_11 : decode cX12_agrees 11 = .ok (.if_icmp .gt 87, 3) := by decide +kernel
theorem dX12_agrees_14 : decode cX12_agrees 14 = .ok (.iload_n 1, 1) := by decide +kernel
theorem dX12_agrees_15 : decode cX12_agrees 15 = .ok (.ifCond .eq 83, 3) := by decide +kernel
theorem dX12_agrees_18 : decode cX12_agrees 18 = .ok (.aload_n 0, 1) := by decide +kernel
theorem dX12_agrees_19 : decode cX12_agrees 19 = .ok (.invokevirtual 382, 3) := by decide +kernel
theorem dX12_agrees_22 : decode cX12_agrees 22 = .ok (.iconst 0, 1) := by decide +kernel
theorem dX12_agrees_23 : decode cX12_agrees 23 = .ok (.istore_n 3, 1) := by decide +kernel
theorem dX12_agrees_24 : decode cX12_agrees 24 = .ok (.iload_n 3, 1) := by decide +kernel
theorem dX12_agrees_25 : decode cX12_agrees 25 = .ok (.aload_n 0, 1) := by decide +kernel
theorem dX12_agrees_26 : decode cX12_agrees 26 = .ok (.getfield 299, 3) := by decide +kernel
theorem dX12_agrees_29 : decode cX12_agrees 29 = .ok (.if_icmp .ge 63, 3) := by decide +kernel
theorem dX12_agrees_32 : decode cX12_agrees 32 = .ok (.iload_n 1, 1) := by decide +kernel
theorem dX12_agrees_33 : decode cX12_agrees 33 = .ok (.ifCond .eq 51, 3) := by decide +kernel
theorem dX12_agrees_36 : decode cX12_agrees 36 = .ok (.aload_n 0, 1) := by decide +kernel
theorem dX12_agrees_37 : decode cX12_agrees 37 = .ok (.getfield 87, 3) := by decide +kernel
theorem dX12_agrees_40 : decode cX12_agrees 40 = .ok (.iload_n 3, 1) := by decide +kernel
theorem dX12_agrees_41 : decode cX12_agrees 41 = .ok (.iaload, 1) := by decide +kernel
theorem dX12_agrees_42 : decode cX12_agrees 42 = .ok (.iload_n 2, 1) := by decide +kernel
theorem dX12_agrees_43 : decode cX12_agrees 43 = .ok (.if_icmp .ne 37, 3) := by decide +kernel
theorem dX12_agrees_46 : decode cX12_agrees 46 = .ok (.aload_n 0, 1) := by decide +kernel
theorem dX12_agrees_47 : decode cX12_agrees 47 = .ok (.getfield 55, 3) := by decide +kernel
theorem dX12_agrees_50 : decode cX12_agrees 50 = .ok (.aload_n 0, 1) := by decide +kernel
theorem dX12_agrees_51 : decode cX12_agrees 51 = .ok (.getfield 84, 3) := by decide +kernel
theorem dX12_agrees_54 : decode cX12_agrees 54 = .ok (.iload_n 3, 1) := by decide +kernel
theorem dX12_agrees_55 : decode cX12_agrees 55 = .ok (.iaload, 1) := by decide +kernel
theorem dX12_agrees_56 : decode cX12_agrees 56 = .ok (.iaload, 1) := by decide +kernel
theorem dX12_agrees_57 : decode cX12_agrees 57 = .ok (.aload_n 0, 1) := by decide +kernel
theorem dX12_agrees_58 : decode cX12_agrees 58 = .ok (.getfield 90, 3) := by decide +kernel
theorem dX12_agrees_61 : decode cX12_agrees 61 = .ok (.iload_n 3, 1) := by decide +kernel
theorem dX12_agrees_62 : decode cX12_agrees 62 = .ok (.iaload, 1) := by decide +kernel
theorem dX12_agrees_63 : decode cX12_agrees 63 = .ok (.if_icmp .ne 7, 3) := by decide +kernel
theorem dX12_agrees_66 : decode cX12_agrees 66 = .ok (.iconst 1, 1) := by decide +kernel
theorem dX12_agrees_67 : decode cX12_agrees 67 = .ok (.goto 4, 3) := by decide +kernel
theorem dX12_agrees_70 : decode cX12_agrees 70 = .ok (.iconst 0, 1) := by decide +kernel
theorem dX12_agrees_71 : decode cX12_agrees 71 = .ok (.aload_n 0, 1) := by decide +kernel
theorem dX12_agrees_72 : decode cX12_agrees 72 = .ok (.getfield 93, 3) := by decide +kernel
theorem dX12_agrees_75 : decode cX12_agrees 75 = .ok (.iload_n 3, 1) := by decide +kernel
theorem dX12_agrees_76 : decode cX12_agrees 76 = .ok (.baload, 1) := by decide +kernel
theorem dX12_agrees_77 : decode cX12_agrees 77 = .ok (.if_icmp .ne 7, 3) := by decide +kernel
theorem dX12_agrees_80 : decode cX12_agrees 80 = .ok (.iconst 1, 1) := by decide +kernel
theorem dX12_agrees_81 : decode cX12_agrees 81 = .ok (.goto 4, 3) := by decide +kernel
theorem dX12_agrees_84 : decode cX12_agrees 84 = .ok (.iconst 0, 1) := by decide +kernel
theorem dX12_agrees_85 : decode cX12_agrees 85 = .ok (.istore_n 1, 1) := by decide +kernel
theorem dX12_agrees_86 : decode cX12_agrees 86 = .ok (.iinc 3 1, 3) := by decide +kernel
theorem dX12_agrees_89 : decode cX12_agrees 89 = .ok (.goto (-65), 3) := by decide +kernel
theorem dX12_agrees_92 : decode cX12_agrees 92 = .ok (.iinc 2 1, 3) := by decide +kernel
theorem dX12_agrees_95 : decode cX12_agrees 95 = .ok (.goto (-87), 3) := by decide +kernel
theorem dX12_agrees_98 : decode cX12_agrees 98 = .ok (.aload_n 0, 1) := by decide +kernel
theorem dX12_agrees_99 : decode cX12_agrees 99 = .ok (.invokevirtual 391, 3) := by decide +kernel
theorem dX12_agrees_102 : decode cX12_agrees 102 = .ok (.iload_n 1, 1) := by decide +kernel
theorem dX12_agrees_103 : decode cX12_agrees 103 = .ok (.ireturn, 1) := by decide +kernel
set_option maxRecDepth 100000 in
theorem u_X12_agrees_8 {x : sm_Cx} {n : Nat} {F : Bool → sm_MI → sm_ML → Prop} {T : List sm_Sh} {I : sm_MI} {L : sm_ML} {b1 : Bool} {a2 : Int32} {u3 : Option Value} (hB : sm_Bs T) (hx : sm_Ok x mX12_agrees (n + 1) (sm_KZ T F))
    (h : (30 < a2 → sm_CV n mX12_takeBack T I L [.ref 76] (fun I1 L1 => F b1 I1 L1)) ∧ (¬ 30 < a2 → (b1 = false → sm_CV n mX12_takeBack T I L [.ref 76] (fun I2 L2 => F b1 I2 L2)) ∧ (b1 = true → sm_CV n mX12_calmNight T I L [.ref 76] (fun I3 L3 => sm_V x 0 0 T I3 L3 24 [some (.ref 76), some (.int (sm_z b1)), some (.int a2), some (.int 0)] [])))) :
    sm_V x 0 0 T I L 8 [some (.ref 76), some (.int (sm_z b1)), some (.int a2), u3] [] :=
  sm_iload_n (z := a2) hx dX12_agrees_8 rfl (sm_bipush (v := 30) hx dX12_agrees_9 sm_kb_30 (sm_icmpgt (a := a2) (b := 30) hx dX12_agrees_11 (tgt := 98) (by decide) (fun q2 => sm_aload_n (z := 76) hx dX12_agrees_98 rfl (sm_callVV (args := []) (st := []) hx dX12_agrees_99 lv_X12_391_12 rfl rfl (t_76 hB) rfl rfl (h.1 q2) (fun I1 L1 hI1 => sm_iload_n (z := (sm_z b1)) hx dX12_agrees_102 rfl (sm_iretZ (z := b1) hx dX12_agrees_103 rfl hI1)))) (fun q2 => sm_iload_n (z := (sm_z b1)) hx dX12_agrees_14 rfl (sm_ifeqZ (b := b1) hx dX12_agrees_15 (tgt := 98) (by decide) (fun q1 => sm_aload_n (z := 76) hx dX12_agrees_98 rfl (sm_callVV (args := []) (st := []) hx dX12_agrees_99 lv_X12_391_12 rfl rfl (t_76 hB) rfl rfl ((h.2 q2).1 q1) (fun I2 L2 hI2 => sm_iload_n (z := (sm_z b1)) hx dX12_agrees_102 rfl (sm_iretZ (z := b1) hx dX12_agrees_103 rfl hI2)))) (fun q1 => sm_aload_n (z := 76) hx dX12_agrees_18 rfl (sm_callVV (args := []) (st := []) hx dX12_agrees_19 lv_X12_382_12 rfl rfl (t_76 hB) rfl rfl ((h.2 q2).2 q1) (fun I3 L3 hI3 => sm_iconst (v := 0) hx dX12_agrees_22 sm_kc_0 (sm_istore_n (ls' := [some (.ref 76), some (.int (sm_z b1)), some (.int a2), some (.int 0)]) hx dX12_agrees_23 (by decide) rfl (hI3)))))))))
set_option maxRecDepth 100000 in
theorem u_X12_agrees_24 {x : sm_Cx} {n : Nat} {F : Bool → sm_MI → sm_ML → Prop} {T : List sm_Sh} {I : sm_MI} {L : sm_ML} {b1 : Bool} {a2 : Int32} {a3 : Int32} (hB : sm_Bs T) (hx : sm_Ok x mX12_agrees (n + 1) (sm_KZ T F))
    (h : ((I 76 51) ≤ a3 → sm_V x 0 0 T I L 8 [some (.ref 76), some (.int (sm_z b1)), some (.int (a2 + 1)), some (.int a3)] []) ∧ (¬ (I 76 51) ≤ a3 → (b1 = false → sm_V x 0 0 T I L 24 [some (.ref 76), some (.int (sm_z false)), some (.int a2), some (.int (a3 + 1))] []) ∧ (b1 = true → vp_in a3 20 ∧ ((¬ (I 101 (Int32.toNatClampNeg (a3))) = a2 → sm_V x 0 0 T I L 24 [some (.ref 76), some (.int (sm_z true)), some (.int a2), some (.int (a3 + 1))] []) ∧ ((I 101 (Int32.toNatClampNeg (a3))) = a2 → vp_in a3 20 ∧ (vp_in (I 100 (Int32.toNatClampNeg (a3))) 8 ∧ (vp_in a3 20 ∧ ((¬ (I 92 (Int32.toNatClampNeg ((I 100 (Int32.toNatClampNeg (a3)))))) = (I 102 (Int32.toNatClampNeg (a3))) → vp_in a3 20 ∧ ((¬ 0 = (I 103 (Int32.toNatClampNeg (a3))) → sm_V x 0 0 T I L 24 [some (.ref 76), some (.int (sm_z false)), some (.int a2), some (.int (a3 + 1))] []) ∧ (0 = (I 103 (Int32.toNatClampNeg (a3))) → sm_V x 0 0 T I L 24 [some (.ref 76), some (.int (sm_z true)), some (.int a2), some (.int (a3 + 1))] []))) ∧ ((I 92 (Int32.toNatClampNeg ((I 100 (Int32.toNatClampNeg (a3)))))) = (I 102 (Int32.toNatClampNeg (a3))) → vp_in a3 20 ∧ ((¬ 1 = (I 103 (Int32.toNatClampNeg (a3))) → sm_V x 0 0 T I L 24 [some (.ref 76), some (.int (sm_z false)), some (.int a2), some (.int (a3 + 1))] []) ∧ (1 = (I 103 (Int32.toNatClampNeg (a3))) → sm_V x 0 0 T I L 24 [some (.ref 76), some (.int (sm_z true)), some (.int a2), some (.int (a3 + 1))] []))))))))))) :
    sm_V x 0 0 T I L 24 [some (.ref 76), some (.int (sm_z b1)), some (.int a2), some (.int a3)] [] :=
  sm_iload_n (z := a3) hx dX12_agrees_24 rfl (sm_aload_n (z := 76) hx dX12_agrees_25 rfl (sm_getI hx dX12_agrees_26 fl_X12_299_12 (t_76 hB) rfl (sm_icmpge (a := a3) (b := (I 76 51)) hx dX12_agrees_29 (tgt := 92) (by decide) (fun q8 => sm_iinc (ls' := [some (.ref 76), some (.int (sm_z b1)), some (.int (a2 + 1)), some (.int a3)]) (z := a2) (v := (a2 + 1)) hx dX12_agrees_92 rfl (sm_kii_1 _) (by decide) rfl (sm_goto hx dX12_agrees_95 (tgt := 8) (by decide) ((h.1 q8)))) (fun q8 => sm_iload_n (z := (sm_z b1)) hx dX12_agrees_32 rfl (sm_ifeqZ (b := b1) hx dX12_agrees_33 (tgt := 84) (by decide) (fun q7 => sm_iconst (v := 0) hx dX12_agrees_84 sm_kc_0 (sm_istore_n (ls' := [some (.ref 76), some (.int 0), some (.int a2), some (.int a3)]) hx dX12_agrees_85 (by decide) rfl (sm_iinc (ls' := [some (.ref 76), some (.int 0), some (.int a2), some (.int (a3 + 1))]) (z := a3) (v := (a3 + 1)) hx dX12_agrees_86 rfl (sm_kii_1 _) (by decide) rfl (sm_goto hx dX12_agrees_89 (tgt := 24) (by decide) (((h.2 q8).1 q7)))))) (fun q7 => sm_aload_n (z := 76) hx dX12_agrees_36 rfl (sm_getR hx dX12_agrees_37 fl_X12_87_12 (t_76 hB) rfl (sm_iload_n (z := a3) hx dX12_agrees_40 rfl (sm_iald (i := a3) hx dX12_agrees_41 (t_101 hB) ((h.2 q8).2 q7).1 (sm_iload_n (z := a2) hx dX12_agrees_42 rfl (sm_icmpne (a := (I 101 (Int32.toNatClampNeg (a3)))) (b := a2) hx dX12_agrees_43 (tgt := 80) (by decide) (fun q6 => sm_iconst (v := 1) hx dX12_agrees_80 sm_kc_1 (sm_goto hx dX12_agrees_81 (tgt := 85) (by decide) (sm_istore_n (ls' := [some (.ref 76), some (.int 1), some (.int a2), some (.int a3)]) hx dX12_agrees_85 (by decide) rfl (sm_iinc (ls' := [some (.ref 76), some (.int 1), some (.int a2), some (.int (a3 + 1))]) (z := a3) (v := (a3 + 1)) hx dX12_agrees_86 rfl (sm_kii_1 _) (by decide) rfl (sm_goto hx dX12_agrees_89 (tgt := 24) (by decide) ((((h.2 q8).2 q7).2.1 q6))))))) (fun q6 => sm_aload_n (z := 76) hx dX12_agrees_46 rfl (sm_getR hx dX12_agrees_47 fl_X12_55_12 (t_76 hB) rfl (sm_aload_n (z := 76) hx dX12_agrees_50 rfl (sm_getR hx dX12_agrees_51 fl_X12_84_12 (t_76 hB) rfl (sm_iload_n (z := a3) hx dX12_agrees_54 rfl (sm_iald (i := a3) hx dX12_agrees_55 (t_100 hB) (((h.2 q8).2 q7).2.2 q6).1 (sm_iald (i := (I 100 (Int32.toNatClampNeg (a3)))) hx dX12_agrees_56 (t_92 hB) (((h.2 q8).2 q7).2.2 q6).2.1 (sm_aload_n (z := 76) hx dX12_agrees_57 rfl (sm_getR hx dX12_agrees_58 fl_X12_90_12 (t_76 hB) rfl (sm_iload_n (z := a3) hx dX12_agrees_61 rfl (sm_iald (i := a3) hx dX12_agrees_62 (t_102 hB) (((h.2 q8).2 q7).2.2 q6).2.2.1 (sm_icmpne (a := (I 92 (Int32.toNatClampNeg ((I 100 (Int32.toNatClampNeg (a3))))))) (b := (I 102 (Int32.toNatClampNeg (a3)))) hx dX12_agrees_63 (tgt := 70) (by decide) (fun q5 => sm_iconst (v := 0) hx dX12_agrees_70 sm_kc_0 (sm_aload_n (z := 76) hx dX12_agrees_71 rfl (sm_getR hx dX12_agrees_72 fl_X12_93_12 (t_76 hB) rfl (sm_iload_n (z := a3) hx dX12_agrees_75 rfl (sm_bald (i := a3) hx dX12_agrees_76 (t_103 hB) ((((h.2 q8).2 q7).2.2 q6).2.2.2.1 q5).1 (sm_icmpne (a := 0) (b := (I 103 (Int32.toNatClampNeg (a3)))) hx dX12_agrees_77 (tgt := 84) (by decide) (fun q3 => sm_iconst (v := 0) hx dX12_agrees_84 sm_kc_0 (sm_istore_n (ls' := [some (.ref 76), some (.int 0), some (.int a2), some (.int a3)]) hx dX12_agrees_85 (by decide) rfl (sm_iinc (ls' := [some (.ref 76), some (.int 0), some (.int a2), some (.int (a3 + 1))]) (z := a3) (v := (a3 + 1)) hx dX12_agrees_86 rfl (sm_kii_1 _) (by decide) rfl (sm_goto hx dX12_agrees_89 (tgt := 24) (by decide) ((((((h.2 q8).2 q7).2.2 q6).2.2.2.1 q5).2.1 q3)))))) (fun q3 => sm_iconst (v := 1) hx dX12_agrees_80 sm_kc_1 (sm_goto hx dX12_agrees_81 (tgt := 85) (by decide) (sm_istore_n (ls' := [some (.ref 76), some (.int 1), some (.int a2), some (.int a3)]) hx dX12_agrees_85 (by decide) rfl (sm_iinc (ls' := [some (.ref 76), some (.int 1), some (.int a2), some (.int (a3 + 1))]) (z := a3) (v := (a3 + 1)) hx dX12_agrees_86 rfl (sm_kii_1 _) (by decide) rfl (sm_goto hx dX12_agrees_89 (tgt := 24) (by decide) ((((((h.2 q8).2 q7).2.2 q6).2.2.2.1 q5).2.2 q3))))))))))))) (fun q5 => sm_iconst (v := 1) hx dX12_agrees_66 sm_kc_1 (sm_goto hx dX12_agrees_67 (tgt := 71) (by decide) (sm_aload_n (z := 76) hx dX12_agrees_71 rfl (sm_getR hx dX12_agrees_72 fl_X12_93_12 (t_76 hB) rfl (sm_iload_n (z := a3) hx dX12_agrees_75 rfl (sm_bald (i := a3) hx dX12_agrees_76 (t_103 hB) ((((h.2 q8).2 q7).2.2 q6).2.2.2.2 q5).1 (sm_icmpne (a := 1) (b := (I 103 (Int32.toNatClampNeg (a3)))) hx dX12_agrees_77 (tgt := 84) (by decide) (fun q4 => sm_iconst (v := 0) hx dX12_agrees_84 sm_kc_0 (sm_istore_n (ls' := [some (.ref 76), some (.int 0), some (.int a2), some (.int a3)]) hx dX12_agrees_85 (by decide) rfl (sm_iinc (ls' := [some (.ref 76), some (.int 0), some (.int a2), some (.int (a3 + 1))]) (z := a3) (v := (a3 + 1)) hx dX12_agrees_86 rfl (sm_kii_1 _) (by decide) rfl (sm_goto hx dX12_agrees_89 (tgt := 24) (by decide) ((((((h.2 q8).2 q7).2.2 q6).2.2.2.2 q5).2.1 q4)))))) (fun q4 => sm_iconst (v := 1) hx dX12_agrees_80 sm_kc_1 (sm_goto hx dX12_agrees_81 (tgt := 85) (by decide) (sm_istore_n (ls' := [some (.ref 76), some (.int 1), some (.int a2), some (.int a3)]) hx dX12_agrees_85 (by decide) rfl (sm_iinc (ls' := [some (.ref 76), some (.int 1), some (.int a2), some (.int (a3 + 1))]) (z := a3) (v := (a3 + 1)) hx dX12_agrees_86 rfl (sm_kii_1 _) (by decide) rfl (sm_goto hx dX12_agrees_89 (tgt := 24) (by decide) ((((((h.2 q8).2 q7).2.2 q6).2.2.2.2 q5).2.2 q4)))))))))))))))))))))))))))))))))))))
set_option maxRecDepth 100000 in
theorem c_X12_agrees {n : Nat} {F : Bool → sm_MI → sm_ML → Prop} {T : List sm_Sh} {I : sm_MI} {L : sm_ML}  (hB : sm_Bs T)
    (h : ∀ x : sm_Cx, sm_Ok x mX12_agrees (n + 1) (sm_KZ T F) → sm_CV n mX12_putAside T I L [.ref 76] (fun I1 L1 => sm_V x 0 0 T I1 L1 8 [some (.ref 76), some (.int (sm_z true)), some (.int 1), none] [])) :
    sm_CZ (n + 1) mX12_agrees T I L [.ref 76] F :=
  sm_CZ.of (by decide +kernel) rfl (fun x hx => show sm_V x 0 0 T I L 0 [some (.ref 76), none, none, none] [] from
  sm_aload_n (z := 76) hx dX12_agrees_0 rfl (sm_callVV (args := []) (st := []) hx dX12_agrees_1 lv_X12_385_12 rfl rfl (t_76 hB) rfl rfl (h x hx) (fun I1 L1 hI1 => sm_iconst (v := 1) hx dX12_agrees_4 sm_kc_1 (sm_istore_n (ls' := [some (.ref 76), some (.int 1), none, none]) hx dX12_agrees_5 (by decide) rfl (sm_iconst (v := 1) hx dX12_agrees_6 sm_kc_1 (sm_istore_n (ls' := [some (.ref 76), some (.int 1), some (.int 1), none]) hx dX12_agrees_7 (by decide) rfl (hI1)))))))
theorem dX12_fitsOf_0 : decode cX12_fitsOf 0 = .ok (.iconst 0, 1) := by decide +kernel
theorem dX12_fitsOf_1 : decode cX12_fitsOf 1 = .ok (.istore_n 2, 1) := by decide +kernel
theorem dX12_fitsOf_2 : decode cX12_fitsOf 2 = .ok (.iconst 0, 1) := by decide +kernel
theorem dX12_fitsOf_3 : decode cX12_fitsOf 3 = .ok (.istore_n 3, 1) := by decide +kernel
theorem dX12_fitsOf_4 : decode cX12_fitsOf 4 = .ok (.iload_n 3, 1) := by decide +kernel
theorem dX12_fitsOf_5 : decode cX12_fitsOf 5 = .ok (.aload_n 0, 1) := by decide +kernel
theorem dX12_fitsOf_6 : decode cX12_fitsOf 6 = .ok (.getfield 275, 3) := by decide +kernel
theorem dX12_fitsOf_9 : decode cX12_fitsOf 9 = .ok (.if_icmp .ge 33, 3) := by decide +kernel
theorem dX12_fitsOf_12 : decode cX12_fitsOf 12 = .ok (.aload_n 0, 1) := by decide +kernel
theorem dX12_fitsOf_13 : decode cX12_fitsOf 13 = .ok (.getfield 58, 3) := by decide +kernel
theorem dX12_fitsOf_16 : decode cX12_fitsOf 16 = .ok (.iload_n 1, 1) := by decide +kernel
theorem dX12_fitsOf_17 : decode cX12_fitsOf 17 = .ok (.iload_n 3, 1) := by decide +kernel
theorem dX12_fitsOf_18 : decode cX12_fitsOf 18 = .ok (.iastore, 1) := by decide +kernel
theorem dX12_fitsOf_19 : decode cX12_fitsOf 19 = .ok (.iload_n 2, 1) := by decide +kernel
theorem dX12_fitsOf_20 : decode cX12_fitsOf 20 = .ok (.aload_n 0, 1) := by decide +kernel
theorem dX12_fitsOf_21 : decode cX12_fitsOf 21 = .ok (.invokevirtual 398, 3) := by decide +kernel
theorem dX12_fitsOf_24 : decode cX12_fitsOf 24 = .ok (.ifCond .eq 9, 3) := by decide +kernel
theorem dX12_fitsOf_27 : decode cX12_fitsOf 27 = .ok (.iconst 1, 1) := by decide +kernel
theorem dX12_fitsOf_28 : decode cX12_fitsOf 28 = .ok (.iload_n 3, 1) := by decide +kernel
theorem dX12_fitsOf_29 : decode cX12_fitsOf 29 = .ok (.ishl, 1) := by decide +kernel
theorem dX12_fitsOf_30 : decode cX12_fitsOf 30 = .ok (.goto 4, 3) := by decide +kernel
theorem dX12_fitsOf_33 : decode cX12_fitsOf 33 = .ok (.iconst 0, 1) := by decide +kernel
theorem dX12_fitsOf_34 : decode cX12_fitsOf 34 = .ok (.ior, 1) := by decide +kernel
theorem dX12_fitsOf_35 : decode cX12_fitsOf 35 = .ok (.istore_n 2, 1) := by decide +kernel
theorem dX12_fitsOf_36 : decode cX12_fitsOf 36 = .ok (.iinc 3 1, 3) := by decide +kernel
theorem dX12_fitsOf_39 : decode cX12_fitsOf 39 = .ok (.goto (-35), 3) := by decide +kernel
theorem dX12_fitsOf_42 : decode cX12_fitsOf 42 = .ok (.aload_n 0, 1) := by decide +kernel
theorem dX12_fitsOf_43 : decode cX12_fitsOf 43 = .ok (.getfield 58, 3) := by decide +kernel
theorem dX12_fitsOf_46 : decode cX12_fitsOf 46 = .ok (.iload_n 1, 1) := by decide +kernel
theorem dX12_fitsOf_47 : decode cX12_fitsOf 47 = .ok (.iconst (-1), 1) := by decide +kernel
theorem dX12_fitsOf_48 : decode cX12_fitsOf 48 = .ok (.iastore, 1) := by decide +kernel
theorem dX12_fitsOf_49 : decode cX12_fitsOf 49 = .ok (.iload_n 2, 1) := by decide +kernel
theorem dX12_fitsOf_50 : decode cX12_fitsOf 50 = .ok (.ireturn, 1) := by decide +kernel
set_option maxRecDepth 100000 in
theorem u_X12_fitsOf_4 {x : sm_Cx} {n : Nat} {F : Int32 → sm_MI → sm_ML → Prop} {T : List sm_Sh} {I : sm_MI} {L : sm_ML} {a1 : Int32} {a2 : Int32} {a3 : Int32} (hB : sm_Bs T) (hx : sm_Ok x mX12_fitsOf (n + 1) (sm_KI T F))
    (h : ((I 76 26) ≤ a3 → vp_in a1 5 ∧ (F a2 (sm_uI I 93 (Int32.toNatClampNeg (a1)) (-1)) L)) ∧ (¬ (I 76 26) ≤ a3 → vp_in a1 5 ∧ (sm_CZ n mX12_agrees T (sm_uI I 93 (Int32.toNatClampNeg (a1)) a3) L [.ref 76] (fun r2 I1 L1 => (r2 = false → sm_V x 0 0 T I1 L1 4 [some (.ref 76), some (.int a1), some (.int (a2 ||| 0)), some (.int (a3 + 1))] []) ∧ (r2 = true → sm_V x 0 0 T I1 L1 4 [some (.ref 76), some (.int a1), some (.int (a2 ||| (1 <<< (a3 &&& 31)))), some (.int (a3 + 1))] []))))) :
    sm_V x 0 0 T I L 4 [some (.ref 76), some (.int a1), some (.int a2), some (.int a3)] [] :=
  sm_iload_n (z := a3) hx dX12_fitsOf_4 rfl (sm_aload_n (z := 76) hx dX12_fitsOf_5 rfl (sm_getI hx dX12_fitsOf_6 fl_X12_275_12 (t_76 hB) rfl (sm_icmpge (a := a3) (b := (I 76 26)) hx dX12_fitsOf_9 (tgt := 42) (by decide) (fun q2 => sm_aload_n (z := 76) hx dX12_fitsOf_42 rfl (sm_getR hx dX12_fitsOf_43 fl_X12_58_12 (t_76 hB) rfl (sm_iload_n (z := a1) hx dX12_fitsOf_46 rfl (sm_iconst (v := (-1)) hx dX12_fitsOf_47 sm_kc_m1 (sm_iast (i := a1) (v := (-1)) hx dX12_fitsOf_48 (t_93 hB) (h.1 q2).1 (sm_iload_n (z := a2) hx dX12_fitsOf_49 rfl (sm_iretI hx dX12_fitsOf_50 rfl (h.1 q2).2))))))) (fun q2 => sm_aload_n (z := 76) hx dX12_fitsOf_12 rfl (sm_getR hx dX12_fitsOf_13 fl_X12_58_12 (t_76 hB) rfl (sm_iload_n (z := a1) hx dX12_fitsOf_16 rfl (sm_iload_n (z := a3) hx dX12_fitsOf_17 rfl (sm_iast (i := a1) (v := a3) hx dX12_fitsOf_18 (t_93 hB) (h.2 q2).1 (sm_iload_n (z := a2) hx dX12_fitsOf_19 rfl (sm_aload_n (z := 76) hx dX12_fitsOf_20 rfl (sm_callVZ (args := []) (st := [.int a2]) hx dX12_fitsOf_21 lv_X12_398_12 rfl rfl (t_76 hB) rfl rfl (h.2 q2).2 (fun r2 I1 L1 hI1 => sm_ifeqZ (b := r2) hx dX12_fitsOf_24 (tgt := 33) (by decide) (fun q1 => sm_iconst (v := 0) hx dX12_fitsOf_33 sm_kc_0 (sm_ior (a := a2) (b := 0) hx dX12_fitsOf_34 (sm_istore_n (ls' := [some (.ref 76), some (.int a1), some (.int (a2 ||| 0)), some (.int a3)]) hx dX12_fitsOf_35 (by decide) rfl (sm_iinc (ls' := [some (.ref 76), some (.int a1), some (.int (a2 ||| 0)), some (.int (a3 + 1))]) (z := a3) (v := (a3 + 1)) hx dX12_fitsOf_36 rfl (sm_kii_1 _) (by decide) rfl (sm_goto hx dX12_fitsOf_39 (tgt := 4) (by decide) ((hI1.1 q1))))))) (fun q1 => sm_iconst (v := 1) hx dX12_fitsOf_27 sm_kc_1 (sm_iload_n (z := a3) hx dX12_fitsOf_28 rfl (sm_ishl (a := 1) (b := a3) hx dX12_fitsOf_29 (sm_goto hx dX12_fitsOf_30 (tgt := 34) (by decide) (sm_ior (a := a2) (b := (1 <<< (a3 &&& 31))) hx dX12_fitsOf_34 (sm_istore_n (ls' := [some (.ref 76), some (.int a1), some (.int (a2 ||| (1 <<< (a3 &&& 31)))), some (.int a3)]) hx dX12_fitsOf_35 (by decide) rfl (sm_iinc (ls' := [some (.ref 76), some (.int a1), some (.int (a2 ||| (1 <<< (a3 &&& 31)))), some (.int (a3 + 1))]) (z := a3) (v := (a3 + 1)) hx dX12_fitsOf_36 rfl (sm_kii_1 _) (by decide) rfl (sm_goto hx dX12_fitsOf_39 (tgt := 4) (by decide) ((hI1.2 q1))))))))))))))))))))))
set_option maxRecDepth 100000 in
theorem c_X12_fitsOf {n : Nat} {F : Int32 → sm_MI → sm_ML → Prop} {T : List sm_Sh} {I : sm_MI} {L : sm_ML} {a1 : Int32} (hB : sm_Bs T)
    (h : ∀ x : sm_Cx, sm_Ok x mX12_fitsOf (n + 1) (sm_KI T F) → sm_V x 0 0 T I L 4 [some (.ref 76), some (.int a1), some (.int 0), some (.int 0)] []) :
    sm_CI (n + 1) mX12_fitsOf T I L [.ref 76, .int a1] F :=
  sm_CI.of (by decide +kernel) rfl (fun x hx => show sm_V x 0 0 T I L 0 [some (.ref 76), some (.int a1), none, none] [] from
  sm_iconst (v := 0) hx dX12_fitsOf_0 sm_kc_0 (sm_istore_n (ls' := [some (.ref 76), some (.int a1), some (.int 0), none]) hx dX12_fitsOf_1 (by decide) rfl (sm_iconst (v := 0) hx dX12_fitsOf_2 sm_kc_0 (sm_istore_n (ls' := [some (.ref 76), some (.int a1), some (.int 0), some (.int 0)]) hx dX12_fitsOf_3 (by decide) rfl ((h x hx))))))
theorem dX12_fits_0 : decode cX12_fits 0 = .ok (.aload_n 0, 1) := by decide +kernel
theorem dX12_fits_1 : decode cX12_fits 1 = .ok (.iload_n 1, 1) := by decide +kernel
theorem dX12_fits_2 : decode cX12_fits 2 = .ok (.invokevirtual 312, 3) := by decide +kernel
theorem dX12_fits_5 : decode cX12_fits 5 = .ok (.ifCond .eq 11, 3) := by decide +kernel
theorem dX12_fits_8 : decode cX12_fits 8 = .ok (.aload_n 0, 1) := by decide +kernel
theorem dX12_fits_9 : decode cX12_fits 9 = .ok (.iload_n 1, 1) := by decide +kernel
theorem dX12_fits_10 : decode cX12_fits 10 = .ok (.invokevirtual 402, 3) := by decide +kernel
theorem dX12_fits_13 : decode cX12_fits 13 = .ok (.goto 4, 3) := by decide +kernel
theorem dX12_fits_16 : decode cX12_fits 16 = .ok (.iconst (-1), 1) := by decide +kernel
theorem dX12_fits_17 : decode cX12_fits 17 = .ok (.ireturn, 1) := by decide +kernel
set_option maxRecDepth 100000 in
theorem c_X12_fits {n : Nat} {F : Int32 → sm_MI → sm_ML → Prop} {T : List sm_Sh} {I : sm_MI} {L : sm_ML} {a1 : Int32} (hB : sm_Bs T)
    (h : sm_CZ n mX12_isSleeper T I L [.ref 76, .int a1] (fun r2 I1 L1 => (r2 = false → F (-1) I1 L1) ∧ (r2 = true → sm_CI n mX12_fitsOf T I1 L1 [.ref 76, .int a1] (fun r4 I3 L3 => F r4 I3 L3)))) :
    sm_CI (n + 1) mX12_fits T I L [.ref 76, .int a1] F :=
  sm_CI.of (by decide +kernel) rfl (fun x hx => show sm_V x 0 0 T I L 0 [some (.ref 76), some (.int a1)] [] from
  sm_aload_n (z := 76) hx dX12_fits_0 rfl (sm_iload_n (z := a1) hx dX12_fits_1 rfl (sm_callVZ (args := [.int a1]) (st := []) hx dX12_fits_2 lv_X12_312_12 rfl rfl (t_76 hB) rfl rfl h (fun r2 I1 L1 hI1 => sm_ifeqZ (b := r2) hx dX12_fits_5 (tgt := 16) (by decide) (fun q1 => sm_iconst (v := (-1)) hx dX12_fits_16 sm_kc_m1 (sm_iretI hx dX12_fits_17 rfl (hI1.1 q1))) (fun q1 => sm_aload_n (z := 76) hx dX12_fits_8 rfl (sm_iload_n (z := a1) hx dX12_fits_9 rfl (sm_callVI (args := [.int a1]) (st := []) hx dX12_fits_10 lv_X12_402_12 rfl rfl (t_76 hB) rfl rfl (hI1.2 q1) (fun r4 I3 L3 hI3 => sm_goto hx dX12_fits_13 (tgt := 17) (by decide) (sm_iretI hx dX12_fits_17 rfl hI3)))))))))
theorem dX12_pairs_0 : decode cX12_pairs 0 = .ok (.aload_n 0, 1) := by decide +kernel
theorem dX12_pairs_1 : decode cX12_pairs 1 = .ok (.iload_n 1, 1) := by decide +kernel
theorem dX12_pairs_2 : decode cX12_pairs 2 = .ok (.invokevirtual 312, 3) := by decide +kernel
theorem dX12_pairs_5 : decode cX12_pairs 5 = .ok (.ifCond .eq 16, 3) := by decide +kernel
theorem dX12_pairs_8 : decode cX12_pairs 8 = .ok (.aload_n 0, 1) := by decide +kernel
theorem dX12_pairs_9 : decode cX12_pairs 9 = .ok (.iload_n 2, 1) := by decide +kernel
theorem dX12_pairs_10 : decode cX12_pairs 10 = .ok (.invokevirtual 312, 3) := by decide +kernel
theorem dX12_pairs_13 : decode cX12_pairs 13 = .ok (.ifCond .eq 8, 3) := by decide +kernel
theorem dX12_pairs_16 : decode cX12_pairs 16 = .ok (.iload_n 1, 1) := by decide +kernel
theorem dX12_pairs_17 : decode cX12_pairs 17 = .ok (.iload_n 2, 1) := by decide +kernel
theorem dX12_pairs_18 : decode cX12_pairs 18 = .ok (.if_icmp .ne 5, 3) := by decide +kernel
theorem dX12_pairs_21 : decode cX12_pairs 21 = .ok (.iconst (-1), 1) := by decide +kernel
theorem dX12_pairs_22 : decode cX12_pairs 22 = .ok (.ireturn, 1) := by decide +kernel
theorem dX12_pairs_23 : decode cX12_pairs 23 = .ok (.iconst 0, 1) := by decide +kernel
theorem dX12_pairs_24 : decode cX12_pairs 24 = .ok (.istore_n 3, 1) := by decide +kernel
theorem dX12_pairs_25 : decode cX12_pairs 25 = .ok (.iconst 0, 1) := by decide +kernel
theorem dX12_pairs_26 : decode cX12_pairs 26 = .ok (.istore 4, 2) := by decide +kernel
theorem dX12_pairs_28 : decode cX12_pairs 28 = .ok (.iload 4, 2) := by decide +kernel
theorem dX12_pairs_30 : decode cX12_pairs 30 = .ok (.aload_n 0, 1) := by decide +kernel
theorem dX12_pairs_31 : decode cX12_pairs 31 = .ok (.getfield 275, 3) := by decide +kernel
theorem dX12_pairs_34 : decode cX12_pairs 34 = .ok (.if_icmp .ge 28, 3) := by decide +kernel
theorem dX12_pairs_37 : decode cX12_pairs 37 = .ok (.aload_n 0, 1) := by decide +kernel
theorem dX12_pairs_38 : decode cX12_pairs 38 = .ok (.getfield 58, 3) := by decide +kernel
theorem dX12_pairs_41 : decode cX12_pairs 41 = .ok (.iload_n 1, 1) := by decide +kernel
theorem dX12_pairs_42 : decode cX12_pairs 42 = .ok (.iload 4, 2) := by decide +kernel
theorem dX12_pairs_44 : decode cX12_pairs 44 = .ok (.iastore, 1) := by decide +kernel
theorem dX12_pairs_45 : decode cX12_pairs 45 = .ok (.iload_n 3, 1) := by decide +kernel
theorem dX12_pairs_46 : decode cX12_pairs 46 = .ok (.aload_n 0, 1) := by decide +kernel
theorem dX12_pairs_47 : decode cX12_pairs 47 = .ok (.iload_n 2, 1) := by decide +kernel
theorem dX12_pairs_48 : decode cX12_pairs 48 = .ok (.invokevirtual 402, 3) := by decide +kernel
theorem dX12_pairs_51 : decode cX12_pairs 51 = .ok (.invokestatic 337, 3) := by decide +kernel
theorem dX12_pairs_54 : decode cX12_pairs 54 = .ok (.iadd, 1) := by decide +kernel
theorem dX12_pairs_55 : decode cX12_pairs 55 = .ok (.istore_n 3, 1) := by decide +kernel
theorem dX12_pairs_56 : decode cX12_pairs 56 = .ok (.iinc 4 1, 3) := by decide +kernel
theorem dX12_pairs_59 : decode cX12_pairs 59 = .ok (.goto (-31), 3) := by decide +kernel
theorem dX12_pairs_62 : decode cX12_pairs 62 = .ok (.aload_n 0, 1) := by decide +kernel
theorem dX12_pairs_63 : decode cX12_pairs 63 = .ok (.getfield 58, 3) := by decide +kernel
theorem dX12_pairs_66 : decode cX12_pairs 66 = .ok (.iload_n 1, 1) := by decide +kernel
theorem dX12_pairs_67 : decode cX12_pairs 67 = .ok (.iconst (-1), 1) := by decide +kernel
theorem dX12_pairs_68 : decode cX12_pairs 68 = .ok (.iastore, 1) := by decide +kernel
theorem dX12_pairs_69 : decode cX12_pairs 69 = .ok (.iload_n 3, 1) := by decide +kernel
theorem dX12_pairs_70 : decode cX12_pairs 70 = .ok (.ireturn, 1) := by decide +kernel
set_option maxRecDepth 100000 in
theorem u_X12_pairs_28 {x : sm_Cx} {n : Nat} {F : Int32 → sm_MI → sm_ML → Prop} {T : List sm_Sh} {I : sm_MI} {L : sm_ML} {a1 : Int32} {a2 : Int32} {a3 : Int32} {a4 : Int32} (hB : sm_Bs T) (hx : sm_Ok x mX12_pairs (n + 1) (sm_KI T F))
    (h : ((I 76 26) ≤ a4 → vp_in a1 5 ∧ (F a3 (sm_uI I 93 (Int32.toNatClampNeg (a1)) (-1)) L)) ∧ (¬ (I 76 26) ≤ a4 → vp_in a1 5 ∧ (sm_CI n mX12_fitsOf T (sm_uI I 93 (Int32.toNatClampNeg (a1)) a4) L [.ref 76, .int a2] (fun r2 I1 L1 => sm_CI n mJ6_bitCount_0f7a4 T I1 L1 [.int r2] (fun r4 I3 L3 => sm_V x 0 0 T I3 L3 28 [some (.ref 76), some (.int a1), some (.int a2), some (.int (a3 + r4)), some (.int (a4 + 1))] []))))) :
    sm_V x 0 0 T I L 28 [some (.ref 76), some (.int a1), some (.int a2), some (.int a3), some (.int a4)] [] :=
  sm_iload (z := a4) hx dX12_pairs_28 rfl (sm_aload_n (z := 76) hx dX12_pairs_30 rfl (sm_getI hx dX12_pairs_31 fl_X12_275_12 (t_76 hB) rfl (sm_icmpge (a := a4) (b := (I 76 26)) hx dX12_pairs_34 (tgt := 62) (by decide) (fun q1 => sm_aload_n (z := 76) hx dX12_pairs_62 rfl (sm_getR hx dX12_pairs_63 fl_X12_58_12 (t_76 hB) rfl (sm_iload_n (z := a1) hx dX12_pairs_66 rfl (sm_iconst (v := (-1)) hx dX12_pairs_67 sm_kc_m1 (sm_iast (i := a1) (v := (-1)) hx dX12_pairs_68 (t_93 hB) (h.1 q1).1 (sm_iload_n (z := a3) hx dX12_pairs_69 rfl (sm_iretI hx dX12_pairs_70 rfl (h.1 q1).2))))))) (fun q1 => sm_aload_n (z := 76) hx dX12_pairs_37 rfl (sm_getR hx dX12_pairs_38 fl_X12_58_12 (t_76 hB) rfl (sm_iload_n (z := a1) hx dX12_pairs_41 rfl (sm_iload (z := a4) hx dX12_pairs_42 rfl (sm_iast (i := a1) (v := a4) hx dX12_pairs_44 (t_93 hB) (h.2 q1).1 (sm_iload_n (z := a3) hx dX12_pairs_45 rfl (sm_aload_n (z := 76) hx dX12_pairs_46 rfl (sm_iload_n (z := a2) hx dX12_pairs_47 rfl (sm_callVI (args := [.int a2]) (st := [.int a3]) hx dX12_pairs_48 lv_X12_402_12 rfl rfl (t_76 hB) rfl rfl (h.2 q1).2 (fun r2 I1 L1 hI1 => sm_callSI (args := [.int r2]) (st := [.int a3]) hx dX12_pairs_51 ls_X12_337 rfl rfl rfl hI1 (fun r4 I3 L3 hI3 => sm_iadd (a := a3) (b := r4) hx dX12_pairs_54 (sm_istore_n (ls' := [some (.ref 76), some (.int a1), some (.int a2), some (.int (a3 + r4)), some (.int a4)]) hx dX12_pairs_55 (by decide) rfl (sm_iinc (ls' := [some (.ref 76), some (.int a1), some (.int a2), some (.int (a3 + r4)), some (.int (a4 + 1))]) (z := a4) (v := (a4 + 1)) hx dX12_pairs_56 rfl (sm_kii_1 _) (by decide) rfl (sm_goto hx dX12_pairs_59 (tgt := 28) (by decide) (hI3))))))))))))))))))
set_option maxRecDepth 100000 in
theorem c_X12_pairs {n : Nat} {F : Int32 → sm_MI → sm_ML → Prop} {T : List sm_Sh} {I : sm_MI} {L : sm_ML} {a1 : Int32} {a2 : Int32} (hB : sm_Bs T)
    (h : ∀ x : sm_Cx, sm_Ok x mX12_pairs (n + 1) (sm_KI T F) → sm_CZ n mX12_isSleeper T I L [.ref 76, .int a1] (fun r2 I1 L1 => (r2 = false → F (-1) I1 L1) ∧ (r2 = true → sm_CZ n mX12_isSleeper T I1 L1 [.ref 76, .int a2] (fun r4 I3 L3 => (r4 = false → F (-1) I3 L3) ∧ (r4 = true → (¬ a1 = a2 → sm_V x 0 0 T I3 L3 28 [some (.ref 76), some (.int a1), some (.int a2), some (.int 0), some (.int 0)] []) ∧ (a1 = a2 → F (-1) I3 L3)))))) :
    sm_CI (n + 1) mX12_pairs T I L [.ref 76, .int a1, .int a2] F :=
  sm_CI.of (by decide +kernel) rfl (fun x hx => show sm_V x 0 0 T I L 0 [some (.ref 76), some (.int a1), some (.int a2), none, none] [] from
  sm_aload_n (z := 76) hx dX12_pairs_0 rfl (sm_iload_n (z := a1) hx dX12_pairs_1 rfl (sm_callVZ (args := [.int a1]) (st := []) hx dX12_pairs_2 lv_X12_312_12 rfl rfl (t_76 hB) rfl rfl (h x hx) (fun r2 I1 L1 hI1 => sm_ifeqZ (b := r2) hx dX12_pairs_5 (tgt := 21) (by decide) (fun q4 => sm_iconst (v := (-1)) hx dX12_pairs_21 sm_kc_m1 (sm_iretI hx dX12_pairs_22 rfl (hI1.1 q4))) (fun q4 => sm_aload_n (z := 76) hx dX12_pairs_8 rfl (sm_iload_n (z := a2) hx dX12_pairs_9 rfl (sm_callVZ (args := [.int a2]) (st := []) hx dX12_pairs_10 lv_X12_312_12 rfl rfl (t_76 hB) rfl rfl (hI1.2 q4) (fun r4 I3 L3 hI3 => sm_ifeqZ (b := r4) hx dX12_pairs_13 (tgt := 21) (by decide) (fun q3 => sm_iconst (v := (-1)) hx dX12_pairs_21 sm_kc_m1 (sm_iretI hx dX12_pairs_22 rfl (hI3.1 q3))) (fun q3 => sm_iload_n (z := a1) hx dX12_pairs_16 rfl (sm_iload_n (z := a2) hx dX12_pairs_17 rfl (sm_icmpne (a := a1) (b := a2) hx dX12_pairs_18 (tgt := 23) (by decide) (fun q2 => sm_iconst (v := 0) hx dX12_pairs_23 sm_kc_0 (sm_istore_n (ls' := [some (.ref 76), some (.int a1), some (.int a2), some (.int 0), none]) hx dX12_pairs_24 (by decide) rfl (sm_iconst (v := 0) hx dX12_pairs_25 sm_kc_0 (sm_istore (ls' := [some (.ref 76), some (.int a1), some (.int a2), some (.int 0), some (.int 0)]) hx dX12_pairs_26 (by decide) rfl (((hI3.2 q3).1 q2)))))) (fun q2 => sm_iconst (v := (-1)) hx dX12_pairs_21 sm_kc_m1 (sm_iretI hx dX12_pairs_22 rfl ((hI3.2 q3).2 q2))))))))))))))
theorem dX12_awake_0 : decode cX12_awake 0 = .ok (.aload_n 0, 1) := by decide +kernel
theorem dX12_awake_1 : decode cX12_awake 1 = .ok (.getfield 275, 3) := by decide +kernel
theorem dX12_awake_4 : decode cX12_awake 4 = .ok (.ifCond .ne 5, 3) := by decide +kernel
theorem dX12_awake_7 : decode cX12_awake 7 = .ok (.iconst (-1), 1) := by decide +kernel
theorem dX12_awake_8 : decode cX12_awake 8 = .ok (.ireturn, 1) := by decide +kernel
theorem dX12_awake_9 : decode cX12_awake 9 = .ok (.iconst 0, 1) := by decide +kernel
theorem dX12_awake_10 : decode cX12_awake 10 = .ok (.istore_n 1, 1) := by decide +kernel
theorem dX12_awake_11 : decode cX12_awake 11 = .ok (.iconst 0, 1) := by decide +kernel
theorem dX12_awake_12 : decode cX12_awake 12 = .ok (.istore_n 2, 1) := by decide +kernel
theorem dX12_awake_13 : decode cX12_awake 13 = .ok (.iload_n 2, 1) := by decide +kernel
theorem dX12_awake_14 : decode cX12_awake 14 = .ok (.aload_n 0, 1) := by decide +kernel
theorem dX12_awake_15 : decode cX12_awake 15 = .ok (.getfield 278, 3) := by decide +kernel
theorem dX12_awake_18 : decode cX12_awake 18 = .ok (.if_icmp .ge 27, 3) := by decide +kernel
theorem dX12_awake_21 : decode cX12_awake 21 = .ok (.iload_n 1, 1) := by decide +kernel
theorem dX12_awake_22 : decode cX12_awake 22 = .ok (.aload_n 0, 1) := by decide +kernel
theorem dX12_awake_23 : decode cX12_awake 23 = .ok (.iload_n 2, 1) := by decide +kernel
theorem dX12_awake_24 : decode cX12_awake 24 = .ok (.invokevirtual 402, 3) := by decide +kernel
theorem dX12_awake_27 : decode cX12_awake 27 = .ok (.ifCond .ne 9, 3) := by decide +kernel
theorem dX12_awake_30 : decode cX12_awake 30 = .ok (.iconst 1, 1) := by decide +kernel
theorem dX12_awake_31 : decode cX12_awake 31 = .ok (.iload_n 2, 1) := by decide +kernel
theorem dX12_awake_32 : decode cX12_awake 32 = .ok (.ishl, 1) := by decide +kernel
theorem dX12_awake_33 : decode cX12_awake 33 = .ok (.goto 4, 3) := by decide +kernel
theorem dX12_awake_36 : decode cX12_awake 36 = .ok (.iconst 0, 1) := by decide +kernel
theorem dX12_awake_37 : decode cX12_awake 37 = .ok (.ior, 1) := by decide +kernel
theorem dX12_awake_38 : decode cX12_awake 38 = .ok (.istore_n 1, 1) := by decide +kernel
theorem dX12_awake_39 : decode cX12_awake 39 = .ok (.iinc 2 1, 3) := by decide +kernel
theorem dX12_awake_42 : decode cX12_awake 42 = .ok (.goto (-29), 3) := by decide +kernel
theorem dX12_awake_45 : decode cX12_awake 45 = .ok (.iload_n 1, 1) := by decide +kernel
theorem dX12_awake_46 : decode cX12_awake 46 = .ok (.ireturn, 1) := by decide +kernel
set_option maxRecDepth 100000 in
theorem u_X12_awake_13 {x : sm_Cx} {n : Nat} {F : Int32 → sm_MI → sm_ML → Prop} {T : List sm_Sh} {I : sm_MI} {L : sm_ML} {a1 : Int32} {a2 : Int32} (hB : sm_Bs T) (hx : sm_Ok x mX12_awake (n + 1) (sm_KI T F))
    (h : ((I 76 27) ≤ a2 → F a1 I L) ∧ (¬ (I 76 27) ≤ a2 → sm_CI n mX12_fitsOf T I L [.ref 76, .int a2] (fun r2 I1 L1 => (¬ r2 = 0 → sm_V x 0 0 T I1 L1 13 [some (.ref 76), some (.int (a1 ||| 0)), some (.int (a2 + 1))] []) ∧ (r2 = 0 → sm_V x 0 0 T I1 L1 13 [some (.ref 76), some (.int (a1 ||| (1 <<< (a2 &&& 31)))), some (.int (a2 + 1))] [])))) :
    sm_V x 0 0 T I L 13 [some (.ref 76), some (.int a1), some (.int a2)] [] :=
  sm_iload_n (z := a2) hx dX12_awake_13 rfl (sm_aload_n (z := 76) hx dX12_awake_14 rfl (sm_getI hx dX12_awake_15 fl_X12_278_12 (t_76 hB) rfl (sm_icmpge (a := a2) (b := (I 76 27)) hx dX12_awake_18 (tgt := 45) (by decide) (fun q2 => sm_iload_n (z := a1) hx dX12_awake_45 rfl (sm_iretI hx dX12_awake_46 rfl (h.1 q2))) (fun q2 => sm_iload_n (z := a1) hx dX12_awake_21 rfl (sm_aload_n (z := 76) hx dX12_awake_22 rfl (sm_iload_n (z := a2) hx dX12_awake_23 rfl (sm_callVI (args := [.int a2]) (st := [.int a1]) hx dX12_awake_24 lv_X12_402_12 rfl rfl (t_76 hB) rfl rfl (h.2 q2) (fun r2 I1 L1 hI1 => sm_ifne (a := r2) hx dX12_awake_27 (tgt := 36) (by decide) (fun q1 => sm_iconst (v := 0) hx dX12_awake_36 sm_kc_0 (sm_ior (a := a1) (b := 0) hx dX12_awake_37 (sm_istore_n (ls' := [some (.ref 76), some (.int (a1 ||| 0)), some (.int a2)]) hx dX12_awake_38 (by decide) rfl (sm_iinc (ls' := [some (.ref 76), some (.int (a1 ||| 0)), some (.int (a2 + 1))]) (z := a2) (v := (a2 + 1)) hx dX12_awake_39 rfl (sm_kii_1 _) (by decide) rfl (sm_goto hx dX12_awake_42 (tgt := 13) (by decide) ((hI1.1 q1))))))) (fun q1 => sm_iconst (v := 1) hx dX12_awake_30 sm_kc_1 (sm_iload_n (z := a2) hx dX12_awake_31 rfl (sm_ishl (a := 1) (b := a2) hx dX12_awake_32 (sm_goto hx dX12_awake_33 (tgt := 37) (by decide) (sm_ior (a := a1) (b := (1 <<< (a2 &&& 31))) hx dX12_awake_37 (sm_istore_n (ls' := [some (.ref 76), some (.int (a1 ||| (1 <<< (a2 &&& 31)))), some (.int a2)]) hx dX12_awake_38 (by decide) rfl (sm_iinc (ls' := [some (.ref 76), some (.int (a1 ||| (1 <<< (a2 &&& 31)))), some (.int (a2 + 1))]) (z := a2) (v := (a2 + 1)) hx dX12_awake_39 rfl (sm_kii_1 _) (by decide) rfl (sm_goto hx dX12_awake_42 (tgt := 13) (by decide) ((hI1.2 q1))))))))))))))))))
set_option maxRecDepth 100000 in
theorem c_X12_awake {n : Nat} {F : Int32 → sm_MI → sm_ML → Prop} {T : List sm_Sh} {I : sm_MI} {L : sm_ML}  (hB : sm_Bs T)
    (h : ∀ x : sm_Cx, sm_Ok x mX12_awake (n + 1) (sm_KI T F) → (¬ (I 76 26) = 0 → sm_V x 0 0 T I L 13 [some (.ref 76), some (.int 0), some (.int 0)] []) ∧ ((I 76 26) = 0 → F (-1) I L)) :
    sm_CI (n + 1) mX12_awake T I L [.ref 76] F :=
  sm_CI.of (by decide +kernel) rfl (fun x hx => show sm_V x 0 0 T I L 0 [some (.ref 76), none, none] [] from
  sm_aload_n (z := 76) hx dX12_awake_0 rfl (sm_getI hx dX12_awake_1 fl_X12_275_12 (t_76 hB) rfl (sm_ifne (a := (I 76 26)) hx dX12_awake_4 (tgt := 9) (by decide) (fun q3 => sm_iconst (v := 0) hx dX12_awake_9 sm_kc_0 (sm_istore_n (ls' := [some (.ref 76), some (.int 0), none]) hx dX12_awake_10 (by decide) rfl (sm_iconst (v := 0) hx dX12_awake_11 sm_kc_0 (sm_istore_n (ls' := [some (.ref 76), some (.int 0), some (.int 0)]) hx dX12_awake_12 (by decide) rfl (((h x hx).1 q3)))))) (fun q3 => sm_iconst (v := (-1)) hx dX12_awake_7 sm_kc_m1 (sm_iretI hx dX12_awake_8 rfl ((h x hx).2 q3))))))
theorem dX12_kindsOf_0 : decode cX12_kindsOf 0 = .ok (.iconst 0, 1) := by decide +kernel
theorem dX12_kindsOf_1 : decode cX12_kindsOf 1 = .ok (.istore 4, 2) := by decide +kernel
theorem dX12_kindsOf_3 : decode cX12_kindsOf 3 = .ok (.iconst 0, 1) := by decide +kernel
theorem dX12_kindsOf_4 : decode cX12_kindsOf 4 = .ok (.istore 5, 2) := by decide +kernel
theorem dX12_kindsOf_6 : decode cX12_kindsOf 6 = .ok (.iload 5, 2) := by decide +kernel
theorem dX12_kindsOf_8 : decode cX12_kindsOf 8 = .ok (.aload_n 0, 1) := by decide +kernel
theorem dX12_kindsOf_9 : decode cX12_kindsOf 9 = .ok (.getfield 275, 3) := by decide +kernel
theorem dX12_kindsOf_12 : decode cX12_kindsOf 12 = .ok (.if_icmp .ge 30, 3) := by decide +kernel
theorem dX12_kindsOf_15 : decode cX12_kindsOf 15 = .ok (.aload_n 0, 1) := by decide +kernel
theorem dX12_kindsOf_16 : decode cX12_kindsOf 16 = .ok (.getfield 58, 3) := by decide +kernel
theorem dX12_kindsOf_19 : decode cX12_kindsOf 19 = .ok (.iload_n 1, 1) := by decide +kernel
theorem dX12_kindsOf_20 : decode cX12_kindsOf 20 = .ok (.iload 5, 2) := by decide +kernel
theorem dX12_kindsOf_22 : decode cX12_kindsOf 22 = .ok (.iastore, 1) := by decide +kernel
theorem dX12_kindsOf_23 : decode cX12_kindsOf 23 = .ok (.iload 4, 2) := by decide +kernel
theorem dX12_kindsOf_25 : decode cX12_kindsOf 25 = .ok (.iconst 1, 1) := by decide +kernel
theorem dX12_kindsOf_26 : decode cX12_kindsOf 26 = .ok (.aload_n 0, 1) := by decide +kernel
theorem dX12_kindsOf_27 : decode cX12_kindsOf 27 = .ok (.iload_n 2, 1) := by decide +kernel
theorem dX12_kindsOf_28 : decode cX12_kindsOf 28 = .ok (.iload_n 3, 1) := by decide +kernel
theorem dX12_kindsOf_29 : decode cX12_kindsOf 29 = .ok (.invokevirtual 405, 3) := by decide +kernel
theorem dX12_kindsOf_32 : decode cX12_kindsOf 32 = .ok (.ishl, 1) := by decide +kernel
theorem dX12_kindsOf_33 : decode cX12_kindsOf 33 = .ok (.ior, 1) := by decide +kernel
theorem dX12_kindsOf_34 : decode cX12_kindsOf 34 = .ok (.istore 4, 2) := by decide +kernel
theorem dX12_kindsOf_36 : decode cX12_kindsOf 36 = .ok (.iinc 5 1, 3) := by decide +kernel
theorem dX12_kindsOf_39 : decode cX12_kindsOf 39 = .ok (.goto (-33), 3) := by decide +kernel
theorem dX12_kindsOf_42 : decode cX12_kindsOf 42 = .ok (.aload_n 0, 1) := by decide +kernel
theorem dX12_kindsOf_43 : decode cX12_kindsOf 43 = .ok (.getfield 58, 3) := by decide +kernel
theorem dX12_kindsOf_46 : decode cX12_kindsOf 46 = .ok (.iload_n 1, 1) := by decide +kernel
theorem dX12_kindsOf_47 : decode cX12_kindsOf 47 = .ok (.iconst (-1), 1) := by decide +kernel
theorem dX12_kindsOf_48 : decode cX12_kindsOf 48 = .ok (.iastore, 1) := by decide +kernel
theorem dX12_kindsOf_49 : decode cX12_kindsOf 49 = .ok (.iload 4, 2) := by decide +kernel
theorem dX12_kindsOf_51 : decode cX12_kindsOf 51 = .ok (.invokestatic 337, 3) := by decide +kernel
theorem dX12_kindsOf_54 : decode cX12_kindsOf 54 = .ok (.ireturn, 1) := by decide +kernel
set_option maxRecDepth 100000 in
theorem u_X12_kindsOf_6 {x : sm_Cx} {n : Nat} {F : Int32 → sm_MI → sm_ML → Prop} {T : List sm_Sh} {I : sm_MI} {L : sm_ML} {a1 : Int32} {a2 : Int32} {a3 : Int32} {a4 : Int32} {a5 : Int32} (hB : sm_Bs T) (hx : sm_Ok x mX12_kindsOf (n + 1) (sm_KI T F))
    (h : ((I 76 26) ≤ a5 → vp_in a1 5 ∧ (sm_CI n mJ6_bitCount_0f7a4 T (sm_uI I 93 (Int32.toNatClampNeg (a1)) (-1)) L [.int a4] (fun r2 I1 L1 => F r2 I1 L1))) ∧ (¬ (I 76 26) ≤ a5 → vp_in a1 5 ∧ (sm_CI n mX12_where T (sm_uI I 93 (Int32.toNatClampNeg (a1)) a5) L [.ref 76, .int a2, .int a3] (fun r4 I3 L3 => sm_V x 0 0 T I3 L3 6 [some (.ref 76), some (.int a1), some (.int a2), some (.int a3), some (.int (a4 ||| (1 <<< (r4 &&& 31)))), some (.int (a5 + 1))] [])))) :
    sm_V x 0 0 T I L 6 [some (.ref 76), some (.int a1), some (.int a2), some (.int a3), some (.int a4), some (.int a5)] [] :=
  sm_iload (z := a5) hx dX12_kindsOf_6 rfl (sm_aload_n (z := 76) hx dX12_kindsOf_8 rfl (sm_getI hx dX12_kindsOf_9 fl_X12_275_12 (t_76 hB) rfl (sm_icmpge (a := a5) (b := (I 76 26)) hx dX12_kindsOf_12 (tgt := 42) (by decide) (fun q1 => sm_aload_n (z := 76) hx dX12_kindsOf_42 rfl (sm_getR hx dX12_kindsOf_43 fl_X12_58_12 (t_76 hB) rfl (sm_iload_n (z := a1) hx dX12_kindsOf_46 rfl (sm_iconst (v := (-1)) hx dX12_kindsOf_47 sm_kc_m1 (sm_iast (i := a1) (v := (-1)) hx dX12_kindsOf_48 (t_93 hB) (h.1 q1).1 (sm_iload (z := a4) hx dX12_kindsOf_49 rfl (sm_callSI (args := [.int a4]) (st := []) hx dX12_kindsOf_51 ls_X12_337 rfl rfl rfl (h.1 q1).2 (fun r2 I1 L1 hI1 => sm_iretI hx dX12_kindsOf_54 rfl hI1)))))))) (fun q1 => sm_aload_n (z := 76) hx dX12_kindsOf_15 rfl (sm_getR hx dX12_kindsOf_16 fl_X12_58_12 (t_76 hB) rfl (sm_iload_n (z := a1) hx dX12_kindsOf_19 rfl (sm_iload (z := a5) hx dX12_kindsOf_20 rfl (sm_iast (i := a1) (v := a5) hx dX12_kindsOf_22 (t_93 hB) (h.2 q1).1 (sm_iload (z := a4) hx dX12_kindsOf_23 rfl (sm_iconst (v := 1) hx dX12_kindsOf_25 sm_kc_1 (sm_aload_n (z := 76) hx dX12_kindsOf_26 rfl (sm_iload_n (z := a2) hx dX12_kindsOf_27 rfl (sm_iload_n (z := a3) hx dX12_kindsOf_28 rfl (sm_callVI (args := [.int a2, .int a3]) (st := [.int 1, .int a4]) hx dX12_kindsOf_29 lv_X12_405_12 rfl rfl (t_76 hB) rfl rfl (h.2 q1).2 (fun r4 I3 L3 hI3 => sm_ishl (a := 1) (b := r4) hx dX12_kindsOf_32 (sm_ior (a := a4) (b := (1 <<< (r4 &&& 31))) hx dX12_kindsOf_33 (sm_istore (ls' := [some (.ref 76), some (.int a1), some (.int a2), some (.int a3), some (.int (a4 ||| (1 <<< (r4 &&& 31)))), some (.int a5)]) hx dX12_kindsOf_34 (by decide) rfl (sm_iinc (ls' := [some (.ref 76), some (.int a1), some (.int a2), some (.int a3), some (.int (a4 ||| (1 <<< (r4 &&& 31)))), some (.int (a5 + 1))]) (z := a5) (v := (a5 + 1)) hx dX12_kindsOf_36 rfl (sm_kii_1 _) (by decide) rfl (sm_goto hx dX12_kindsOf_39 (tgt := 6) (by decide) (hI3))))))))))))))))))))
set_option maxRecDepth 100000 in
theorem c_X12_kindsOf {n : Nat} {F : Int32 → sm_MI → sm_ML → Prop} {T : List sm_Sh} {I : sm_MI} {L : sm_ML} {a1 : Int32} {a2 : Int32} {a3 : Int32} (hB : sm_Bs T)
    (h : ∀ x : sm_Cx, sm_Ok x mX12_kindsOf (n + 1) (sm_KI T F) → sm_V x 0 0 T I L 6 [some (.ref 76), some (.int a1), some (.int a2), some (.int a3), some (.int 0), some (.int 0)] []) :
    sm_CI (n + 1) mX12_kindsOf T I L [.ref 76, .int a1, .int a2, .int a3] F :=
  sm_CI.of (by decide +kernel) rfl (fun x hx => show sm_V x 0 0 T I L 0 [some (.ref 76), some (.int a1), some (.int a2), some (.int a3), none, none] [] from
  sm_iconst (v := 0) hx dX12_kindsOf_0 sm_kc_0 (sm_istore (ls' := [some (.ref 76), some (.int a1), some (.int a2), some (.int a3), some (.int 0), none]) hx dX12_kindsOf_1 (by decide) rfl (sm_iconst (v := 0) hx dX12_kindsOf_3 sm_kc_0 (sm_istore (ls' := [some (.ref 76), some (.int a1), some (.int a2), some (.int a3), some (.int 0), some (.int 0)]) hx dX12_kindsOf_4 (by decide) rfl ((h x hx))))))
theorem dX12_test_0 : decode cX12_test 0 = .ok (.aload_n 0, 1) := by decide +kernel
theorem dX12_test_1 : decode cX12_test 1 = .ok (.iload_n 1, 1) := by decide +kernel
theorem dX12_test_2 : decode cX12_test 2 = .ok (.invokevirtual 312, 3) := by decide +kernel
theorem dX12_test_5 : decode cX12_test 5 = .ok (.ifCond .eq 20, 3) := by decide +kernel
theorem dX12_test_8 : decode cX12_test 8 = .ok (.aload_n 0, 1) := by decide +kernel
theorem dX12_test_9 : decode cX12_test 9 = .ok (.iload_n 2, 1) := by decide +kernel
theorem dX12_test_10 : decode cX12_test 10 = .ok (.invokevirtual 366, 3) := by decide +kernel
theorem dX12_test_13 : decode cX12_test 13 = .ok (.ifCond .eq 12, 3) := by decide +kernel
theorem dX12_test_16 : decode cX12_test 16 = .ok (.iload_n 3, 1) := by decide +kernel
theorem dX12_test_17 : decode cX12_test 17 = .ok (.iconst 0, 1) := by decide +kernel
theorem dX12_test_18 : decode cX12_test 18 = .ok (.iconst 1, 1) := by decide +kernel
theorem dX12_test_19 : decode cX12_test 19 = .ok (.invokestatic 227, 3) := by decide +kernel
theorem dX12_test_22 : decode cX12_test 22 = .ok (.ifCond .ne 5, 3) := by decide +kernel
theorem dX12_test_25 : decode cX12_test 25 = .ok (.iconst (-1), 1) := by decide +kernel
theorem dX12_test_26 : decode cX12_test 26 = .ok (.ireturn, 1) := by decide +kernel
theorem dX12_test_27 : decode cX12_test 27 = .ok (.iconst (-1), 1) := by decide +kernel
theorem dX12_test_28 : decode cX12_test 28 = .ok (.istore 4, 2) := by decide +kernel
theorem dX12_test_30 : decode cX12_test 30 = .ok (.iconst 0, 1) := by decide +kernel
theorem dX12_test_31 : decode cX12_test 31 = .ok (.istore 5, 2) := by decide +kernel
theorem dX12_test_33 : decode cX12_test 33 = .ok (.iconst 0, 1) := by decide +kernel
theorem dX12_test_34 : decode cX12_test 34 = .ok (.istore 6, 2) := by decide +kernel
theorem dX12_test_36 : decode cX12_test 36 = .ok (.iload 6, 2) := by decide +kernel
theorem dX12_test_38 : decode cX12_test 38 = .ok (.aload_n 0, 1) := by decide +kernel
theorem dX12_test_39 : decode cX12_test 39 = .ok (.getfield 281, 3) := by decide +kernel
theorem dX12_test_42 : decode cX12_test 42 = .ok (.if_icmp .ge 85, 3) := by decide +kernel
theorem dX12_test_45 : decode cX12_test 45 = .ok (.aload_n 0, 1) := by decide +kernel
theorem dX12_test_46 : decode cX12_test 46 = .ok (.getfield 55, 3) := by decide +kernel
theorem dX12_test_49 : decode cX12_test 49 = .ok (.iload 6, 2) := by decide +kernel
theorem dX12_test_51 : decode cX12_test 51 = .ok (.iaload, 1) := by decide +kernel
theorem dX12_test_52 : decode cX12_test 52 = .ok (.istore 7, 2) := by decide +kernel
theorem dX12_test_54 : decode cX12_test 54 = .ok (.iconst 0, 1) := by decide +kernel
theorem dX12_test_55 : decode cX12_test 55 = .ok (.istore 8, 2) := by decide +kernel
theorem dX12_test_57 : decode cX12_test 57 = .ok (.iload 8, 2) := by decide +kernel
theorem dX12_test_59 : decode cX12_test 59 = .ok (.aload_n 0, 1) := by decide +kernel
theorem dX12_test_60 : decode cX12_test 60 = .ok (.getfield 275, 3) := by decide +kernel
theorem dX12_test_63 : decode cX12_test 63 = .ok (.if_icmp .ge 49, 3) := by decide +kernel
theorem dX12_test_66 : decode cX12_test 66 = .ok (.aload_n 0, 1) := by decide +kernel
theorem dX12_test_67 : decode cX12_test 67 = .ok (.getfield 55, 3) := by decide +kernel
theorem dX12_test_70 : decode cX12_test 70 = .ok (.iload 6, 2) := by decide +kernel
theorem dX12_test_72 : decode cX12_test 72 = .ok (.iload 8, 2) := by decide +kernel
theorem dX12_test_74 : decode cX12_test 74 = .ok (.iastore, 1) := by decide +kernel
theorem dX12_test_75 : decode cX12_test 75 = .ok (.aload_n 0, 1) := by decide +kernel
theorem dX12_test_76 : decode cX12_test 76 = .ok (.iload_n 1, 1) := by decide +kernel
theorem dX12_test_77 : decode cX12_test 77 = .ok (.iload 6, 2) := by decide +kernel
theorem dX12_test_79 : decode cX12_test 79 = .ok (.iload_n 2, 1) := by decide +kernel
theorem dX12_test_80 : decode cX12_test 80 = .ok (.invokevirtual 408, 3) := by decide +kernel
theorem dX12_test_83 : decode cX12_test 83 = .ok (.istore 9, 2) := by decide +kernel
theorem dX12_test_85 : decode cX12_test 85 = .ok (.iload 9, 2) := by decide +kernel
theorem dX12_test_87 : decode cX12_test 87 = .ok (.iload 5, 2) := by decide +kernel
theorem dX12_test_89 : decode cX12_test 89 = .ok (.if_icmp .le 17, 3) := by decide +kernel
theorem dX12_test_92 : decode cX12_test 92 = .ok (.bipush 10, 2) := by decide +kernel
theorem dX12_test_94 : decode cX12_test 94 = .ok (.iload 6, 2) := by decide +kernel
theorem dX12_test_96 : decode cX12_test 96 = .ok (.imul, 1) := by decide +kernel
theorem dX12_test_97 : decode cX12_test 97 = .ok (.iload 8, 2) := by decide +kernel
theorem dX12_test_99 : decode cX12_test 99 = .ok (.iadd, 1) := by decide +kernel
theorem dX12_test_100 : decode cX12_test 100 = .ok (.istore 4, 2) := by decide +kernel
theorem dX12_test_102 : decode cX12_test 102 = .ok (.iload 9, 2) := by decide +kernel
theorem dX12_test_104 : decode cX12_test 104 = .ok (.istore 5, 2) := by decide +kernel
theorem dX12_test_106 : decode cX12_test 106 = .ok (.iinc 8 1, 3) := by decide +kernel
theorem dX12_test_109 : decode cX12_test 109 = .ok (.goto (-52), 3) := by decide +kernel
theorem dX12_test_112 : decode cX12_test 112 = .ok (.aload_n 0, 1) := by decide +kernel
theorem dX12_test_113 : decode cX12_test 113 = .ok (.getfield 55, 3) := by decide +kernel
theorem dX12_test_116 : decode cX12_test 116 = .ok (.iload 6, 2) := by decide +kernel
theorem dX12_test_118 : decode cX12_test 118 = .ok (.iload 7, 2) := by decide +kernel
theorem dX12_test_120 : decode cX12_test 120 = .ok (.iastore, 1) := by decide +kernel
theorem dX12_test_121 : decode cX12_test 121 = .ok (.iinc 6 1, 3) := by decide +kernel
theorem dX12_test_124 : decode cX12_test 124 = .ok (.goto (-88), 3) := by decide +kernel
theorem dX12_test_127 : decode cX12_test 127 = .ok (.iload_n 3, 1) := by decide +kernel
theorem dX12_test_128 : decode cX12_test 128 = .ok (.ifCond .ne 8, 3) := by decide +kernel
theorem dX12_test_131 : decode cX12_test 131 = .ok (.iload 4, 2) := by decide +kernel
theorem dX12_test_133 : decode cX12_test 133 = .ok (.goto 5, 3) := by decide +kernel
theorem dX12_test_136 : decode cX12_test 136 = .ok (.iload 5, 2) := by decide +kernel
theorem dX12_test_138 : decode cX12_test 138 = .ok (.ireturn, 1) := by decide +kernel
set_option maxRecDepth 100000 in
theorem u_X12_test_36 {x : sm_Cx} {n : Nat} {F : Int32 → sm_MI → sm_ML → Prop} {T : List sm_Sh} {I : sm_MI} {L : sm_ML} {a1 : Int32} {a2 : Int32} {a3 : Int32} {a4 : Int32} {a5 : Int32} {a6 : Int32} {u7 : Option Value} {u8 : Option Value} {u9 : Option Value} (hB : sm_Bs T) (hx : sm_Ok x mX12_test (n + 1) (sm_KI T F))
    (h : ((I 76 28) ≤ a6 → (¬ a3 = 0 → F a5 I L) ∧ (a3 = 0 → F a4 I L)) ∧ (¬ (I 76 28) ≤ a6 → vp_in a6 8 ∧ (sm_V x 0 0 T I L 57 [some (.ref 76), some (.int a1), some (.int a2), some (.int a3), some (.int a4), some (.int a5), some (.int a6), some (.int (I 92 (Int32.toNatClampNeg (a6)))), some (.int 0), u9] []))) :
    sm_V x 0 0 T I L 36 [some (.ref 76), some (.int a1), some (.int a2), some (.int a3), some (.int a4), some (.int a5), some (.int a6), u7, u8, u9] [] :=
  sm_iload (z := a6) hx dX12_test_36 rfl (sm_aload_n (z := 76) hx dX12_test_38 rfl (sm_getI hx dX12_test_39 fl_X12_281_12 (t_76 hB) rfl (sm_icmpge (a := a6) (b := (I 76 28)) hx dX12_test_42 (tgt := 127) (by decide) (fun q2 => sm_iload_n (z := a3) hx dX12_test_127 rfl (sm_ifne (a := a3) hx dX12_test_128 (tgt := 136) (by decide) (fun q1 => sm_iload (z := a5) hx dX12_test_136 rfl (sm_iretI hx dX12_test_138 rfl ((h.1 q2).1 q1))) (fun q1 => sm_iload (z := a4) hx dX12_test_131 rfl (sm_goto hx dX12_test_133 (tgt := 138) (by decide) (sm_iretI hx dX12_test_138 rfl ((h.1 q2).2 q1)))))) (fun q2 => sm_aload_n (z := 76) hx dX12_test_45 rfl (sm_getR hx dX12_test_46 fl_X12_55_12 (t_76 hB) rfl (sm_iload (z := a6) hx dX12_test_49 rfl (sm_iald (i := a6) hx dX12_test_51 (t_92 hB) (h.2 q2).1 (sm_istore (ls' := [some (.ref 76), some (.int a1), some (.int a2), some (.int a3), some (.int a4), some (.int a5), some (.int a6), some (.int (I 92 (Int32.toNatClampNeg (a6)))), u8, u9]) hx dX12_test_52 (by decide) rfl (sm_iconst (v := 0) hx dX12_test_54 sm_kc_0 (sm_istore (ls' := [some (.ref 76), some (.int a1), some (.int a2), some (.int a3), some (.int a4), some (.int a5), some (.int a6), some (.int (I 92 (Int32.toNatClampNeg (a6)))), some (.int 0), u9]) hx dX12_test_55 (by decide) rfl ((h.2 q2).2)))))))))))
set_option maxRecDepth 100000 in
theorem u_X12_test_57 {x : sm_Cx} {n : Nat} {F : Int32 → sm_MI → sm_ML → Prop} {T : List sm_Sh} {I : sm_MI} {L : sm_ML} {a1 : Int32} {a2 : Int32} {a3 : Int32} {a4 : Int32} {a5 : Int32} {a6 : Int32} {a7 : Int32} {a8 : Int32} {u9 : Option Value} (hB : sm_Bs T) (hx : sm_Ok x mX12_test (n + 1) (sm_KI T F))
    (h : ((I 76 26) ≤ a8 → vp_in a6 8 ∧ (sm_V x 0 0 T (sm_uI I 92 (Int32.toNatClampNeg (a6)) a7) L 36 [some (.ref 76), some (.int a1), some (.int a2), some (.int a3), some (.int a4), some (.int a5), some (.int (a6 + 1)), some (.int a7), some (.int a8), u9] [])) ∧ (¬ (I 76 26) ≤ a8 → vp_in a6 8 ∧ (sm_CI n mX12_kindsOf T (sm_uI I 92 (Int32.toNatClampNeg (a6)) a8) L [.ref 76, .int a1, .int a6, .int a2] (fun r2 I1 L1 => (r2 ≤ a5 → sm_V x 0 0 T I1 L1 57 [some (.ref 76), some (.int a1), some (.int a2), some (.int a3), some (.int a4), some (.int a5), some (.int a6), some (.int a7), some (.int (a8 + 1)), some (.int r2)] []) ∧ (¬ r2 ≤ a5 → sm_V x 0 0 T I1 L1 57 [some (.ref 76), some (.int a1), some (.int a2), some (.int a3), some (.int ((10 * a6) + a8)), some (.int r2), some (.int a6), some (.int a7), some (.int (a8 + 1)), some (.int r2)] []))))) :
    sm_V x 0 0 T I L 57 [some (.ref 76), some (.int a1), some (.int a2), some (.int a3), some (.int a4), some (.int a5), some (.int a6), some (.int a7), some (.int a8), u9] [] :=
  sm_iload (z := a8) hx dX12_test_57 rfl (sm_aload_n (z := 76) hx dX12_test_59 rfl (sm_getI hx dX12_test_60 fl_X12_275_12 (t_76 hB) rfl (sm_icmpge (a := a8) (b := (I 76 26)) hx dX12_test_63 (tgt := 112) (by decide) (fun q4 => sm_aload_n (z := 76) hx dX12_test_112 rfl (sm_getR hx dX12_test_113 fl_X12_55_12 (t_76 hB) rfl (sm_iload (z := a6) hx dX12_test_116 rfl (sm_iload (z := a7) hx dX12_test_118 rfl (sm_iast (i := a6) (v := a7) hx dX12_test_120 (t_92 hB) (h.1 q4).1 (sm_iinc (ls' := [some (.ref 76), some (.int a1), some (.int a2), some (.int a3), some (.int a4), some (.int a5), some (.int (a6 + 1)), some (.int a7), some (.int a8), u9]) (z := a6) (v := (a6 + 1)) hx dX12_test_121 rfl (sm_kii_1 _) (by decide) rfl (sm_goto hx dX12_test_124 (tgt := 36) (by decide) ((h.1 q4).2)))))))) (fun q4 => sm_aload_n (z := 76) hx dX12_test_66 rfl (sm_getR hx dX12_test_67 fl_X12_55_12 (t_76 hB) rfl (sm_iload (z := a6) hx dX12_test_70 rfl (sm_iload (z := a8) hx dX12_test_72 rfl (sm_iast (i := a6) (v := a8) hx dX12_test_74 (t_92 hB) (h.2 q4).1 (sm_aload_n (z := 76) hx dX12_test_75 rfl (sm_iload_n (z := a1) hx dX12_test_76 rfl (sm_iload (z := a6) hx dX12_test_77 rfl (sm_iload_n (z := a2) hx dX12_test_79 rfl (sm_callVI (args := [.int a1, .int a6, .int a2]) (st := []) hx dX12_test_80 lv_X12_408_12 rfl rfl (t_76 hB) rfl rfl (h.2 q4).2 (fun r2 I1 L1 hI1 => sm_istore (ls' := [some (.ref 76), some (.int a1), some (.int a2), some (.int a3), some (.int a4), some (.int a5), some (.int a6), some (.int a7), some (.int a8), some (.int r2)]) hx dX12_test_83 (by decide) rfl (sm_iload (z := r2) hx dX12_test_85 rfl (sm_iload (z := a5) hx dX12_test_87 rfl (sm_icmple (a := r2) (b := a5) hx dX12_test_89 (tgt := 106) (by decide) (fun q3 => sm_iinc (ls' := [some (.ref 76), some (.int a1), some (.int a2), some (.int a3), some (.int a4), some (.int a5), some (.int a6), some (.int a7), some (.int (a8 + 1)), some (.int r2)]) (z := a8) (v := (a8 + 1)) hx dX12_test_106 rfl (sm_kii_1 _) (by decide) rfl (sm_goto hx dX12_test_109 (tgt := 57) (by decide) ((hI1.1 q3)))) (fun q3 => sm_bipush (v := 10) hx dX12_test_92 sm_kb_10 (sm_iload (z := a6) hx dX12_test_94 rfl (sm_imul (a := 10) (b := a6) hx dX12_test_96 (sm_iload (z := a8) hx dX12_test_97 rfl (sm_iadd (a := (10 * a6)) (b := a8) hx dX12_test_99 (sm_istore (ls' := [some (.ref 76), some (.int a1), some (.int a2), some (.int a3), some (.int ((10 * a6) + a8)), some (.int a5), some (.int a6), some (.int a7), some (.int a8), some (.int r2)]) hx dX12_test_100 (by decide) rfl (sm_iload (z := r2) hx dX12_test_102 rfl (sm_istore (ls' := [some (.ref 76), some (.int a1), some (.int a2), some (.int a3), some (.int ((10 * a6) + a8)), some (.int r2), some (.int a6), some (.int a7), some (.int a8), some (.int r2)]) hx dX12_test_104 (by decide) rfl (sm_iinc (ls' := [some (.ref 76), some (.int a1), some (.int a2), some (.int a3), some (.int ((10 * a6) + a8)), some (.int r2), some (.int a6), some (.int a7), some (.int (a8 + 1)), some (.int r2)]) (z := a8) (v := (a8 + 1)) hx dX12_test_106 rfl (sm_kii_1 _) (by decide) rfl (sm_goto hx dX12_test_109 (tgt := 57) (by decide) ((hI1.2 q3)))))))))))))))))))))))))))))
set_option maxRecDepth 100000 in
theorem c_X12_test {n : Nat} {F : Int32 → sm_MI → sm_ML → Prop} {T : List sm_Sh} {I : sm_MI} {L : sm_ML} {a1 : Int32} {a2 : Int32} {a3 : Int32} (hB : sm_Bs T)
    (h : ∀ x : sm_Cx, sm_Ok x mX12_test (n + 1) (sm_KI T F) → sm_CZ n mX12_isSleeper T I L [.ref 76, .int a1] (fun r2 I1 L1 => (r2 = false → F (-1) I1 L1) ∧ (r2 = true → sm_CZ n mX12_areNights T I1 L1 [.ref 76, .int a2] (fun r4 I3 L3 => (r4 = false → F (-1) I3 L3) ∧ (r4 = true → sm_CZ n mX12_in T I3 L3 [.int a3, .int 0, .int 1] (fun r6 I5 L5 => (r6 = true → sm_V x 0 0 T I5 L5 36 [some (.ref 76), some (.int a1), some (.int a2), some (.int a3), some (.int (-1)), some (.int 0), some (.int 0), none, none, none] []) ∧ (r6 = false → F (-1) I5 L5))))))) :
    sm_CI (n + 1) mX12_test T I L [.ref 76, .int a1, .int a2, .int a3] F :=
  sm_CI.of (by decide +kernel) rfl (fun x hx => show sm_V x 0 0 T I L 0 [some (.ref 76), some (.int a1), some (.int a2), some (.int a3), none, none, none, none, none, none] [] from
  sm_aload_n (z := 76) hx dX12_test_0 rfl (sm_iload_n (z := a1) hx dX12_test_1 rfl (sm_callVZ (args := [.int a1]) (st := []) hx dX12_test_2 lv_X12_312_12 rfl rfl (t_76 hB) rfl rfl (h x hx) (fun r2 I1 L1 hI1 => sm_ifeqZ (b := r2) hx dX12_test_5 (tgt := 25) (by decide) (fun q7 => sm_iconst (v := (-1)) hx dX12_test_25 sm_kc_m1 (sm_iretI hx dX12_test_26 rfl (hI1.1 q7))) (fun q7 => sm_aload_n (z := 76) hx dX12_test_8 rfl (sm_iload_n (z := a2) hx dX12_test_9 rfl (sm_callVZ (args := [.int a2]) (st := []) hx dX12_test_10 lv_X12_366_12 rfl rfl (t_76 hB) rfl rfl (hI1.2 q7) (fun r4 I3 L3 hI3 => sm_ifeqZ (b := r4) hx dX12_test_13 (tgt := 25) (by decide) (fun q6 => sm_iconst (v := (-1)) hx dX12_test_25 sm_kc_m1 (sm_iretI hx dX12_test_26 rfl (hI3.1 q6))) (fun q6 => sm_iload_n (z := a3) hx dX12_test_16 rfl (sm_iconst (v := 0) hx dX12_test_17 sm_kc_0 (sm_iconst (v := 1) hx dX12_test_18 sm_kc_1 (sm_callSZ (args := [.int a3, .int 0, .int 1]) (st := []) hx dX12_test_19 ls_X12_227 rfl rfl rfl (hI3.2 q6) (fun r6 I5 L5 hI5 => sm_ifneZ (b := r6) hx dX12_test_22 (tgt := 27) (by decide) (fun q5 => sm_iconst (v := (-1)) hx dX12_test_27 sm_kc_m1 (sm_istore (ls' := [some (.ref 76), some (.int a1), some (.int a2), some (.int a3), some (.int (-1)), none, none, none, none, none]) hx dX12_test_28 (by decide) rfl (sm_iconst (v := 0) hx dX12_test_30 sm_kc_0 (sm_istore (ls' := [some (.ref 76), some (.int a1), some (.int a2), some (.int a3), some (.int (-1)), some (.int 0), none, none, none, none]) hx dX12_test_31 (by decide) rfl (sm_iconst (v := 0) hx dX12_test_33 sm_kc_0 (sm_istore (ls' := [some (.ref 76), some (.int a1), some (.int a2), some (.int a3), some (.int (-1)), some (.int 0), some (.int 0), none, none, none]) hx dX12_test_34 (by decide) rfl ((hI5.1 q5)))))))) (fun q5 => sm_iconst (v := (-1)) hx dX12_test_25 sm_kc_m1 (sm_iretI hx dX12_test_26 rfl (hI5.2 q5))))))))))))))))
theorem dX12_keepWalk_0 : decode cX12_keepWalk 0 = .ok (.iconst 0, 1) := by decide +kernel
theorem dX12_keepWalk_1 : decode cX12_keepWalk 1 = .ok (.istore_n 2, 1) := by decide +kernel
theorem dX12_keepWalk_2 : decode cX12_keepWalk 2 = .ok (.iload_n 2, 1) := by decide +kernel
theorem dX12_keepWalk_3 : decode cX12_keepWalk 3 = .ok (.bipush 8, 2) := by decide +kernel
theorem dX12_keepWalk_5 : decode cX12_keepWalk 5 = .ok (.if_icmp .ge 26, 3) := by decide +kernel
theorem dX12_keepWalk_8 : decode cX12_keepWalk 8 = .ok (.aload_n 0, 1) := by decide +kernel
theorem dX12_keepWalk_9 : decode cX12_keepWalk 9 = .ok (.getfield 97, 3) := by decide +kernel
theorem dX12_keepWalk_12 : decode cX12_keepWalk 12 = .ok (.bipush 8, 2) := by decide +kernel
theorem dX12_keepWalk_14 : decode cX12_keepWalk 14 = .ok (.iload_n 1, 1) := by decide +kernel
theorem dX12_keepWalk_15 : decode cX12_keepWalk 15 = .ok (.imul, 1) := by decide +kernel
theorem dX12_keepWalk_16 : decode cX12_keepWalk 16 = .ok (.iload_n 2, 1) := by decide +kernel
theorem dX12_keepWalk_17 : decode cX12_keepWalk 17 = .ok (.iadd, 1) := by decide +kernel
theorem dX12_keepWalk_18 : decode cX12_keepWalk 18 = .ok (.aload_n 0, 1) := by decide +kernel
theorem dX12_keepWalk_19 : decode cX12_keepWalk 19 = .ok (.getfield 55, 3) := by decide +kernel
theorem dX12_keepWalk_22 : decode cX12_keepWalk 22 = .ok (.iload_n 2, 1) := by decide +kernel
theorem dX12_keepWalk_23 : decode cX12_keepWalk 23 = .ok (.iaload, 1) := by decide +kernel
theorem dX12_keepWalk_24 : decode cX12_keepWalk 24 = .ok (.iastore, 1) := by decide +kernel
theorem dX12_keepWalk_25 : decode cX12_keepWalk 25 = .ok (.iinc 2 1, 3) := by decide +kernel
theorem dX12_keepWalk_28 : decode cX12_keepWalk 28 = .ok (.goto (-26), 3) := by decide +kernel
theorem dX12_keepWalk_31 : decode cX12_keepWalk 31 = .ok (.iconst 0, 1) := by decide +kernel
theorem dX12_keepWalk_32 : decode cX12_keepWalk 32 = .ok (.istore_n 2, 1) := by decide +kernel
theorem dX12_keepWalk_33 : decode cX12_keepWalk 33 = .ok (.iload_n 2, 1) := by decide +kernel
theorem dX12_keepWalk_34 : decode cX12_keepWalk 34 = .ok (.iconst 5, 1) := by decide +kernel
theorem dX12_keepWalk_35 : decode cX12_keepWalk 35 = .ok (.if_icmp .ge 25, 3) := by decide +kernel
theorem dX12_keepWalk_38 : decode cX12_keepWalk 38 = .ok (.aload_n 0, 1) := by decide +kernel
theorem dX12_keepWalk_39 : decode cX12_keepWalk 39 = .ok (.getfield 100, 3) := by decide +kernel
theorem dX12_keepWalk_42 : decode cX12_keepWalk 42 = .ok (.iconst 5, 1) := by decide +kernel
theorem dX12_keepWalk_43 : decode cX12_keepWalk 43 = .ok (.iload_n 1, 1) := by decide +kernel
theorem dX12_keepWalk_44 : decode cX12_keepWalk 44 = .ok (.imul, 1) := by decide +kernel
theorem dX12_keepWalk_45 : decode cX12_keepWalk 45 = .ok (.iload_n 2, 1) := by decide +kernel
theorem dX12_keepWalk_46 : decode cX12_keepWalk 46 = .ok (.iadd, 1) := by decide +kernel
theorem dX12_keepWalk_47 : decode cX12_keepWalk 47 = .ok (.aload_n 0, 1) := by decide +kernel
theorem dX12_keepWalk_48 : decode cX12_keepWalk 48 = .ok (.getfield 61, 3) := by decide +kernel
theorem dX12_keepWalk_51 : decode cX12_keepWalk 51 = .ok (.iload_n 2, 1) := by decide +kernel
theorem dX12_keepWalk_52 : decode cX12_keepWalk 52 = .ok (.iaload, 1) := by decide +kernel
theorem dX12_keepWalk_53 : decode cX12_keepWalk 53 = .ok (.iastore, 1) := by decide +kernel
theorem dX12_keepWalk_54 : decode cX12_keepWalk 54 = .ok (.iinc 2 1, 3) := by decide +kernel
theorem dX12_keepWalk_57 : decode cX12_keepWalk 57 = .ok (.goto (-24), 3) := by decide +kernel
theorem dX12_keepWalk_60 : decode cX12_keepWalk 60 = .ok (.return_, 1) := by decide +kernel
set_option maxRecDepth 100000 in
theorem u_X12_keepWalk_2 {x : sm_Cx} {n : Nat} {F : sm_MI → sm_ML → Prop} {T : List sm_Sh} {I : sm_MI} {L : sm_ML} {a1 : Int32} {a2 : Int32} (hB : sm_Bs T) (hx : sm_Ok x mX12_keepWalk n (sm_KV T F))
    (h : (8 ≤ a2 → sm_V x 0 0 T I L 33 [some (.ref 76), some (.int a1), some (.int 0)] []) ∧ (¬ 8 ≤ a2 → vp_in a2 8 ∧ (vp_in ((8 * a1) + a2) 328 ∧ (sm_V x 0 0 T (sm_uI I 104 (Int32.toNatClampNeg (((8 * a1) + a2))) (I 92 (Int32.toNatClampNeg (a2)))) L 2 [some (.ref 76), some (.int a1), some (.int (a2 + 1))] [])))) :
    sm_V x 0 0 T I L 2 [some (.ref 76), some (.int a1), some (.int a2)] [] :=
  sm_iload_n (z := a2) hx dX12_keepWalk_2 rfl (sm_bipush (v := 8) hx dX12_keepWalk_3 sm_kb_8 (sm_icmpge (a := a2) (b := 8) hx dX12_keepWalk_5 (tgt := 31) (by decide) (fun q1 => sm_iconst (v := 0) hx dX12_keepWalk_31 sm_kc_0 (sm_istore_n (ls' := [some (.ref 76), some (.int a1), some (.int 0)]) hx dX12_keepWalk_32 (by decide) rfl ((h.1 q1)))) (fun q1 => sm_aload_n (z := 76) hx dX12_keepWalk_8 rfl (sm_getR hx dX12_keepWalk_9 fl_X12_97_12 (t_76 hB) rfl (sm_bipush (v := 8) hx dX12_keepWalk_12 sm_kb_8 (sm_iload_n (z := a1) hx dX12_keepWalk_14 rfl (sm_imul (a := 8) (b := a1) hx dX12_keepWalk_15 (sm_iload_n (z := a2) hx dX12_keepWalk_16 rfl (sm_iadd (a := (8 * a1)) (b := a2) hx dX12_keepWalk_17 (sm_aload_n (z := 76) hx dX12_keepWalk_18 rfl (sm_getR hx dX12_keepWalk_19 fl_X12_55_12 (t_76 hB) rfl (sm_iload_n (z := a2) hx dX12_keepWalk_22 rfl (sm_iald (i := a2) hx dX12_keepWalk_23 (t_92 hB) (h.2 q1).1 (sm_iast (i := ((8 * a1) + a2)) (v := (I 92 (Int32.toNatClampNeg (a2)))) hx dX12_keepWalk_24 (t_104 hB) (h.2 q1).2.1 (sm_iinc (ls' := [some (.ref 76), some (.int a1), some (.int (a2 + 1))]) (z := a2) (v := (a2 + 1)) hx dX12_keepWalk_25 rfl (sm_kii_1 _) (by decide) rfl (sm_goto hx dX12_keepWalk_28 (tgt := 2) (by decide) ((h.2 q1).2.2)))))))))))))))))
set_option maxRecDepth 100000 in
theorem u_X12_keepWalk_33 {x : sm_Cx} {n : Nat} {F : sm_MI → sm_ML → Prop} {T : List sm_Sh} {I : sm_MI} {L : sm_ML} {a1 : Int32} {a2 : Int32} (hB : sm_Bs T) (hx : sm_Ok x mX12_keepWalk n (sm_KV T F))
    (h : (5 ≤ a2 → F I L) ∧ (¬ 5 ≤ a2 → vp_in a2 5 ∧ (vp_in ((5 * a1) + a2) 205 ∧ (sm_V x 0 0 T (sm_uI I 105 (Int32.toNatClampNeg (((5 * a1) + a2))) (I 94 (Int32.toNatClampNeg (a2)))) L 33 [some (.ref 76), some (.int a1), some (.int (a2 + 1))] [])))) :
    sm_V x 0 0 T I L 33 [some (.ref 76), some (.int a1), some (.int a2)] [] :=
  sm_iload_n (z := a2) hx dX12_keepWalk_33 rfl (sm_iconst (v := 5) hx dX12_keepWalk_34 sm_kc_5 (sm_icmpge (a := a2) (b := 5) hx dX12_keepWalk_35 (tgt := 60) (by decide) (fun q2 => sm_vretV hx dX12_keepWalk_60 rfl (h.1 q2)) (fun q2 => sm_aload_n (z := 76) hx dX12_keepWalk_38 rfl (sm_getR hx dX12_keepWalk_39 fl_X12_100_12 (t_76 hB) rfl (sm_iconst (v := 5) hx dX12_keepWalk_42 sm_kc_5 (sm_iload_n (z := a1) hx dX12_keepWalk_43 rfl (sm_imul (a := 5) (b := a1) hx dX12_keepWalk_44 (sm_iload_n (z := a2) hx dX12_keepWalk_45 rfl (sm_iadd (a := (5 * a1)) (b := a2) hx dX12_keepWalk_46 (sm_aload_n (z := 76) hx dX12_keepWalk_47 rfl (sm_getR hx dX12_keepWalk_48 fl_X12_61_12 (t_76 hB) rfl (sm_iload_n (z := a2) hx dX12_keepWalk_51 rfl (sm_iald (i := a2) hx dX12_keepWalk_52 (t_94 hB) (h.2 q2).1 (sm_iast (i := ((5 * a1) + a2)) (v := (I 94 (Int32.toNatClampNeg (a2)))) hx dX12_keepWalk_53 (t_105 hB) (h.2 q2).2.1 (sm_iinc (ls' := [some (.ref 76), some (.int a1), some (.int (a2 + 1))]) (z := a2) (v := (a2 + 1)) hx dX12_keepWalk_54 rfl (sm_kii_1 _) (by decide) rfl (sm_goto hx dX12_keepWalk_57 (tgt := 33) (by decide) ((h.2 q2).2.2)))))))))))))))))
set_option maxRecDepth 100000 in
theorem c_X12_keepWalk {n : Nat} {F : sm_MI → sm_ML → Prop} {T : List sm_Sh} {I : sm_MI} {L : sm_ML} {a1 : Int32} (hB : sm_Bs T)
    (h : ∀ x : sm_Cx, sm_Ok x mX12_keepWalk n (sm_KV T F) → sm_V x 0 0 T I L 2 [some (.ref 76), some (.int a1), some (.int 0)] []) :
    sm_CV n mX12_keepWalk T I L [.ref 76, .int a1] F :=
  sm_CV.of (by decide +kernel) rfl (fun x hx => show sm_V x 0 0 T I L 0 [some (.ref 76), some (.int a1), none] [] from
  sm_iconst (v := 0) hx dX12_keepWalk_0 sm_kc_0 (sm_istore_n (ls' := [some (.ref 76), some (.int a1), some (.int 0)]) hx dX12_keepWalk_1 (by decide) rfl ((h x hx))))
theorem dX12_takeWalk_0 : decode cX12_takeWalk 0 = .ok (.iconst 0, 1) := by decide +kernel
theorem dX12_takeWalk_1 : decode cX12_takeWalk 1 = .ok (.istore_n 2, 1) := by decide +kernel
theorem dX12_takeWalk_2 : decode cX12_takeWalk 2 = .ok (.iload_n 2, 1) := by decide +kernel
theorem dX12_takeWalk_3 : decode cX12_takeWalk 3 = .ok (.bipush 8, 2) := by decide +kernel
theorem dX12_takeWalk_5 : decode cX12_takeWalk 5 = .ok (.if_icmp .ge 26, 3) := by decide +kernel
theorem dX12_takeWalk_8 : decode cX12_takeWalk 8 = .ok (.aload_n 0, 1) := by decide +kernel
theorem dX12_takeWalk_9 : decode cX12_takeWalk 9 = .ok (.getfield 55, 3) := by decide +kernel
theorem dX12_takeWalk_12 : decode cX12_takeWalk 12 = .ok (.iload_n 2, 1) := by decide +kernel
theorem dX12_takeWalk_13 : decode cX12_takeWalk 13 = .ok (.aload_n 0, 1) := by decide +kernel
theorem dX12_takeWalk_14 : decode cX12_takeWalk 14 = .ok (.getfield 97, 3) := by decide +kernel
theorem dX12_takeWalk_17 : decode cX12_takeWalk 17 = .ok (.bipush 8, 2) := by decide +kernel
theorem dX12_takeWalk_19 : decode cX12_takeWalk 19 = .ok (.iload_n 1, 1) := by decide +kernel
theorem dX12_takeWalk_20 : decode cX12_takeWalk 20 = .ok (.imul, 1) := by decide +kernel
theorem dX12_takeWalk_21 : decode cX12_takeWalk 21 = .ok (.iload_n 2, 1) := by decide +kernel
theorem dX12_takeWalk_22 : decode cX12_takeWalk 22 = .ok (.iadd, 1) := by decide +kernel
theorem dX12_takeWalk_23 : decode cX12_takeWalk 23 = .ok (.iaload, 1) := by decide +kernel
theorem dX12_takeWalk_24 : decode cX12_takeWalk 24 = .ok (.iastore, 1) := by decide +kernel
theorem dX12_takeWalk_25 : decode cX12_takeWalk 25 = .ok (.iinc 2 1, 3) := by decide +kernel
theorem dX12_takeWalk_28 : decode cX12_takeWalk 28 = .ok (.goto (-26), 3) := by decide +kernel
theorem dX12_takeWalk_31 : decode cX12_takeWalk 31 = .ok (.iconst 0, 1) := by decide +kernel
theorem dX12_takeWalk_32 : decode cX12_takeWalk 32 = .ok (.istore_n 2, 1) := by decide +kernel
theorem dX12_takeWalk_33 : decode cX12_takeWalk 33 = .ok (.iload_n 2, 1) := by decide +kernel
theorem dX12_takeWalk_34 : decode cX12_takeWalk 34 = .ok (.iconst 5, 1) := by decide +kernel
theorem dX12_takeWalk_35 : decode cX12_takeWalk 35 = .ok (.if_icmp .ge 25, 3) := by decide +kernel
theorem dX12_takeWalk_38 : decode cX12_takeWalk 38 = .ok (.aload_n 0, 1) := by decide +kernel
theorem dX12_takeWalk_39 : decode cX12_takeWalk 39 = .ok (.getfield 61, 3) := by decide +kernel
theorem dX12_takeWalk_42 : decode cX12_takeWalk 42 = .ok (.iload_n 2, 1) := by decide +kernel
theorem dX12_takeWalk_43 : decode cX12_takeWalk 43 = .ok (.aload_n 0, 1) := by decide +kernel
theorem dX12_takeWalk_44 : decode cX12_takeWalk 44 = .ok (.getfield 100, 3) := by decide +kernel
theorem dX12_takeWalk_47 : decode cX12_takeWalk 47 = .ok (.iconst 5, 1) := by decide +kernel
theorem dX12_takeWalk_48 : decode cX12_takeWalk 48 = .ok (.iload_n 1, 1) := by decide +kernel
theorem dX12_takeWalk_49 : decode cX12_takeWalk 49 = .ok (.imul, 1) := by decide +kernel
theorem dX12_takeWalk_50 : decode cX12_takeWalk 50 = .ok (.iload_n 2, 1) := by decide +kernel
theorem dX12_takeWalk_51 : decode cX12_takeWalk 51 = .ok (.iadd, 1) := by decide +kernel
theorem dX12_takeWalk_52 : decode cX12_takeWalk 52 = .ok (.iaload, 1) := by decide +kernel
theorem dX12_takeWalk_53 : decode cX12_takeWalk 53 = .ok (.iastore, 1) := by decide +kernel
theorem dX12_takeWalk_54 : decode cX12_takeWalk 54 = .ok (.iinc 2 1, 3) := by decide +kernel
theorem dX12_takeWalk_57 : decode cX12_takeWalk 57 = .ok (.goto (-24), 3) := by decide +kernel
theorem dX12_takeWalk_60 : decode cX12_takeWalk 60 = .ok (.return_, 1) := by decide +kernel
set_option maxRecDepth 100000 in
theorem u_X12_takeWalk_2 {x : sm_Cx} {n : Nat} {F : sm_MI → sm_ML → Prop} {T : List sm_Sh} {I : sm_MI} {L : sm_ML} {a1 : Int32} {a2 : Int32} (hB : sm_Bs T) (hx : sm_Ok x mX12_takeWalk n (sm_KV T F))
    (h : (8 ≤ a2 → sm_V x 0 0 T I L 33 [some (.ref 76), some (.int a1), some (.int 0)] []) ∧ (¬ 8 ≤ a2 → vp_in ((8 * a1) + a2) 328 ∧ (vp_in a2 8 ∧ (sm_V x 0 0 T (sm_uI I 92 (Int32.toNatClampNeg (a2)) (I 104 (Int32.toNatClampNeg (((8 * a1) + a2))))) L 2 [some (.ref 76), some (.int a1), some (.int (a2 + 1))] [])))) :
    sm_V x 0 0 T I L 2 [some (.ref 76), some (.int a1), some (.int a2)] [] :=
  sm_iload_n (z := a2) hx dX12_takeWalk_2 rfl (sm_bipush (v := 8) hx dX12_takeWalk_3 sm_kb_8 (sm_icmpge (a := a2) (b := 8) hx dX12_takeWalk_5 (tgt := 31) (by decide) (fun q1 => sm_iconst (v := 0) hx dX12_takeWalk_31 sm_kc_0 (sm_istore_n (ls' := [some (.ref 76), some (.int a1), some (.int 0)]) hx dX12_takeWalk_32 (by decide) rfl ((h.1 q1)))) (fun q1 => sm_aload_n (z := 76) hx dX12_takeWalk_8 rfl (sm_getR hx dX12_takeWalk_9 fl_X12_55_12 (t_76 hB) rfl (sm_iload_n (z := a2) hx dX12_takeWalk_12 rfl (sm_aload_n (z := 76) hx dX12_takeWalk_13 rfl (sm_getR hx dX12_takeWalk_14 fl_X12_97_12 (t_76 hB) rfl (sm_bipush (v := 8) hx dX12_takeWalk_17 sm_kb_8 (sm_iload_n (z := a1) hx dX12_takeWalk_19 rfl (sm_imul (a := 8) (b := a1) hx dX12_takeWalk_20 (sm_iload_n (z := a2) hx dX12_takeWalk_21 rfl (sm_iadd (a := (8 * a1)) (b := a2) hx dX12_takeWalk_22 (sm_iald (i := ((8 * a1) + a2)) hx dX12_takeWalk_23 (t_104 hB) (h.2 q1).1 (sm_iast (i := a2) (v := (I 104 (Int32.toNatClampNeg (((8 * a1) + a2))))) hx dX12_takeWalk_24 (t_92 hB) (h.2 q1).2.1 (sm_iinc (ls' := [some (.ref 76), some (.int a1), some (.int (a2 + 1))]) (z := a2) (v := (a2 + 1)) hx dX12_takeWalk_25 rfl (sm_kii_1 _) (by decide) rfl (sm_goto hx dX12_takeWalk_28 (tgt := 2) (by decide) ((h.2 q1).2.2)))))))))))))))))
set_option maxRecDepth 100000 in
theorem u_X12_takeWalk_33 {x : sm_Cx} {n : Nat} {F : sm_MI → sm_ML → Prop} {T : List sm_Sh} {I : sm_MI} {L : sm_ML} {a1 : Int32} {a2 : Int32} (hB : sm_Bs T) (hx : sm_Ok x mX12_takeWalk n (sm_KV T F))
    (h : (5 ≤ a2 → F I L) ∧ (¬ 5 ≤ a2 → vp_in ((5 * a1) + a2) 205 ∧ (vp_in a2 5 ∧ (sm_V x 0 0 T (sm_uI I 94 (Int32.toNatClampNeg (a2)) (I 105 (Int32.toNatClampNeg (((5 * a1) + a2))))) L 33 [some (.ref 76), some (.int a1), some (.int (a2 + 1))] [])))) :
    sm_V x 0 0 T I L 33 [some (.ref 76), some (.int a1), some (.int a2)] [] :=
  sm_iload_n (z := a2) hx dX12_takeWalk_33 rfl (sm_iconst (v := 5) hx dX12_takeWalk_34 sm_kc_5 (sm_icmpge (a := a2) (b := 5) hx dX12_takeWalk_35 (tgt := 60) (by decide) (fun q2 => sm_vretV hx dX12_takeWalk_60 rfl (h.1 q2)) (fun q2 => sm_aload_n (z := 76) hx dX12_takeWalk_38 rfl (sm_getR hx dX12_takeWalk_39 fl_X12_61_12 (t_76 hB) rfl (sm_iload_n (z := a2) hx dX12_takeWalk_42 rfl (sm_aload_n (z := 76) hx dX12_takeWalk_43 rfl (sm_getR hx dX12_takeWalk_44 fl_X12_100_12 (t_76 hB) rfl (sm_iconst (v := 5) hx dX12_takeWalk_47 sm_kc_5 (sm_iload_n (z := a1) hx dX12_takeWalk_48 rfl (sm_imul (a := 5) (b := a1) hx dX12_takeWalk_49 (sm_iload_n (z := a2) hx dX12_takeWalk_50 rfl (sm_iadd (a := (5 * a1)) (b := a2) hx dX12_takeWalk_51 (sm_iald (i := ((5 * a1) + a2)) hx dX12_takeWalk_52 (t_105 hB) (h.2 q2).1 (sm_iast (i := a2) (v := (I 105 (Int32.toNatClampNeg (((5 * a1) + a2))))) hx dX12_takeWalk_53 (t_94 hB) (h.2 q2).2.1 (sm_iinc (ls' := [some (.ref 76), some (.int a1), some (.int (a2 + 1))]) (z := a2) (v := (a2 + 1)) hx dX12_takeWalk_54 rfl (sm_kii_1 _) (by decide) rfl (sm_goto hx dX12_takeWalk_57 (tgt := 33) (by decide) ((h.2 q2).2.2)))))))))))))))))
set_option maxRecDepth 100000 in
theorem c_X12_takeWalk {n : Nat} {F : sm_MI → sm_ML → Prop} {T : List sm_Sh} {I : sm_MI} {L : sm_ML} {a1 : Int32} (hB : sm_Bs T)
    (h : ∀ x : sm_Cx, sm_Ok x mX12_takeWalk n (sm_KV T F) → sm_V x 0 0 T I L 2 [some (.ref 76), some (.int a1), some (.int 0)] []) :
    sm_CV n mX12_takeWalk T I L [.ref 76, .int a1] F :=
  sm_CV.of (by decide +kernel) rfl (fun x hx => show sm_V x 0 0 T I L 0 [some (.ref 76), some (.int a1), none] [] from
  sm_iconst (v := 0) hx dX12_takeWalk_0 sm_kc_0 (sm_istore_n (ls' := [some (.ref 76), some (.int a1), some (.int 0)]) hx dX12_takeWalk_1 (by decide) rfl ((h x hx))))
theorem dX12_oddsFrom_0 : decode cX12_oddsFrom 0 = .ok (.lload 5, 2) := by decide +kernel
theorem dX12_oddsFrom_2 : decode cX12_oddsFrom 2 = .ok (.lconst 0, 1) := by decide +kernel
theorem dX12_oddsFrom_3 : decode cX12_oddsFrom 3 = .ok (.lcmp, 1) := by decide +kernel
theorem dX12_oddsFrom_4 : decode cX12_oddsFrom 4 = .ok (.ifCond .ne 5, 3) := by decide +kernel
theorem dX12_oddsFrom_7 : decode cX12_oddsFrom 7 = .ok (.lconst 0, 1) := by decide +kernel
theorem dX12_oddsFrom_8 : decode cX12_oddsFrom 8 = .ok (.lreturn, 1) := by decide +kernel
theorem dX12_oddsFrom_9 : decode cX12_oddsFrom 9 = .ok (.iload_n 1, 1) := by decide +kernel
theorem dX12_oddsFrom_10 : decode cX12_oddsFrom 10 = .ok (.iload_n 2, 1) := by decide +kernel
theorem dX12_oddsFrom_11 : decode cX12_oddsFrom 11 = .ok (.if_icmp .ne 21, 3) := by decide +kernel
theorem dX12_oddsFrom_14 : decode cX12_oddsFrom 14 = .ok (.aload_n 0, 1) := by decide +kernel
theorem dX12_oddsFrom_15 : decode cX12_oddsFrom 15 = .ok (.getfield 55, 3) := by decide +kernel
theorem dX12_oddsFrom_18 : decode cX12_oddsFrom 18 = .ok (.iload_n 3, 1) := by decide +kernel
theorem dX12_oddsFrom_19 : decode cX12_oddsFrom 19 = .ok (.iaload, 1) := by decide +kernel
theorem dX12_oddsFrom_20 : decode cX12_oddsFrom 20 = .ok (.iload 4, 2) := by decide +kernel
theorem dX12_oddsFrom_22 : decode cX12_oddsFrom 22 = .ok (.if_icmp .ne 8, 3) := by decide +kernel
theorem dX12_oddsFrom_25 : decode cX12_oddsFrom 25 = .ok (.lload 5, 2) := by decide +kernel
theorem dX12_oddsFrom_27 : decode cX12_oddsFrom 27 = .ok (.goto 4, 3) := by decide +kernel
theorem dX12_oddsFrom_30 : decode cX12_oddsFrom 30 = .ok (.lconst 0, 1) := by decide +kernel
theorem dX12_oddsFrom_31 : decode cX12_oddsFrom 31 = .ok (.lreturn, 1) := by decide +kernel
theorem dX12_oddsFrom_32 : decode cX12_oddsFrom 32 = .ok (.iload_n 1, 1) := by decide +kernel
theorem dX12_oddsFrom_33 : decode cX12_oddsFrom 33 = .ok (.aload_n 0, 1) := by decide +kernel
theorem dX12_oddsFrom_34 : decode cX12_oddsFrom 34 = .ok (.getfield 278, 3) := by decide +kernel
theorem dX12_oddsFrom_37 : decode cX12_oddsFrom 37 = .ok (.irem, 1) := by decide +kernel
theorem dX12_oddsFrom_38 : decode cX12_oddsFrom 38 = .ok (.istore 7, 2) := by decide +kernel
theorem dX12_oddsFrom_40 : decode cX12_oddsFrom 40 = .ok (.aload_n 0, 1) := by decide +kernel
theorem dX12_oddsFrom_41 : decode cX12_oddsFrom 41 = .ok (.getfield 379, 3) := by decide +kernel
theorem dX12_oddsFrom_44 : decode cX12_oddsFrom 44 = .ok (.iload_n 1, 1) := by decide +kernel
theorem dX12_oddsFrom_45 : decode cX12_oddsFrom 45 = .ok (.aload_n 0, 1) := by decide +kernel
theorem dX12_oddsFrom_46 : decode cX12_oddsFrom 46 = .ok (.getfield 278, 3) := by decide +kernel
theorem dX12_oddsFrom_49 : decode cX12_oddsFrom 49 = .ok (.idiv, 1) := by decide +kernel
theorem dX12_oddsFrom_50 : decode cX12_oddsFrom 50 = .ok (.iadd, 1) := by decide +kernel
theorem dX12_oddsFrom_51 : decode cX12_oddsFrom 51 = .ok (.istore 8, 2) := by decide +kernel
theorem dX12_oddsFrom_53 : decode cX12_oddsFrom 53 = .ok (.aload_n 0, 1) := by decide +kernel
theorem dX12_oddsFrom_54 : decode cX12_oddsFrom 54 = .ok (.iload 7, 2) := by decide +kernel
theorem dX12_oddsFrom_56 : decode cX12_oddsFrom 56 = .ok (.iconst 2, 1) := by decide +kernel
theorem dX12_oddsFrom_57 : decode cX12_oddsFrom 57 = .ok (.invokevirtual 315, 3) := by decide +kernel
theorem dX12_oddsFrom_60 : decode cX12_oddsFrom 60 = .ok (.iconst 3, 1) := by decide +kernel
theorem dX12_oddsFrom_61 : decode cX12_oddsFrom 61 = .ok (.if_icmp .ne 18, 3) := by decide +kernel
theorem dX12_oddsFrom_64 : decode cX12_oddsFrom 64 = .ok (.lload 5, 2) := by decide +kernel
theorem dX12_oddsFrom_66 : decode cX12_oddsFrom 66 = .ok (.aload_n 0, 1) := by decide +kernel
theorem dX12_oddsFrom_67 : decode cX12_oddsFrom 67 = .ok (.getfield 327, 3) := by decide +kernel
theorem dX12_oddsFrom_70 : decode cX12_oddsFrom 70 = .ok (.i2l, 1) := by decide +kernel
theorem dX12_oddsFrom_71 : decode cX12_oddsFrom 71 = .ok (.lmul, 1) := by decide +kernel
theorem dX12_oddsFrom_72 : decode cX12_oddsFrom 72 = .ok (.ldc2_w 364, 3) := by decide +kernel
theorem dX12_oddsFrom_75 : decode cX12_oddsFrom 75 = .ok (.ldiv, 1) := by decide +kernel
theorem dX12_oddsFrom_76 : decode cX12_oddsFrom 76 = .ok (.goto 4, 3) := by decide +kernel
theorem dX12_oddsFrom_79 : decode cX12_oddsFrom 79 = .ok (.lconst 0, 1) := by decide +kernel
theorem dX12_oddsFrom_80 : decode cX12_oddsFrom 80 = .ok (.lstore 9, 2) := by decide +kernel
theorem dX12_oddsFrom_82 : decode cX12_oddsFrom 82 = .ok (.aload_n 0, 1) := by decide +kernel
theorem dX12_oddsFrom_83 : decode cX12_oddsFrom 83 = .ok (.iload_n 1, 1) := by decide +kernel
theorem dX12_oddsFrom_84 : decode cX12_oddsFrom 84 = .ok (.invokevirtual 411, 3) := by decide +kernel
theorem dX12_oddsFrom_87 : decode cX12_oddsFrom 87 = .ok (.aload_n 0, 1) := by decide +kernel
theorem dX12_oddsFrom_88 : decode cX12_oddsFrom 88 = .ok (.iload 7, 2) := by decide +kernel
theorem dX12_oddsFrom_90 : decode cX12_oddsFrom 90 = .ok (.iload 8, 2) := by decide +kernel
theorem dX12_oddsFrom_92 : decode cX12_oddsFrom 92 = .ok (.iconst 0, 1) := by decide +kernel
theorem dX12_oddsFrom_93 : decode cX12_oddsFrom 93 = .ok (.invokevirtual 375, 3) := by decide +kernel
theorem dX12_oddsFrom_96 : decode cX12_oddsFrom 96 = .ok (.pop, 1) := by decide +kernel
theorem dX12_oddsFrom_97 : decode cX12_oddsFrom 97 = .ok (.aload_n 0, 1) := by decide +kernel
theorem dX12_oddsFrom_98 : decode cX12_oddsFrom 98 = .ok (.iload_n 1, 1) := by decide +kernel
theorem dX12_oddsFrom_99 : decode cX12_oddsFrom 99 = .ok (.iconst 1, 1) := by decide +kernel
theorem dX12_oddsFrom_100 : decode cX12_oddsFrom 100 = .ok (.iadd, 1) := by decide +kernel
theorem dX12_oddsFrom_101 : decode cX12_oddsFrom 101 = .ok (.iload_n 2, 1) := by decide +kernel
theorem dX12_oddsFrom_102 : decode cX12_oddsFrom 102 = .ok (.iload_n 3, 1) := by decide +kernel
theorem dX12_oddsFrom_103 : decode cX12_oddsFrom 103 = .ok (.iload 4, 2) := by decide +kernel
theorem dX12_oddsFrom_105 : decode cX12_oddsFrom 105 = .ok (.lload 5, 2) := by decide +kernel
theorem dX12_oddsFrom_107 : decode cX12_oddsFrom 107 = .ok (.lload 9, 2) := by decide +kernel
theorem dX12_oddsFrom_109 : decode cX12_oddsFrom 109 = .ok (.lsub, 1) := by decide +kernel
theorem dX12_oddsFrom_110 : decode cX12_oddsFrom 110 = .ok (.invokevirtual 414, 3) := by decide +kernel
theorem dX12_oddsFrom_113 : decode cX12_oddsFrom 113 = .ok (.lstore 11, 2) := by decide +kernel
theorem dX12_oddsFrom_115 : decode cX12_oddsFrom 115 = .ok (.aload_n 0, 1) := by decide +kernel
theorem dX12_oddsFrom_116 : decode cX12_oddsFrom 116 = .ok (.iload_n 1, 1) := by decide +kernel
theorem dX12_oddsFrom_117 : decode cX12_oddsFrom 117 = .ok (.invokevirtual 418, 3) := by decide +kernel
theorem dX12_oddsFrom_120 : decode cX12_oddsFrom 120 = .ok (.lload 9, 2) := by decide +kernel
theorem dX12_oddsFrom_122 : decode cX12_oddsFrom 122 = .ok (.lconst 0, 1) := by decide +kernel
theorem dX12_oddsFrom_123 : decode cX12_oddsFrom 123 = .ok (.lcmp, 1) := by decide +kernel
theorem dX12_oddsFrom_124 : decode cX12_oddsFrom 124 = .ok (.ifCond .le 36, 3) := by decide +kernel
theorem dX12_oddsFrom_127 : decode cX12_oddsFrom 127 = .ok (.aload_n 0, 1) := by decide +kernel
theorem dX12_oddsFrom_128 : decode cX12_oddsFrom 128 = .ok (.iload 7, 2) := by decide +kernel
theorem dX12_oddsFrom_130 : decode cX12_oddsFrom 130 = .ok (.iload 8, 2) := by decide +kernel
theorem dX12_oddsFrom_132 : decode cX12_oddsFrom 132 = .ok (.iconst 1, 1) := by decide +kernel
theorem dX12_oddsFrom_133 : decode cX12_oddsFrom 133 = .ok (.invokevirtual 375, 3) := by decide +kernel
theorem dX12_oddsFrom_136 : decode cX12_oddsFrom 136 = .ok (.pop, 1) := by decide +kernel
theorem dX12_oddsFrom_137 : decode cX12_oddsFrom 137 = .ok (.lload 11, 2) := by decide +kernel
theorem dX12_oddsFrom_139 : decode cX12_oddsFrom 139 = .ok (.aload_n 0, 1) := by decide +kernel
theorem dX12_oddsFrom_140 : decode cX12_oddsFrom 140 = .ok (.iload_n 1, 1) := by decide +kernel
theorem dX12_oddsFrom_141 : decode cX12_oddsFrom 141 = .ok (.iconst 1, 1) := by decide +kernel
theorem dX12_oddsFrom_142 : decode cX12_oddsFrom 142 = .ok (.iadd, 1) := by decide +kernel
theorem dX12_oddsFrom_143 : decode cX12_oddsFrom 143 = .ok (.iload_n 2, 1) := by decide +kernel
theorem dX12_oddsFrom_144 : decode cX12_oddsFrom 144 = .ok (.iload_n 3, 1) := by decide +kernel
theorem dX12_oddsFrom_145 : decode cX12_oddsFrom 145 = .ok (.iload 4, 2) := by decide +kernel
theorem dX12_oddsFrom_147 : decode cX12_oddsFrom 147 = .ok (.lload 9, 2) := by decide +kernel
theorem dX12_oddsFrom_149 : decode cX12_oddsFrom 149 = .ok (.invokevirtual 414, 3) := by decide +kernel
theorem dX12_oddsFrom_152 : decode cX12_oddsFrom 152 = .ok (.ladd, 1) := by decide +kernel
theorem dX12_oddsFrom_153 : decode cX12_oddsFrom 153 = .ok (.lstore 11, 2) := by decide +kernel
theorem dX12_oddsFrom_155 : decode cX12_oddsFrom 155 = .ok (.aload_n 0, 1) := by decide +kernel
theorem dX12_oddsFrom_156 : decode cX12_oddsFrom 156 = .ok (.iload_n 1, 1) := by decide +kernel
theorem dX12_oddsFrom_157 : decode cX12_oddsFrom 157 = .ok (.invokevirtual 418, 3) := by decide +kernel
theorem dX12_oddsFrom_160 : decode cX12_oddsFrom 160 = .ok (.lload 11, 2) := by decide +kernel
theorem dX12_oddsFrom_162 : decode cX12_oddsFrom 162 = .ok (.lreturn, 1) := by decide +kernel
set_option maxRecDepth 100000 in
theorem u_X12_oddsFrom_80 {x : sm_Cx} {n : Nat} {F : Int64 → sm_MI → sm_ML → Prop} {T : List sm_Sh} {I : sm_MI} {L : sm_ML} {a1 : Int32} {a2 : Int32} {a3 : Int32} {a4 : Int32} {l5 : Int64} {a7 : Int32} {a8 : Int32} {ls0 : Int64} (hB : sm_Bs T) (hx : sm_Ok x mX12_oddsFrom (n + 1) (sm_KL T F))
    (h : sm_CV n mX12_keepWalk T I L [.ref 76, .int a1] (fun I1 L1 => sm_CI n mX12_walk T I1 L1 [.ref 76, .int a7, .int a8, .int (sm_z false)] (fun r3 I2 L2 => sm_CL n mX12_oddsFrom T I2 L2 [.ref 76, .int (a1 + 1), .int a2, .int a3, .int a4, .long (l5 - ls0)] (fun r5 I4 L4 => sm_CV n mX12_takeWalk T I4 L4 [.ref 76, .int a1] (fun I6 L6 => ((lg_cmp ls0 0) ≤ 0 → F r5 I6 L6) ∧ (¬ (lg_cmp ls0 0) ≤ 0 → sm_CI n mX12_walk T I6 L6 [.ref 76, .int a7, .int a8, .int (sm_z true)] (fun r8 I7 L7 => sm_CL n mX12_oddsFrom T I7 L7 [.ref 76, .int (a1 + 1), .int a2, .int a3, .int a4, .long ls0] (fun r10 I9 L9 => sm_CV n mX12_takeWalk T I9 L9 [.ref 76, .int a1] (fun I11 L11 => F (r5 + r10) I11 L11))))))))) :
    sm_V x 0 0 T I L 80 [some (.ref 76), some (.int a1), some (.int a2), some (.int a3), some (.int a4), some (.long l5), none, some (.int a7), some (.int a8), none, none, none, none] [.long ls0] :=
  sm_lstore (ls' := [some (.ref 76), some (.int a1), some (.int a2), some (.int a3), some (.int a4), some (.long l5), none, some (.int a7), some (.int a8), some (.long ls0), none, none, none]) hx dX12_oddsFrom_80 (by decide) rfl (sm_aload_n (z := 76) hx dX12_oddsFrom_82 rfl (sm_iload_n (z := a1) hx dX12_oddsFrom_83 rfl (sm_callVV (args := [.int a1]) (st := []) hx dX12_oddsFrom_84 lv_X12_411_12 rfl rfl (t_76 hB) rfl rfl h (fun I1 L1 hI1 => sm_aload_n (z := 76) hx dX12_oddsFrom_87 rfl (sm_iload (z := a7) hx dX12_oddsFrom_88 rfl (sm_iload (z := a8) hx dX12_oddsFrom_90 rfl (sm_iconst (v := 0) hx dX12_oddsFrom_92 sm_kc_0 (sm_callVI (args := [.int a7, .int a8, .int (sm_z false)]) (st := []) hx dX12_oddsFrom_93 lv_X12_375_12 rfl rfl (t_76 hB) rfl rfl hI1 (fun r3 I2 L2 hI2 => sm_pop hx dX12_oddsFrom_96 rfl (sm_aload_n (z := 76) hx dX12_oddsFrom_97 rfl (sm_iload_n (z := a1) hx dX12_oddsFrom_98 rfl (sm_iconst (v := 1) hx dX12_oddsFrom_99 sm_kc_1 (sm_iadd (a := a1) (b := 1) hx dX12_oddsFrom_100 (sm_iload_n (z := a2) hx dX12_oddsFrom_101 rfl (sm_iload_n (z := a3) hx dX12_oddsFrom_102 rfl (sm_iload (z := a4) hx dX12_oddsFrom_103 rfl (sm_lload (z := l5) hx dX12_oddsFrom_105 rfl (sm_lload (z := ls0) hx dX12_oddsFrom_107 rfl (sm_lsub (a := l5) (b := ls0) hx dX12_oddsFrom_109 (sm_callVL (args := [.int (a1 + 1), .int a2, .int a3, .int a4, .long (l5 - ls0)]) (st := []) hx dX12_oddsFrom_110 lv_X12_414_12 rfl rfl (t_76 hB) rfl rfl hI2 (fun r5 I4 L4 hI4 => sm_lstore (ls' := [some (.ref 76), some (.int a1), some (.int a2), some (.int a3), some (.int a4), some (.long l5), none, some (.int a7), some (.int a8), some (.long ls0), none, some (.long r5), none]) hx dX12_oddsFrom_113 (by decide) rfl (sm_aload_n (z := 76) hx dX12_oddsFrom_115 rfl (sm_iload_n (z := a1) hx dX12_oddsFrom_116 rfl (sm_callVV (args := [.int a1]) (st := []) hx dX12_oddsFrom_117 lv_X12_418_12 rfl rfl (t_76 hB) rfl rfl hI4 (fun I6 L6 hI6 => sm_lload (z := ls0) hx dX12_oddsFrom_120 rfl (sm_lconst (v := 0) hx dX12_oddsFrom_122 rfl (sm_lcmp (a := ls0) (b := 0) hx dX12_oddsFrom_123 (sm_ifle (a := (lg_cmp ls0 0)) hx dX12_oddsFrom_124 (tgt := 160) (by decide) (fun q1 => sm_lload (z := r5) hx dX12_oddsFrom_160 rfl (sm_lretL hx dX12_oddsFrom_162 rfl (hI6.1 q1))) (fun q1 => sm_aload_n (z := 76) hx dX12_oddsFrom_127 rfl (sm_iload (z := a7) hx dX12_oddsFrom_128 rfl (sm_iload (z := a8) hx dX12_oddsFrom_130 rfl (sm_iconst (v := 1) hx dX12_oddsFrom_132 sm_kc_1 (sm_callVI (args := [.int a7, .int a8, .int (sm_z true)]) (st := []) hx dX12_oddsFrom_133 lv_X12_375_12 rfl rfl (t_76 hB) rfl rfl (hI6.2 q1) (fun r8 I7 L7 hI7 => sm_pop hx dX12_oddsFrom_136 rfl (sm_lload (z := r5) hx dX12_oddsFrom_137 rfl (sm_aload_n (z := 76) hx dX12_oddsFrom_139 rfl (sm_iload_n (z := a1) hx dX12_oddsFrom_140 rfl (sm_iconst (v := 1) hx dX12_oddsFrom_141 sm_kc_1 (sm_iadd (a := a1) (b := 1) hx dX12_oddsFrom_142 (sm_iload_n (z := a2) hx dX12_oddsFrom_143 rfl (sm_iload_n (z := a3) hx dX12_oddsFrom_144 rfl (sm_iload (z := a4) hx dX12_oddsFrom_145 rfl (sm_lload (z := ls0) hx dX12_oddsFrom_147 rfl (sm_callVL (args := [.int (a1 + 1), .int a2, .int a3, .int a4, .long ls0]) (st := [.long r5]) hx dX12_oddsFrom_149 lv_X12_414_12 rfl rfl (t_76 hB) rfl rfl hI7 (fun r10 I9 L9 hI9 => sm_ladd (a := r5) (b := r10) hx dX12_oddsFrom_152 (sm_lstore (ls' := [some (.ref 76), some (.int a1), some (.int a2), some (.int a3), some (.int a4), some (.long l5), none, some (.int a7), some (.int a8), some (.long ls0), none, some (.long (r5 + r10)), none]) hx dX12_oddsFrom_153 (by decide) rfl (sm_aload_n (z := 76) hx dX12_oddsFrom_155 rfl (sm_iload_n (z := a1) hx dX12_oddsFrom_156 rfl (sm_callVV (args := [.int a1]) (st := []) hx dX12_oddsFrom_157 lv_X12_418_12 rfl rfl (t_76 hB) rfl rfl hI9 (fun I11 L11 hI11 => sm_lload (z := (r5 + r10)) hx dX12_oddsFrom_160 rfl (sm_lretL hx dX12_oddsFrom_162 rfl hI11)))))))))))))))))))))))))))))))))))))))))))))))))))
set_option maxRecDepth 100000 in
theorem c_X12_oddsFrom {n : Nat} {F : Int64 → sm_MI → sm_ML → Prop} {T : List sm_Sh} {I : sm_MI} {L : sm_ML} {a1 : Int32} {a2 : Int32} {a3 : Int32} {a4 : Int32} {l5 : Int64} (hB : sm_Bs T)
    (h : ∀ x : sm_Cx, sm_Ok x mX12_oddsFrom (n + 1) (sm_KL T F) → (¬ (lg_cmp l5 0) = 0 → (¬ a1 = a2 → ¬ (I 76 27) = 0 ∧ (¬ (I 76 27) = 0 ∧ (sm_CI n mX12_of T I L [.ref 76, .int (a1 - a1 / (I 76 27) * (I 76 27)), .int 2] (fun r2 I1 L1 => (¬ r2 = 3 → sm_V x 0 0 T I1 L1 80 [some (.ref 76), some (.int a1), some (.int a2), some (.int a3), some (.int a4), some (.long l5), none, some (.int (a1 - a1 / (I 76 27) * (I 76 27))), some (.int ((I 76 44) + (a1 / (I 76 27)))), none, none, none, none] [.long 0]) ∧ (r2 = 3 → sm_V x 0 0 T I1 L1 80 [some (.ref 76), some (.int a1), some (.int a2), some (.int a3), some (.int a4), some (.long l5), none, some (.int (a1 - a1 / (I 76 27) * (I 76 27))), some (.int ((I 76 44) + (a1 / (I 76 27)))), none, none, none, none] [.long ((l5 * (Int32.toInt64 (I1 76 35))) / 100)]))))) ∧ (a1 = a2 → vp_in a3 8 ∧ ((¬ (I 92 (Int32.toNatClampNeg (a3))) = a4 → F 0 I L) ∧ ((I 92 (Int32.toNatClampNeg (a3))) = a4 → F l5 I L)))) ∧ ((lg_cmp l5 0) = 0 → F 0 I L)) :
    sm_CL (n + 1) mX12_oddsFrom T I L [.ref 76, .int a1, .int a2, .int a3, .int a4, .long l5] F :=
  sm_CL.of (by decide +kernel) rfl (fun x hx => show sm_V x 0 0 T I L 0 [some (.ref 76), some (.int a1), some (.int a2), some (.int a3), some (.int a4), some (.long l5), none, none, none, none, none, none, none] [] from
  sm_lload (z := l5) hx dX12_oddsFrom_0 rfl (sm_lconst (v := 0) hx dX12_oddsFrom_2 rfl (sm_lcmp (a := l5) (b := 0) hx dX12_oddsFrom_3 (sm_ifne (a := (lg_cmp l5 0)) hx dX12_oddsFrom_4 (tgt := 9) (by decide) (fun q5 => sm_iload_n (z := a1) hx dX12_oddsFrom_9 rfl (sm_iload_n (z := a2) hx dX12_oddsFrom_10 rfl (sm_icmpne (a := a1) (b := a2) hx dX12_oddsFrom_11 (tgt := 32) (by decide) (fun q4 => sm_iload_n (z := a1) hx dX12_oddsFrom_32 rfl (sm_aload_n (z := 76) hx dX12_oddsFrom_33 rfl (sm_getI hx dX12_oddsFrom_34 fl_X12_278_12 (t_76 hB) rfl (sm_irem (a := a1) (b := (I 76 27)) hx dX12_oddsFrom_37 (((h x hx).1 q5).1 q4).1 (sm_istore (ls' := [some (.ref 76), some (.int a1), some (.int a2), some (.int a3), some (.int a4), some (.long l5), none, some (.int (a1 - a1 / (I 76 27) * (I 76 27))), none, none, none, none, none]) hx dX12_oddsFrom_38 (by decide) rfl (sm_aload_n (z := 76) hx dX12_oddsFrom_40 rfl (sm_getI hx dX12_oddsFrom_41 fl_X12_379_12 (t_76 hB) rfl (sm_iload_n (z := a1) hx dX12_oddsFrom_44 rfl (sm_aload_n (z := 76) hx dX12_oddsFrom_45 rfl (sm_getI hx dX12_oddsFrom_46 fl_X12_278_12 (t_76 hB) rfl (sm_idiv (a := a1) (b := (I 76 27)) hx dX12_oddsFrom_49 (((h x hx).1 q5).1 q4).2.1 (sm_iadd (a := (I 76 44)) (b := (a1 / (I 76 27))) hx dX12_oddsFrom_50 (sm_istore (ls' := [some (.ref 76), some (.int a1), some (.int a2), some (.int a3), some (.int a4), some (.long l5), none, some (.int (a1 - a1 / (I 76 27) * (I 76 27))), some (.int ((I 76 44) + (a1 / (I 76 27)))), none, none, none, none]) hx dX12_oddsFrom_51 (by decide) rfl (sm_aload_n (z := 76) hx dX12_oddsFrom_53 rfl (sm_iload (z := (a1 - a1 / (I 76 27) * (I 76 27))) hx dX12_oddsFrom_54 rfl (sm_iconst (v := 2) hx dX12_oddsFrom_56 sm_kc_2 (sm_callVI (args := [.int (a1 - a1 / (I 76 27) * (I 76 27)), .int 2]) (st := []) hx dX12_oddsFrom_57 lv_X12_315_12 rfl rfl (t_76 hB) rfl rfl (((h x hx).1 q5).1 q4).2.2 (fun r2 I1 L1 hI1 => sm_iconst (v := 3) hx dX12_oddsFrom_60 sm_kc_3 (sm_icmpne (a := r2) (b := 3) hx dX12_oddsFrom_61 (tgt := 79) (by decide) (fun q2 => sm_lconst (v := 0) hx dX12_oddsFrom_79 rfl ((hI1.1 q2))) (fun q2 => sm_lload (z := l5) hx dX12_oddsFrom_64 rfl (sm_aload_n (z := 76) hx dX12_oddsFrom_66 rfl (sm_getI hx dX12_oddsFrom_67 fl_X12_327_12 (t_76 hB) rfl (sm_i2l (a := (I1 76 35)) hx dX12_oddsFrom_70 (sm_lmul (a := l5) (b := (Int32.toInt64 (I1 76 35))) hx dX12_oddsFrom_71 (sm_ldc2 (v := 100) hx dX12_oddsFrom_72 k_X12_364 (sm_ldiv (a := (l5 * (Int32.toInt64 (I1 76 35)))) (b := 100) hx dX12_oddsFrom_75 (by decide) (sm_goto hx dX12_oddsFrom_76 (tgt := 80) (by decide) ((hI1.2 q2))))))))))))))))))))))))))))) (fun q4 => sm_aload_n (z := 76) hx dX12_oddsFrom_14 rfl (sm_getR hx dX12_oddsFrom_15 fl_X12_55_12 (t_76 hB) rfl (sm_iload_n (z := a3) hx dX12_oddsFrom_18 rfl (sm_iald (i := a3) hx dX12_oddsFrom_19 (t_92 hB) (((h x hx).1 q5).2 q4).1 (sm_iload (z := a4) hx dX12_oddsFrom_20 rfl (sm_icmpne (a := (I 92 (Int32.toNatClampNeg (a3)))) (b := a4) hx dX12_oddsFrom_22 (tgt := 30) (by decide) (fun q3 => sm_lconst (v := 0) hx dX12_oddsFrom_30 rfl (sm_lretL hx dX12_oddsFrom_31 rfl ((((h x hx).1 q5).2 q4).2.1 q3))) (fun q3 => sm_lload (z := l5) hx dX12_oddsFrom_25 rfl (sm_goto hx dX12_oddsFrom_27 (tgt := 31) (by decide) (sm_lretL hx dX12_oddsFrom_31 rfl ((((h x hx).1 q5).2 q4).2.2 q3))))))))))))) (fun q5 => sm_lconst (v := 0) hx dX12_oddsFrom_7 rfl (sm_lretL hx dX12_oddsFrom_8 rfl ((h x hx).2 q5)))))))
theorem dX12_odds_0 : decode cX12_odds 0 = .ok (.aload_n 0, 1) := by decide +kernel
theorem dX12_odds_1 : decode cX12_odds 1 = .ok (.iload_n 1, 1) := by decide +kernel
theorem dX12_odds_2 : decode cX12_odds 2 = .ok (.invokevirtual 318, 3) := by decide +kernel
theorem dX12_odds_5 : decode cX12_odds 5 = .ok (.ifCond .eq 21, 3) := by decide +kernel
theorem dX12_odds_8 : decode cX12_odds 8 = .ok (.aload_n 0, 1) := by decide +kernel
theorem dX12_odds_9 : decode cX12_odds 9 = .ok (.iload_n 3, 1) := by decide +kernel
theorem dX12_odds_10 : decode cX12_odds 10 = .ok (.invokevirtual 321, 3) := by decide +kernel
theorem dX12_odds_13 : decode cX12_odds 13 = .ok (.ifCond .eq 13, 3) := by decide +kernel
theorem dX12_odds_16 : decode cX12_odds 16 = .ok (.iload_n 2, 1) := by decide +kernel
theorem dX12_odds_17 : decode cX12_odds 17 = .ok (.iconst 1, 1) := by decide +kernel
theorem dX12_odds_18 : decode cX12_odds 18 = .ok (.bipush 8, 2) := by decide +kernel
theorem dX12_odds_20 : decode cX12_odds 20 = .ok (.invokestatic 227, 3) := by decide +kernel
theorem dX12_odds_23 : decode cX12_odds 23 = .ok (.ifCond .ne 5, 3) := by decide +kernel
theorem dX12_odds_26 : decode cX12_odds 26 = .ok (.iconst (-1), 1) := by decide +kernel
theorem dX12_odds_27 : decode cX12_odds 27 = .ok (.ireturn, 1) := by decide +kernel
theorem dX12_odds_28 : decode cX12_odds 28 = .ok (.iconst 0, 1) := by decide +kernel
theorem dX12_odds_29 : decode cX12_odds 29 = .ok (.istore 4, 2) := by decide +kernel
theorem dX12_odds_31 : decode cX12_odds 31 = .ok (.iconst 0, 1) := by decide +kernel
theorem dX12_odds_32 : decode cX12_odds 32 = .ok (.istore 5, 2) := by decide +kernel
theorem dX12_odds_34 : decode cX12_odds 34 = .ok (.iload 5, 2) := by decide +kernel
theorem dX12_odds_36 : decode cX12_odds 36 = .ok (.aload_n 0, 1) := by decide +kernel
theorem dX12_odds_37 : decode cX12_odds 37 = .ok (.getfield 278, 3) := by decide +kernel
theorem dX12_odds_40 : decode cX12_odds 40 = .ok (.if_icmp .ge 30, 3) := by decide +kernel
theorem dX12_odds_43 : decode cX12_odds 43 = .ok (.iload 4, 2) := by decide +kernel
theorem dX12_odds_45 : decode cX12_odds 45 = .ok (.aload_n 0, 1) := by decide +kernel
theorem dX12_odds_46 : decode cX12_odds 46 = .ok (.iload 5, 2) := by decide +kernel
theorem dX12_odds_48 : decode cX12_odds 48 = .ok (.iconst 2, 1) := by decide +kernel
theorem dX12_odds_49 : decode cX12_odds 49 = .ok (.invokevirtual 315, 3) := by decide +kernel
theorem dX12_odds_52 : decode cX12_odds 52 = .ok (.iconst 3, 1) := by decide +kernel
theorem dX12_odds_53 : decode cX12_odds 53 = .ok (.if_icmp .ne 7, 3) := by decide +kernel
theorem dX12_odds_56 : decode cX12_odds 56 = .ok (.iconst 1, 1) := by decide +kernel
theorem dX12_odds_57 : decode cX12_odds 57 = .ok (.goto 4, 3) := by decide +kernel
theorem dX12_odds_60 : decode cX12_odds 60 = .ok (.iconst 0, 1) := by decide +kernel
theorem dX12_odds_61 : decode cX12_odds 61 = .ok (.iadd, 1) := by decide +kernel
theorem dX12_odds_62 : decode cX12_odds 62 = .ok (.istore 4, 2) := by decide +kernel
theorem dX12_odds_64 : decode cX12_odds 64 = .ok (.iinc 5 1, 3) := by decide +kernel
theorem dX12_odds_67 : decode cX12_odds 67 = .ok (.goto (-33), 3) := by decide +kernel
theorem dX12_odds_70 : decode cX12_odds 70 = .ok (.iload_n 2, 1) := by decide +kernel
theorem dX12_odds_71 : decode cX12_odds 71 = .ok (.iload 4, 2) := by decide +kernel
theorem dX12_odds_73 : decode cX12_odds 73 = .ok (.imul, 1) := by decide +kernel
theorem dX12_odds_74 : decode cX12_odds 74 = .ok (.bipush 12, 2) := by decide +kernel
theorem dX12_odds_76 : decode cX12_odds 76 = .ok (.if_icmp .le 5, 3) := by decide +kernel
theorem dX12_odds_79 : decode cX12_odds 79 = .ok (.iconst (-1), 1) := by decide +kernel
theorem dX12_odds_80 : decode cX12_odds 80 = .ok (.ireturn, 1) := by decide +kernel
theorem dX12_odds_81 : decode cX12_odds 81 = .ok (.aload_n 0, 1) := by decide +kernel
theorem dX12_odds_82 : decode cX12_odds 82 = .ok (.invokevirtual 385, 3) := by decide +kernel
theorem dX12_odds_85 : decode cX12_odds 85 = .ok (.aload_n 0, 1) := by decide +kernel
theorem dX12_odds_86 : decode cX12_odds 86 = .ok (.iconst 0, 1) := by decide +kernel
theorem dX12_odds_87 : decode cX12_odds 87 = .ok (.iload_n 2, 1) := by decide +kernel
theorem dX12_odds_88 : decode cX12_odds 88 = .ok (.aload_n 0, 1) := by decide +kernel
theorem dX12_odds_89 : decode cX12_odds 89 = .ok (.getfield 278, 3) := by decide +kernel
theorem dX12_odds_92 : decode cX12_odds 92 = .ok (.imul, 1) := by decide +kernel
theorem dX12_odds_93 : decode cX12_odds 93 = .ok (.iload_n 1, 1) := by decide +kernel
theorem dX12_odds_94 : decode cX12_odds 94 = .ok (.iload_n 3, 1) := by decide +kernel
theorem dX12_odds_95 : decode cX12_odds 95 = .ok (.ldc2_w 421, 3) := by decide +kernel
theorem dX12_odds_98 : decode cX12_odds 98 = .ok (.invokevirtual 414, 3) := by decide +kernel
theorem dX12_odds_101 : decode cX12_odds 101 = .ok (.lstore 5, 2) := by decide +kernel
theorem dX12_odds_103 : decode cX12_odds 103 = .ok (.aload_n 0, 1) := by decide +kernel
theorem dX12_odds_104 : decode cX12_odds 104 = .ok (.invokevirtual 391, 3) := by decide +kernel
theorem dX12_odds_107 : decode cX12_odds 107 = .ok (.lload 5, 2) := by decide +kernel
theorem dX12_odds_109 : decode cX12_odds 109 = .ok (.l2i, 1) := by decide +kernel
theorem dX12_odds_110 : decode cX12_odds 110 = .ok (.ireturn, 1) := by decide +kernel
set_option maxRecDepth 100000 in
theorem u_X12_odds_34 {x : sm_Cx} {n : Nat} {F : Int32 → sm_MI → sm_ML → Prop} {T : List sm_Sh} {I : sm_MI} {L : sm_ML} {a1 : Int32} {a2 : Int32} {a3 : Int32} {a4 : Int32} {a5 : Int32} (hB : sm_Bs T) (hx : sm_Ok x mX12_odds (n + 1) (sm_KI T F))
    (h : ((I 76 27) ≤ a5 → ((a2 * a4) ≤ 12 → sm_CV n mX12_putAside T I L [.ref 76] (fun I1 L1 => sm_CL n mX12_oddsFrom T I1 L1 [.ref 76, .int 0, .int (a2 * (I1 76 27)), .int a1, .int a3, .long 1000000000] (fun r3 I2 L2 => sm_CV n mX12_takeBack T I2 L2 [.ref 76] (fun I4 L4 => F (Int64.toInt32 r3) I4 L4)))) ∧ (¬ (a2 * a4) ≤ 12 → F (-1) I L)) ∧ (¬ (I 76 27) ≤ a5 → sm_CI n mX12_of T I L [.ref 76, .int a5, .int 2] (fun r6 I5 L5 => (¬ r6 = 3 → sm_V x 0 0 T I5 L5 34 [some (.ref 76), some (.int a1), some (.int a2), some (.int a3), some (.int (a4 + 0)), some (.int (a5 + 1)), none] []) ∧ (r6 = 3 → sm_V x 0 0 T I5 L5 34 [some (.ref 76), some (.int a1), some (.int a2), some (.int a3), some (.int (a4 + 1)), some (.int (a5 + 1)), none] [])))) :
    sm_V x 0 0 T I L 34 [some (.ref 76), some (.int a1), some (.int a2), some (.int a3), some (.int a4), some (.int a5), none] [] :=
  sm_iload (z := a5) hx dX12_odds_34 rfl (sm_aload_n (z := 76) hx dX12_odds_36 rfl (sm_getI hx dX12_odds_37 fl_X12_278_12 (t_76 hB) rfl (sm_icmpge (a := a5) (b := (I 76 27)) hx dX12_odds_40 (tgt := 70) (by decide) (fun q3 => sm_iload_n (z := a2) hx dX12_odds_70 rfl (sm_iload (z := a4) hx dX12_odds_71 rfl (sm_imul (a := a2) (b := a4) hx dX12_odds_73 (sm_bipush (v := 12) hx dX12_odds_74 sm_kb_12 (sm_icmple (a := (a2 * a4)) (b := 12) hx dX12_odds_76 (tgt := 81) (by decide) (fun q1 => sm_aload_n (z := 76) hx dX12_odds_81 rfl (sm_callVV (args := []) (st := []) hx dX12_odds_82 lv_X12_385_12 rfl rfl (t_76 hB) rfl rfl ((h.1 q3).1 q1) (fun I1 L1 hI1 => sm_aload_n (z := 76) hx dX12_odds_85 rfl (sm_iconst (v := 0) hx dX12_odds_86 sm_kc_0 (sm_iload_n (z := a2) hx dX12_odds_87 rfl (sm_aload_n (z := 76) hx dX12_odds_88 rfl (sm_getI hx dX12_odds_89 fl_X12_278_12 (t_76 hB) rfl (sm_imul (a := a2) (b := (I1 76 27)) hx dX12_odds_92 (sm_iload_n (z := a1) hx dX12_odds_93 rfl (sm_iload_n (z := a3) hx dX12_odds_94 rfl (sm_ldc2 (v := 1000000000) hx dX12_odds_95 k_X12_421 (sm_callVL (args := [.int 0, .int (a2 * (I1 76 27)), .int a1, .int a3, .long 1000000000]) (st := []) hx dX12_odds_98 lv_X12_414_12 rfl rfl (t_76 hB) rfl rfl hI1 (fun r3 I2 L2 hI2 => sm_lstore (ls' := [some (.ref 76), some (.int a1), some (.int a2), some (.int a3), some (.int a4), some (.long r3), none]) hx dX12_odds_101 (by decide) rfl (sm_aload_n (z := 76) hx dX12_odds_103 rfl (sm_callVV (args := []) (st := []) hx dX12_odds_104 lv_X12_391_12 rfl rfl (t_76 hB) rfl rfl hI2 (fun I4 L4 hI4 => sm_lload (z := r3) hx dX12_odds_107 rfl (sm_l2i (a := r3) hx dX12_odds_109 (sm_iretI hx dX12_odds_110 rfl hI4)))))))))))))))))) (fun q1 => sm_iconst (v := (-1)) hx dX12_odds_79 sm_kc_m1 (sm_iretI hx dX12_odds_80 rfl ((h.1 q3).2 q1)))))))) (fun q3 => sm_iload (z := a4) hx dX12_odds_43 rfl (sm_aload_n (z := 76) hx dX12_odds_45 rfl (sm_iload (z := a5) hx dX12_odds_46 rfl (sm_iconst (v := 2) hx dX12_odds_48 sm_kc_2 (sm_callVI (args := [.int a5, .int 2]) (st := [.int a4]) hx dX12_odds_49 lv_X12_315_12 rfl rfl (t_76 hB) rfl rfl (h.2 q3) (fun r6 I5 L5 hI5 => sm_iconst (v := 3) hx dX12_odds_52 sm_kc_3 (sm_icmpne (a := r6) (b := 3) hx dX12_odds_53 (tgt := 60) (by decide) (fun q2 => sm_iconst (v := 0) hx dX12_odds_60 sm_kc_0 (sm_iadd (a := a4) (b := 0) hx dX12_odds_61 (sm_istore (ls' := [some (.ref 76), some (.int a1), some (.int a2), some (.int a3), some (.int (a4 + 0)), some (.int a5), none]) hx dX12_odds_62 (by decide) rfl (sm_iinc (ls' := [some (.ref 76), some (.int a1), some (.int a2), some (.int a3), some (.int (a4 + 0)), some (.int (a5 + 1)), none]) (z := a5) (v := (a5 + 1)) hx dX12_odds_64 rfl (sm_kii_1 _) (by decide) rfl (sm_goto hx dX12_odds_67 (tgt := 34) (by decide) ((hI5.1 q2))))))) (fun q2 => sm_iconst (v := 1) hx dX12_odds_56 sm_kc_1 (sm_goto hx dX12_odds_57 (tgt := 61) (by decide) (sm_iadd (a := a4) (b := 1) hx dX12_odds_61 (sm_istore (ls' := [some (.ref 76), some (.int a1), some (.int a2), some (.int a3), some (.int (a4 + 1)), some (.int a5), none]) hx dX12_odds_62 (by decide) rfl (sm_iinc (ls' := [some (.ref 76), some (.int a1), some (.int a2), some (.int a3), some (.int (a4 + 1)), some (.int (a5 + 1)), none]) (z := a5) (v := (a5 + 1)) hx dX12_odds_64 rfl (sm_kii_1 _) (by decide) rfl (sm_goto hx dX12_odds_67 (tgt := 34) (by decide) ((hI5.2 q2))))))))))))))))))
set_option maxRecDepth 100000 in
theorem c_X12_odds {n : Nat} {F : Int32 → sm_MI → sm_ML → Prop} {T : List sm_Sh} {I : sm_MI} {L : sm_ML} {a1 : Int32} {a2 : Int32} {a3 : Int32} (hB : sm_Bs T)
    (h : ∀ x : sm_Cx, sm_Ok x mX12_odds (n + 1) (sm_KI T F) → sm_CZ n mX12_isThing T I L [.ref 76, .int a1] (fun r2 I1 L1 => (r2 = false → F (-1) I1 L1) ∧ (r2 = true → sm_CZ n mX12_isHouse T I1 L1 [.ref 76, .int a3] (fun r4 I3 L3 => (r4 = false → F (-1) I3 L3) ∧ (r4 = true → sm_CZ n mX12_in T I3 L3 [.int a2, .int 1, .int 8] (fun r6 I5 L5 => (r6 = true → sm_V x 0 0 T I5 L5 34 [some (.ref 76), some (.int a1), some (.int a2), some (.int a3), some (.int 0), some (.int 0), none] []) ∧ (r6 = false → F (-1) I5 L5))))))) :
    sm_CI (n + 1) mX12_odds T I L [.ref 76, .int a1, .int a2, .int a3] F :=
  sm_CI.of (by decide +kernel) rfl (fun x hx => show sm_V x 0 0 T I L 0 [some (.ref 76), some (.int a1), some (.int a2), some (.int a3), none, none, none] [] from
  sm_aload_n (z := 76) hx dX12_odds_0 rfl (sm_iload_n (z := a1) hx dX12_odds_1 rfl (sm_callVZ (args := [.int a1]) (st := []) hx dX12_odds_2 lv_X12_318_12 rfl rfl (t_76 hB) rfl rfl (h x hx) (fun r2 I1 L1 hI1 => sm_ifeqZ (b := r2) hx dX12_odds_5 (tgt := 26) (by decide) (fun q6 => sm_iconst (v := (-1)) hx dX12_odds_26 sm_kc_m1 (sm_iretI hx dX12_odds_27 rfl (hI1.1 q6))) (fun q6 => sm_aload_n (z := 76) hx dX12_odds_8 rfl (sm_iload_n (z := a3) hx dX12_odds_9 rfl (sm_callVZ (args := [.int a3]) (st := []) hx dX12_odds_10 lv_X12_321_12 rfl rfl (t_76 hB) rfl rfl (hI1.2 q6) (fun r4 I3 L3 hI3 => sm_ifeqZ (b := r4) hx dX12_odds_13 (tgt := 26) (by decide) (fun q5 => sm_iconst (v := (-1)) hx dX12_odds_26 sm_kc_m1 (sm_iretI hx dX12_odds_27 rfl (hI3.1 q5))) (fun q5 => sm_iload_n (z := a2) hx dX12_odds_16 rfl (sm_iconst (v := 1) hx dX12_odds_17 sm_kc_1 (sm_bipush (v := 8) hx dX12_odds_18 sm_kb_8 (sm_callSZ (args := [.int a2, .int 1, .int 8]) (st := []) hx dX12_odds_20 ls_X12_227 rfl rfl rfl (hI3.2 q5) (fun r6 I5 L5 hI5 => sm_ifneZ (b := r6) hx dX12_odds_23 (tgt := 28) (by decide) (fun q4 => sm_iconst (v := 0) hx dX12_odds_28 sm_kc_0 (sm_istore (ls' := [some (.ref 76), some (.int a1), some (.int a2), some (.int a3), some (.int 0), none, none]) hx dX12_odds_29 (by decide) rfl (sm_iconst (v := 0) hx dX12_odds_31 sm_kc_0 (sm_istore (ls' := [some (.ref 76), some (.int a1), some (.int a2), some (.int a3), some (.int 0), some (.int 0), none]) hx dX12_odds_32 (by decide) rfl ((hI5.1 q4)))))) (fun q4 => sm_iconst (v := (-1)) hx dX12_odds_26 sm_kc_m1 (sm_iretI hx dX12_odds_27 rfl (hI5.2 q4))))))))))))))))
theorem dX12_stays_0 : decode cX12_stays 0 = .ok (.aload_n 0, 1) := by decide +kernel
theorem dX12_stays_1 : decode cX12_stays 1 = .ok (.invokevirtual 385, 3) := by decide +kernel
theorem dX12_stays_4 : decode cX12_stays 4 = .ok (.iconst 1, 1) := by decide +kernel
theorem dX12_stays_5 : decode cX12_stays 5 = .ok (.istore_n 3, 1) := by decide +kernel
theorem dX12_stays_6 : decode cX12_stays 6 = .ok (.iconst 0, 1) := by decide +kernel
theorem dX12_stays_7 : decode cX12_stays 7 = .ok (.istore 4, 2) := by decide +kernel
theorem dX12_stays_9 : decode cX12_stays 9 = .ok (.iload 4, 2) := by decide +kernel
theorem dX12_stays_11 : decode cX12_stays 11 = .ok (.iload_n 2, 1) := by decide +kernel
theorem dX12_stays_12 : decode cX12_stays 12 = .ok (.if_icmp .ge 38, 3) := by decide +kernel
theorem dX12_stays_15 : decode cX12_stays 15 = .ok (.aload_n 0, 1) := by decide +kernel
theorem dX12_stays_16 : decode cX12_stays 16 = .ok (.invokevirtual 382, 3) := by decide +kernel
theorem dX12_stays_19 : decode cX12_stays 19 = .ok (.iload_n 3, 1) := by decide +kernel
theorem dX12_stays_20 : decode cX12_stays 20 = .ok (.ifCond .eq 22, 3) := by decide +kernel
theorem dX12_stays_23 : decode cX12_stays 23 = .ok (.aload_n 0, 1) := by decide +kernel
theorem dX12_stays_24 : decode cX12_stays 24 = .ok (.getfield 55, 3) := by decide +kernel
theorem dX12_stays_27 : decode cX12_stays 27 = .ok (.iload_n 1, 1) := by decide +kernel
theorem dX12_stays_28 : decode cX12_stays 28 = .ok (.iaload, 1) := by decide +kernel
theorem dX12_stays_29 : decode cX12_stays 29 = .ok (.aload_n 0, 1) := by decide +kernel
theorem dX12_stays_30 : decode cX12_stays 30 = .ok (.getfield 75, 3) := by decide +kernel
theorem dX12_stays_33 : decode cX12_stays 33 = .ok (.iload_n 1, 1) := by decide +kernel
theorem dX12_stays_34 : decode cX12_stays 34 = .ok (.iaload, 1) := by decide +kernel
theorem dX12_stays_35 : decode cX12_stays 35 = .ok (.if_icmp .ne 7, 3) := by decide +kernel
theorem dX12_stays_38 : decode cX12_stays 38 = .ok (.iconst 1, 1) := by decide +kernel
theorem dX12_stays_39 : decode cX12_stays 39 = .ok (.goto 4, 3) := by decide +kernel
theorem dX12_stays_42 : decode cX12_stays 42 = .ok (.iconst 0, 1) := by decide +kernel
theorem dX12_stays_43 : decode cX12_stays 43 = .ok (.istore_n 3, 1) := by decide +kernel
theorem dX12_stays_44 : decode cX12_stays 44 = .ok (.iinc 4 1, 3) := by decide +kernel
theorem dX12_stays_47 : decode cX12_stays 47 = .ok (.goto (-38), 3) := by decide +kernel
theorem dX12_stays_50 : decode cX12_stays 50 = .ok (.aload_n 0, 1) := by decide +kernel
theorem dX12_stays_51 : decode cX12_stays 51 = .ok (.invokevirtual 391, 3) := by decide +kernel
theorem dX12_stays_54 : decode cX12_stays 54 = .ok (.iload_n 3, 1) := by decide +kernel
theorem dX12_stays_55 : decode cX12_stays 55 = .ok (.ireturn, 1) := by decide +kernel
set_option maxRecDepth 100000 in
theorem u_X12_stays_9 {x : sm_Cx} {n : Nat} {F : Bool → sm_MI → sm_ML → Prop} {T : List sm_Sh} {I : sm_MI} {L : sm_ML} {a1 : Int32} {a2 : Int32} {b3 : Bool} {a4 : Int32} (hB : sm_Bs T) (hx : sm_Ok x mX12_stays (n + 1) (sm_KZ T F))
    (h : (a2 ≤ a4 → sm_CV n mX12_takeBack T I L [.ref 76] (fun I1 L1 => F b3 I1 L1)) ∧ (¬ a2 ≤ a4 → sm_CV n mX12_calmNight T I L [.ref 76] (fun I2 L2 => (b3 = false → sm_V x 0 0 T I2 L2 9 [some (.ref 76), some (.int a1), some (.int a2), some (.int (sm_z false)), some (.int (a4 + 1))] []) ∧ (b3 = true → vp_in a1 8 ∧ (vp_in a1 8 ∧ ((¬ (I2 92 (Int32.toNatClampNeg (a1))) = (I2 97 (Int32.toNatClampNeg (a1))) → sm_V x 0 0 T I2 L2 9 [some (.ref 76), some (.int a1), some (.int a2), some (.int (sm_z false)), some (.int (a4 + 1))] []) ∧ ((I2 92 (Int32.toNatClampNeg (a1))) = (I2 97 (Int32.toNatClampNeg (a1))) → sm_V x 0 0 T I2 L2 9 [some (.ref 76), some (.int a1), some (.int a2), some (.int (sm_z true)), some (.int (a4 + 1))] []))))))) :
    sm_V x 0 0 T I L 9 [some (.ref 76), some (.int a1), some (.int a2), some (.int (sm_z b3)), some (.int a4)] [] :=
  sm_iload (z := a4) hx dX12_stays_9 rfl (sm_iload_n (z := a2) hx dX12_stays_11 rfl (sm_icmpge (a := a4) (b := a2) hx dX12_stays_12 (tgt := 50) (by decide) (fun q3 => sm_aload_n (z := 76) hx dX12_stays_50 rfl (sm_callVV (args := []) (st := []) hx dX12_stays_51 lv_X12_391_12 rfl rfl (t_76 hB) rfl rfl (h.1 q3) (fun I1 L1 hI1 => sm_iload_n (z := (sm_z b3)) hx dX12_stays_54 rfl (sm_iretZ (z := b3) hx dX12_stays_55 rfl hI1)))) (fun q3 => sm_aload_n (z := 76) hx dX12_stays_15 rfl (sm_callVV (args := []) (st := []) hx dX12_stays_16 lv_X12_382_12 rfl rfl (t_76 hB) rfl rfl (h.2 q3) (fun I2 L2 hI2 => sm_iload_n (z := (sm_z b3)) hx dX12_stays_19 rfl (sm_ifeqZ (b := b3) hx dX12_stays_20 (tgt := 42) (by decide) (fun q2 => sm_iconst (v := 0) hx dX12_stays_42 sm_kc_0 (sm_istore_n (ls' := [some (.ref 76), some (.int a1), some (.int a2), some (.int 0), some (.int a4)]) hx dX12_stays_43 (by decide) rfl (sm_iinc (ls' := [some (.ref 76), some (.int a1), some (.int a2), some (.int 0), some (.int (a4 + 1))]) (z := a4) (v := (a4 + 1)) hx dX12_stays_44 rfl (sm_kii_1 _) (by decide) rfl (sm_goto hx dX12_stays_47 (tgt := 9) (by decide) ((hI2.1 q2)))))) (fun q2 => sm_aload_n (z := 76) hx dX12_stays_23 rfl (sm_getR hx dX12_stays_24 fl_X12_55_12 (t_76 hB) rfl (sm_iload_n (z := a1) hx dX12_stays_27 rfl (sm_iald (i := a1) hx dX12_stays_28 (t_92 hB) (hI2.2 q2).1 (sm_aload_n (z := 76) hx dX12_stays_29 rfl (sm_getR hx dX12_stays_30 fl_X12_75_12 (t_76 hB) rfl (sm_iload_n (z := a1) hx dX12_stays_33 rfl (sm_iald (i := a1) hx dX12_stays_34 (t_97 hB) (hI2.2 q2).2.1 (sm_icmpne (a := (I2 92 (Int32.toNatClampNeg (a1)))) (b := (I2 97 (Int32.toNatClampNeg (a1)))) hx dX12_stays_35 (tgt := 42) (by decide) (fun q1 => sm_iconst (v := 0) hx dX12_stays_42 sm_kc_0 (sm_istore_n (ls' := [some (.ref 76), some (.int a1), some (.int a2), some (.int 0), some (.int a4)]) hx dX12_stays_43 (by decide) rfl (sm_iinc (ls' := [some (.ref 76), some (.int a1), some (.int a2), some (.int 0), some (.int (a4 + 1))]) (z := a4) (v := (a4 + 1)) hx dX12_stays_44 rfl (sm_kii_1 _) (by decide) rfl (sm_goto hx dX12_stays_47 (tgt := 9) (by decide) (((hI2.2 q2).2.2.1 q1)))))) (fun q1 => sm_iconst (v := 1) hx dX12_stays_38 sm_kc_1 (sm_goto hx dX12_stays_39 (tgt := 43) (by decide) (sm_istore_n (ls' := [some (.ref 76), some (.int a1), some (.int a2), some (.int 1), some (.int a4)]) hx dX12_stays_43 (by decide) rfl (sm_iinc (ls' := [some (.ref 76), some (.int a1), some (.int a2), some (.int 1), some (.int (a4 + 1))]) (z := a4) (v := (a4 + 1)) hx dX12_stays_44 rfl (sm_kii_1 _) (by decide) rfl (sm_goto hx dX12_stays_47 (tgt := 9) (by decide) (((hI2.2 q2).2.2.2 q1))))))))))))))))))))))
set_option maxRecDepth 100000 in
theorem c_X12_stays {n : Nat} {F : Bool → sm_MI → sm_ML → Prop} {T : List sm_Sh} {I : sm_MI} {L : sm_ML} {a1 : Int32} {a2 : Int32} (hB : sm_Bs T)
    (h : ∀ x : sm_Cx, sm_Ok x mX12_stays (n + 1) (sm_KZ T F) → sm_CV n mX12_putAside T I L [.ref 76] (fun I1 L1 => sm_V x 0 0 T I1 L1 9 [some (.ref 76), some (.int a1), some (.int a2), some (.int (sm_z true)), some (.int 0)] [])) :
    sm_CZ (n + 1) mX12_stays T I L [.ref 76, .int a1, .int a2] F :=
  sm_CZ.of (by decide +kernel) rfl (fun x hx => show sm_V x 0 0 T I L 0 [some (.ref 76), some (.int a1), some (.int a2), none, none] [] from
  sm_aload_n (z := 76) hx dX12_stays_0 rfl (sm_callVV (args := []) (st := []) hx dX12_stays_1 lv_X12_385_12 rfl rfl (t_76 hB) rfl rfl (h x hx) (fun I1 L1 hI1 => sm_iconst (v := 1) hx dX12_stays_4 sm_kc_1 (sm_istore_n (ls' := [some (.ref 76), some (.int a1), some (.int a2), some (.int 1), none]) hx dX12_stays_5 (by decide) rfl (sm_iconst (v := 0) hx dX12_stays_6 sm_kc_0 (sm_istore (ls' := [some (.ref 76), some (.int a1), some (.int a2), some (.int 1), some (.int 0)]) hx dX12_stays_7 (by decide) rfl (hI1)))))))
theorem dX12_stay_0 : decode cX12_stay 0 = .ok (.aload_n 0, 1) := by decide +kernel
theorem dX12_stay_1 : decode cX12_stay 1 = .ok (.iload_n 1, 1) := by decide +kernel
theorem dX12_stay_2 : decode cX12_stay 2 = .ok (.invokevirtual 318, 3) := by decide +kernel
theorem dX12_stay_5 : decode cX12_stay 5 = .ok (.ifCond .eq 11, 3) := by decide +kernel
theorem dX12_stay_8 : decode cX12_stay 8 = .ok (.aload_n 0, 1) := by decide +kernel
theorem dX12_stay_9 : decode cX12_stay 9 = .ok (.iload_n 2, 1) := by decide +kernel
theorem dX12_stay_10 : decode cX12_stay 10 = .ok (.invokevirtual 366, 3) := by decide +kernel
theorem dX12_stay_13 : decode cX12_stay 13 = .ok (.ifCond .ne 5, 3) := by decide +kernel
theorem dX12_stay_16 : decode cX12_stay 16 = .ok (.iconst (-1), 1) := by decide +kernel
theorem dX12_stay_17 : decode cX12_stay 17 = .ok (.ireturn, 1) := by decide +kernel
theorem dX12_stay_18 : decode cX12_stay 18 = .ok (.aload_n 0, 1) := by decide +kernel
theorem dX12_stay_19 : decode cX12_stay 19 = .ok (.getfield 290, 3) := by decide +kernel
theorem dX12_stay_22 : decode cX12_stay 22 = .ok (.istore_n 3, 1) := by decide +kernel
theorem dX12_stay_23 : decode cX12_stay 23 = .ok (.iconst (-1), 1) := by decide +kernel
theorem dX12_stay_24 : decode cX12_stay 24 = .ok (.istore 4, 2) := by decide +kernel
theorem dX12_stay_26 : decode cX12_stay 26 = .ok (.iconst 0, 1) := by decide +kernel
theorem dX12_stay_27 : decode cX12_stay 27 = .ok (.istore 5, 2) := by decide +kernel
theorem dX12_stay_29 : decode cX12_stay 29 = .ok (.iload 5, 2) := by decide +kernel
theorem dX12_stay_31 : decode cX12_stay 31 = .ok (.iconst 1, 1) := by decide +kernel
theorem dX12_stay_32 : decode cX12_stay 32 = .ok (.aload_n 0, 1) := by decide +kernel
theorem dX12_stay_33 : decode cX12_stay 33 = .ok (.getfield 275, 3) := by decide +kernel
theorem dX12_stay_36 : decode cX12_stay 36 = .ok (.ishl, 1) := by decide +kernel
theorem dX12_stay_37 : decode cX12_stay 37 = .ok (.if_icmp .ge 52, 3) := by decide +kernel
theorem dX12_stay_40 : decode cX12_stay 40 = .ok (.iload 4, 2) := by decide +kernel
theorem dX12_stay_42 : decode cX12_stay 42 = .ok (.iconst (-1), 1) := by decide +kernel
theorem dX12_stay_43 : decode cX12_stay 43 = .ok (.if_icmp .eq 16, 3) := by decide +kernel
theorem dX12_stay_46 : decode cX12_stay 46 = .ok (.iload 5, 2) := by decide +kernel
theorem dX12_stay_48 : decode cX12_stay 48 = .ok (.invokestatic 337, 3) := by decide +kernel
theorem dX12_stay_51 : decode cX12_stay 51 = .ok (.iload 4, 2) := by decide +kernel
theorem dX12_stay_53 : decode cX12_stay 53 = .ok (.invokestatic 337, 3) := by decide +kernel
theorem dX12_stay_56 : decode cX12_stay 56 = .ok (.if_icmp .ge 27, 3) := by decide +kernel
theorem dX12_stay_59 : decode cX12_stay 59 = .ok (.aload_n 0, 1) := by decide +kernel
theorem dX12_stay_60 : decode cX12_stay 60 = .ok (.iload 5, 2) := by decide +kernel
theorem dX12_stay_62 : decode cX12_stay 62 = .ok (.putfield 290, 3) := by decide +kernel
theorem dX12_stay_65 : decode cX12_stay 65 = .ok (.aload_n 0, 1) := by decide +kernel
theorem dX12_stay_66 : decode cX12_stay 66 = .ok (.iload_n 1, 1) := by decide +kernel
theorem dX12_stay_67 : decode cX12_stay 67 = .ok (.iload_n 2, 1) := by decide +kernel
theorem dX12_stay_68 : decode cX12_stay 68 = .ok (.invokevirtual 423, 3) := by decide +kernel
theorem dX12_stay_71 : decode cX12_stay 71 = .ok (.ifCond .eq 8, 3) := by decide +kernel
theorem dX12_stay_74 : decode cX12_stay 74 = .ok (.iload 5, 2) := by decide +kernel
theorem dX12_stay_76 : decode cX12_stay 76 = .ok (.goto 5, 3) := by decide +kernel
theorem dX12_stay_79 : decode cX12_stay 79 = .ok (.iload 4, 2) := by decide +kernel
theorem dX12_stay_81 : decode cX12_stay 81 = .ok (.istore 4, 2) := by decide +kernel
theorem dX12_stay_83 : decode cX12_stay 83 = .ok (.iinc 5 1, 3) := by decide +kernel
theorem dX12_stay_86 : decode cX12_stay 86 = .ok (.goto (-57), 3) := by decide +kernel
theorem dX12_stay_89 : decode cX12_stay 89 = .ok (.aload_n 0, 1) := by decide +kernel
theorem dX12_stay_90 : decode cX12_stay 90 = .ok (.iload_n 3, 1) := by decide +kernel
theorem dX12_stay_91 : decode cX12_stay 91 = .ok (.putfield 290, 3) := by decide +kernel
theorem dX12_stay_94 : decode cX12_stay 94 = .ok (.iload 4, 2) := by decide +kernel
theorem dX12_stay_96 : decode cX12_stay 96 = .ok (.ireturn, 1) := by decide +kernel
set_option maxRecDepth 100000 in
theorem u_X12_stay_29 {x : sm_Cx} {n : Nat} {F : Int32 → sm_MI → sm_ML → Prop} {T : List sm_Sh} {I : sm_MI} {L : sm_ML} {a1 : Int32} {a2 : Int32} {a3 : Int32} {a4 : Int32} {a5 : Int32} (hB : sm_Bs T) (hx : sm_Ok x mX12_stay (n + 1) (sm_KI T F))
    (h : ((1 <<< ((I 76 26) &&& 31)) ≤ a5 → F a4 (sm_uI I 76 33 a3) L) ∧ (¬ (1 <<< ((I 76 26) &&& 31)) ≤ a5 → (a4 = (-1) → sm_CZ n mX12_stays T (sm_uI I 76 33 a5) L [.ref 76, .int a1, .int a2] (fun r2 I1 L1 => (r2 = false → sm_V x 0 0 T I1 L1 29 [some (.ref 76), some (.int a1), some (.int a2), some (.int a3), some (.int a4), some (.int (a5 + 1))] []) ∧ (r2 = true → sm_V x 0 0 T I1 L1 29 [some (.ref 76), some (.int a1), some (.int a2), some (.int a3), some (.int a5), some (.int (a5 + 1))] []))) ∧ (¬ a4 = (-1) → sm_CI n mJ6_bitCount_0f7a4 T I L [.int a5] (fun r4 I3 L3 => sm_CI n mJ6_bitCount_0f7a4 T I3 L3 [.int a4] (fun r6 I5 L5 => (r6 ≤ r4 → sm_V x 0 0 T I5 L5 29 [some (.ref 76), some (.int a1), some (.int a2), some (.int a3), some (.int a4), some (.int (a5 + 1))] []) ∧ (¬ r6 ≤ r4 → sm_CZ n mX12_stays T (sm_uI I5 76 33 a5) L5 [.ref 76, .int a1, .int a2] (fun r8 I7 L7 => (r8 = false → sm_V x 0 0 T I7 L7 29 [some (.ref 76), some (.int a1), some (.int a2), some (.int a3), some (.int a4), some (.int (a5 + 1))] []) ∧ (r8 = true → sm_V x 0 0 T I7 L7 29 [some (.ref 76), some (.int a1), some (.int a2), some (.int a3), some (.int a5), some (.int (a5 + 1))] [])))))))) :
    sm_V x 0 0 T I L 29 [some (.ref 76), some (.int a1), some (.int a2), some (.int a3), some (.int a4), some (.int a5)] [] :=
  sm_iload (z := a5) hx dX12_stay_29 rfl (sm_iconst (v := 1) hx dX12_stay_31 sm_kc_1 (sm_aload_n (z := 76) hx dX12_stay_32 rfl (sm_getI hx dX12_stay_33 fl_X12_275_12 (t_76 hB) rfl (sm_ishl (a := 1) (b := (I 76 26)) hx dX12_stay_36 (sm_icmpge (a := a5) (b := (1 <<< ((I 76 26) &&& 31))) hx dX12_stay_37 (tgt := 89) (by decide) (fun q5 => sm_aload_n (z := 76) hx dX12_stay_89 rfl (sm_iload_n (z := a3) hx dX12_stay_90 rfl (sm_putI hx dX12_stay_91 fl_X12_290_12 (t_76 hB) rfl (sm_iload (z := a4) hx dX12_stay_94 rfl (sm_iretI hx dX12_stay_96 rfl (h.1 q5)))))) (fun q5 => sm_iload (z := a4) hx dX12_stay_40 rfl (sm_iconst (v := (-1)) hx dX12_stay_42 sm_kc_m1 (sm_icmpeq (a := a4) (b := (-1)) hx dX12_stay_43 (tgt := 59) (by decide) (fun q4 => sm_aload_n (z := 76) hx dX12_stay_59 rfl (sm_iload (z := a5) hx dX12_stay_60 rfl (sm_putI hx dX12_stay_62 fl_X12_290_12 (t_76 hB) rfl (sm_aload_n (z := 76) hx dX12_stay_65 rfl (sm_iload_n (z := a1) hx dX12_stay_66 rfl (sm_iload_n (z := a2) hx dX12_stay_67 rfl (sm_callVZ (args := [.int a1, .int a2]) (st := []) hx dX12_stay_68 lv_X12_423_12 rfl rfl (t_76 hB) rfl rfl ((h.2 q5).1 q4) (fun r2 I1 L1 hI1 => sm_ifeqZ (b := r2) hx dX12_stay_71 (tgt := 79) (by decide) (fun q1 => sm_iload (z := a4) hx dX12_stay_79 rfl (sm_istore (ls' := [some (.ref 76), some (.int a1), some (.int a2), some (.int a3), some (.int a4), some (.int a5)]) hx dX12_stay_81 (by decide) rfl (sm_iinc (ls' := [some (.ref 76), some (.int a1), some (.int a2), some (.int a3), some (.int a4), some (.int (a5 + 1))]) (z := a5) (v := (a5 + 1)) hx dX12_stay_83 rfl (sm_kii_1 _) (by decide) rfl (sm_goto hx dX12_stay_86 (tgt := 29) (by decide) ((hI1.1 q1)))))) (fun q1 => sm_iload (z := a5) hx dX12_stay_74 rfl (sm_goto hx dX12_stay_76 (tgt := 81) (by decide) (sm_istore (ls' := [some (.ref 76), some (.int a1), some (.int a2), some (.int a3), some (.int a5), some (.int a5)]) hx dX12_stay_81 (by decide) rfl (sm_iinc (ls' := [some (.ref 76), some (.int a1), some (.int a2), some (.int a3), some (.int a5), some (.int (a5 + 1))]) (z := a5) (v := (a5 + 1)) hx dX12_stay_83 rfl (sm_kii_1 _) (by decide) rfl (sm_goto hx dX12_stay_86 (tgt := 29) (by decide) ((hI1.2 q1))))))))))))))) (fun q4 => sm_iload (z := a5) hx dX12_stay_46 rfl (sm_callSI (args := [.int a5]) (st := []) hx dX12_stay_48 ls_X12_337 rfl rfl rfl ((h.2 q5).2 q4) (fun r4 I3 L3 hI3 => sm_iload (z := a4) hx dX12_stay_51 rfl (sm_callSI (args := [.int a4]) (st := [.int r4]) hx dX12_stay_53 ls_X12_337 rfl rfl rfl hI3 (fun r6 I5 L5 hI5 => sm_icmpge (a := r4) (b := r6) hx dX12_stay_56 (tgt := 83) (by decide) (fun q3 => sm_iinc (ls' := [some (.ref 76), some (.int a1), some (.int a2), some (.int a3), some (.int a4), some (.int (a5 + 1))]) (z := a5) (v := (a5 + 1)) hx dX12_stay_83 rfl (sm_kii_1 _) (by decide) rfl (sm_goto hx dX12_stay_86 (tgt := 29) (by decide) ((hI5.1 q3)))) (fun q3 => sm_aload_n (z := 76) hx dX12_stay_59 rfl (sm_iload (z := a5) hx dX12_stay_60 rfl (sm_putI hx dX12_stay_62 fl_X12_290_12 (t_76 hB) rfl (sm_aload_n (z := 76) hx dX12_stay_65 rfl (sm_iload_n (z := a1) hx dX12_stay_66 rfl (sm_iload_n (z := a2) hx dX12_stay_67 rfl (sm_callVZ (args := [.int a1, .int a2]) (st := []) hx dX12_stay_68 lv_X12_423_12 rfl rfl (t_76 hB) rfl rfl (hI5.2 q3) (fun r8 I7 L7 hI7 => sm_ifeqZ (b := r8) hx dX12_stay_71 (tgt := 79) (by decide) (fun q2 => sm_iload (z := a4) hx dX12_stay_79 rfl (sm_istore (ls' := [some (.ref 76), some (.int a1), some (.int a2), some (.int a3), some (.int a4), some (.int a5)]) hx dX12_stay_81 (by decide) rfl (sm_iinc (ls' := [some (.ref 76), some (.int a1), some (.int a2), some (.int a3), some (.int a4), some (.int (a5 + 1))]) (z := a5) (v := (a5 + 1)) hx dX12_stay_83 rfl (sm_kii_1 _) (by decide) rfl (sm_goto hx dX12_stay_86 (tgt := 29) (by decide) ((hI7.1 q2)))))) (fun q2 => sm_iload (z := a5) hx dX12_stay_74 rfl (sm_goto hx dX12_stay_76 (tgt := 81) (by decide) (sm_istore (ls' := [some (.ref 76), some (.int a1), some (.int a2), some (.int a3), some (.int a5), some (.int a5)]) hx dX12_stay_81 (by decide) rfl (sm_iinc (ls' := [some (.ref 76), some (.int a1), some (.int a2), some (.int a3), some (.int a5), some (.int (a5 + 1))]) (z := a5) (v := (a5 + 1)) hx dX12_stay_83 rfl (sm_kii_1 _) (by decide) rfl (sm_goto hx dX12_stay_86 (tgt := 29) (by decide) ((hI7.2 q2))))))))))))))))))))))))))))
set_option maxRecDepth 100000 in
theorem c_X12_stay {n : Nat} {F : Int32 → sm_MI → sm_ML → Prop} {T : List sm_Sh} {I : sm_MI} {L : sm_ML} {a1 : Int32} {a2 : Int32} (hB : sm_Bs T)
    (h : ∀ x : sm_Cx, sm_Ok x mX12_stay (n + 1) (sm_KI T F) → sm_CZ n mX12_isThing T I L [.ref 76, .int a1] (fun r2 I1 L1 => (r2 = false → F (-1) I1 L1) ∧ (r2 = true → sm_CZ n mX12_areNights T I1 L1 [.ref 76, .int a2] (fun r4 I3 L3 => (r4 = true → sm_V x 0 0 T I3 L3 29 [some (.ref 76), some (.int a1), some (.int a2), some (.int (I3 76 33)), some (.int (-1)), some (.int 0)] []) ∧ (r4 = false → F (-1) I3 L3))))) :
    sm_CI (n + 1) mX12_stay T I L [.ref 76, .int a1, .int a2] F :=
  sm_CI.of (by decide +kernel) rfl (fun x hx => show sm_V x 0 0 T I L 0 [some (.ref 76), some (.int a1), some (.int a2), none, none, none] [] from
  sm_aload_n (z := 76) hx dX12_stay_0 rfl (sm_iload_n (z := a1) hx dX12_stay_1 rfl (sm_callVZ (args := [.int a1]) (st := []) hx dX12_stay_2 lv_X12_318_12 rfl rfl (t_76 hB) rfl rfl (h x hx) (fun r2 I1 L1 hI1 => sm_ifeqZ (b := r2) hx dX12_stay_5 (tgt := 16) (by decide) (fun q7 => sm_iconst (v := (-1)) hx dX12_stay_16 sm_kc_m1 (sm_iretI hx dX12_stay_17 rfl (hI1.1 q7))) (fun q7 => sm_aload_n (z := 76) hx dX12_stay_8 rfl (sm_iload_n (z := a2) hx dX12_stay_9 rfl (sm_callVZ (args := [.int a2]) (st := []) hx dX12_stay_10 lv_X12_366_12 rfl rfl (t_76 hB) rfl rfl (hI1.2 q7) (fun r4 I3 L3 hI3 => sm_ifneZ (b := r4) hx dX12_stay_13 (tgt := 18) (by decide) (fun q6 => sm_aload_n (z := 76) hx dX12_stay_18 rfl (sm_getI hx dX12_stay_19 fl_X12_290_12 (t_76 hB) rfl (sm_istore_n (ls' := [some (.ref 76), some (.int a1), some (.int a2), some (.int (I3 76 33)), none, none]) hx dX12_stay_22 (by decide) rfl (sm_iconst (v := (-1)) hx dX12_stay_23 sm_kc_m1 (sm_istore (ls' := [some (.ref 76), some (.int a1), some (.int a2), some (.int (I3 76 33)), some (.int (-1)), none]) hx dX12_stay_24 (by decide) rfl (sm_iconst (v := 0) hx dX12_stay_26 sm_kc_0 (sm_istore (ls' := [some (.ref 76), some (.int a1), some (.int a2), some (.int (I3 76 33)), some (.int (-1)), some (.int 0)]) hx dX12_stay_27 (by decide) rfl ((hI3.1 q6))))))))) (fun q6 => sm_iconst (v := (-1)) hx dX12_stay_16 sm_kc_m1 (sm_iretI hx dX12_stay_17 rfl (hI3.2 q6)))))))))))
theorem dX12_homing_0 : decode cX12_homing 0 = .ok (.aload_n 0, 1) := by decide +kernel
theorem dX12_homing_1 : decode cX12_homing 1 = .ok (.getfield 275, 3) := by decide +kernel
theorem dX12_homing_4 : decode cX12_homing 4 = .ok (.ifCond .eq 29, 3) := by decide +kernel
theorem dX12_homing_7 : decode cX12_homing 7 = .ok (.aload_n 0, 1) := by decide +kernel
theorem dX12_homing_8 : decode cX12_homing 8 = .ok (.getfield 281, 3) := by decide +kernel
theorem dX12_homing_11 : decode cX12_homing 11 = .ok (.iconst 4, 1) := by decide +kernel
theorem dX12_homing_12 : decode cX12_homing 12 = .ok (.if_icmp .gt 21, 3) := by decide +kernel
theorem dX12_homing_15 : decode cX12_homing 15 = .ok (.aload_n 0, 1) := by decide +kernel
theorem dX12_homing_16 : decode cX12_homing 16 = .ok (.getfield 275, 3) := by decide +kernel
theorem dX12_homing_19 : decode cX12_homing 19 = .ok (.bipush 6, 2) := by decide +kernel
theorem dX12_homing_21 : decode cX12_homing 21 = .ok (.if_icmp .gt 12, 3) := by decide +kernel
theorem dX12_homing_24 : decode cX12_homing 24 = .ok (.iload_n 2, 1) := by decide +kernel
theorem dX12_homing_25 : decode cX12_homing 25 = .ok (.iconst 0, 1) := by decide +kernel
theorem dX12_homing_26 : decode cX12_homing 26 = .ok (.iconst 1, 1) := by decide +kernel
theorem dX12_homing_27 : decode cX12_homing 27 = .ok (.invokestatic 227, 3) := by decide +kernel
theorem dX12_homing_30 : decode cX12_homing 30 = .ok (.ifCond .ne 7, 3) := by decide +kernel
theorem dX12_homing_33 : decode cX12_homing 33 = .ok (.ldc_w 394, 3) := by decide +kernel
theorem dX12_homing_36 : decode cX12_homing 36 = .ok (.ireturn, 1) := by decide +kernel
theorem dX12_homing_37 : decode cX12_homing 37 = .ok (.aload_n 0, 1) := by decide +kernel
theorem dX12_homing_38 : decode cX12_homing 38 = .ok (.iload_n 1, 1) := by decide +kernel
theorem dX12_homing_39 : decode cX12_homing 39 = .ok (.invokevirtual 366, 3) := by decide +kernel
theorem dX12_homing_42 : decode cX12_homing 42 = .ok (.ifCond .ne 5, 3) := by decide +kernel
theorem dX12_homing_45 : decode cX12_homing 45 = .ok (.iconst (-1), 1) := by decide +kernel
theorem dX12_homing_46 : decode cX12_homing 46 = .ok (.ireturn, 1) := by decide +kernel
theorem dX12_homing_47 : decode cX12_homing 47 = .ok (.iconst 1, 1) := by decide +kernel
theorem dX12_homing_48 : decode cX12_homing 48 = .ok (.istore_n 3, 1) := by decide +kernel
theorem dX12_homing_49 : decode cX12_homing 49 = .ok (.iconst 0, 1) := by decide +kernel
theorem dX12_homing_50 : decode cX12_homing 50 = .ok (.istore 4, 2) := by decide +kernel
theorem dX12_homing_52 : decode cX12_homing 52 = .ok (.iload 4, 2) := by decide +kernel
theorem dX12_homing_54 : decode cX12_homing 54 = .ok (.aload_n 0, 1) := by decide +kernel
theorem dX12_homing_55 : decode cX12_homing 55 = .ok (.getfield 281, 3) := by decide +kernel
theorem dX12_homing_58 : decode cX12_homing 58 = .ok (.if_icmp .ge 30, 3) := by decide +kernel
theorem dX12_homing_61 : decode cX12_homing 61 = .ok (.aload_n 0, 1) := by decide +kernel
theorem dX12_homing_62 : decode cX12_homing 62 = .ok (.getfield 103, 3) := by decide +kernel
theorem dX12_homing_65 : decode cX12_homing 65 = .ok (.iload 4, 2) := by decide +kernel
theorem dX12_homing_67 : decode cX12_homing 67 = .ok (.aload_n 0, 1) := by decide +kernel
theorem dX12_homing_68 : decode cX12_homing 68 = .ok (.getfield 55, 3) := by decide +kernel
theorem dX12_homing_71 : decode cX12_homing 71 = .ok (.iload 4, 2) := by decide +kernel
theorem dX12_homing_73 : decode cX12_homing 73 = .ok (.iaload, 1) := by decide +kernel
theorem dX12_homing_74 : decode cX12_homing 74 = .ok (.iastore, 1) := by decide +kernel
theorem dX12_homing_75 : decode cX12_homing 75 = .ok (.iload_n 3, 1) := by decide +kernel
theorem dX12_homing_76 : decode cX12_homing 76 = .ok (.aload_n 0, 1) := by decide +kernel
theorem dX12_homing_77 : decode cX12_homing 77 = .ok (.getfield 275, 3) := by decide +kernel
theorem dX12_homing_80 : decode cX12_homing 80 = .ok (.imul, 1) := by decide +kernel
theorem dX12_homing_81 : decode cX12_homing 81 = .ok (.istore_n 3, 1) := by decide +kernel
theorem dX12_homing_82 : decode cX12_homing 82 = .ok (.iinc 4 1, 3) := by decide +kernel
theorem dX12_homing_85 : decode cX12_homing 85 = .ok (.goto (-33), 3) := by decide +kernel
theorem dX12_homing_88 : decode cX12_homing 88 = .ok (.iconst (-1), 1) := by decide +kernel
theorem dX12_homing_89 : decode cX12_homing 89 = .ok (.istore 4, 2) := by decide +kernel
theorem dX12_homing_91 : decode cX12_homing 91 = .ok (.iconst 0, 1) := by decide +kernel
theorem dX12_homing_92 : decode cX12_homing 92 = .ok (.istore 5, 2) := by decide +kernel
theorem dX12_homing_94 : decode cX12_homing 94 = .ok (.iconst 0, 1) := by decide +kernel
theorem dX12_homing_95 : decode cX12_homing 95 = .ok (.istore 6, 2) := by decide +kernel
theorem dX12_homing_97 : decode cX12_homing 97 = .ok (.iload 6, 2) := by decide +kernel
theorem dX12_homing_99 : decode cX12_homing 99 = .ok (.iload_n 3, 1) := by decide +kernel
theorem dX12_homing_100 : decode cX12_homing 100 = .ok (.if_icmp .ge 142, 3) := by decide +kernel
theorem dX12_homing_103 : decode cX12_homing 103 = .ok (.iload 6, 2) := by decide +kernel
theorem dX12_homing_105 : decode cX12_homing 105 = .ok (.istore 7, 2) := by decide +kernel
theorem dX12_homing_107 : decode cX12_homing 107 = .ok (.iconst 0, 1) := by decide +kernel
theorem dX12_homing_108 : decode cX12_homing 108 = .ok (.istore 8, 2) := by decide +kernel
theorem dX12_homing_110 : decode cX12_homing 110 = .ok (.iconst 1, 1) := by decide +kernel
theorem dX12_homing_111 : decode cX12_homing 111 = .ok (.istore 9, 2) := by decide +kernel
theorem dX12_homing_113 : decode cX12_homing 113 = .ok (.iconst 0, 1) := by decide +kernel
theorem dX12_homing_114 : decode cX12_homing 114 = .ok (.istore 10, 2) := by decide +kernel
theorem dX12_homing_116 : decode cX12_homing 116 = .ok (.aload_n 0, 1) := by decide +kernel
theorem dX12_homing_117 : decode cX12_homing 117 = .ok (.getfield 281, 3) := by decide +kernel
theorem dX12_homing_120 : decode cX12_homing 120 = .ok (.iconst 1, 1) := by decide +kernel
theorem dX12_homing_121 : decode cX12_homing 121 = .ok (.isub, 1) := by decide +kernel
theorem dX12_homing_122 : decode cX12_homing 122 = .ok (.istore 11, 2) := by decide +kernel
theorem dX12_homing_124 : decode cX12_homing 124 = .ok (.iload 11, 2) := by decide +kernel
theorem dX12_homing_126 : decode cX12_homing 126 = .ok (.ifCond .lt 81, 3) := by decide +kernel
theorem dX12_homing_129 : decode cX12_homing 129 = .ok (.aload_n 0, 1) := by decide +kernel
theorem dX12_homing_130 : decode cX12_homing 130 = .ok (.getfield 55, 3) := by decide +kernel
theorem dX12_homing_133 : decode cX12_homing 133 = .ok (.iload 11, 2) := by decide +kernel
theorem dX12_homing_135 : decode cX12_homing 135 = .ok (.iload 7, 2) := by decide +kernel
theorem dX12_homing_137 : decode cX12_homing 137 = .ok (.aload_n 0, 1) := by decide +kernel
theorem dX12_homing_138 : decode cX12_homing 138 = .ok (.getfield 275, 3) := by decide +kernel
theorem dX12_homing_141 : decode cX12_homing 141 = .ok (.irem, 1) := by decide +kernel
theorem dX12_homing_142 : decode cX12_homing 142 = .ok (.iastore, 1) := by decide +kernel
theorem dX12_homing_143 : decode cX12_homing 143 = .ok (.iload 8, 2) := by decide +kernel
theorem dX12_homing_145 : decode cX12_homing 145 = .ok (.iload 9, 2) := by decide +kernel
theorem dX12_homing_147 : decode cX12_homing 147 = .ok (.aload_n 0, 1) := by decide +kernel
theorem dX12_homing_148 : decode cX12_homing 148 = .ok (.getfield 55, 3) := by decide +kernel
theorem dX12_homing_151 : decode cX12_homing 151 = .ok (.iload 11, 2) := by decide +kernel
theorem dX12_homing_153 : decode cX12_homing 153 = .ok (.iaload, 1) := by decide +kernel
theorem dX12_homing_154 : decode cX12_homing 154 = .ok (.imul, 1) := by decide +kernel
theorem dX12_homing_155 : decode cX12_homing 155 = .ok (.iadd, 1) := by decide +kernel
theorem dX12_homing_156 : decode cX12_homing 156 = .ok (.istore 8, 2) := by decide +kernel
theorem dX12_homing_158 : decode cX12_homing 158 = .ok (.iload 10, 2) := by decide +kernel
theorem dX12_homing_160 : decode cX12_homing 160 = .ok (.aload_n 0, 1) := by decide +kernel
theorem dX12_homing_161 : decode cX12_homing 161 = .ok (.getfield 55, 3) := by decide +kernel
theorem dX12_homing_164 : decode cX12_homing 164 = .ok (.iload 11, 2) := by decide +kernel
theorem dX12_homing_166 : decode cX12_homing 166 = .ok (.iaload, 1) := by decide +kernel
theorem dX12_homing_167 : decode cX12_homing 167 = .ok (.aload_n 0, 1) := by decide +kernel
theorem dX12_homing_168 : decode cX12_homing 168 = .ok (.getfield 103, 3) := by decide +kernel
theorem dX12_homing_171 : decode cX12_homing 171 = .ok (.iload 11, 2) := by decide +kernel
theorem dX12_homing_173 : decode cX12_homing 173 = .ok (.iaload, 1) := by decide +kernel
theorem dX12_homing_174 : decode cX12_homing 174 = .ok (.if_icmp .eq 7, 3) := by decide +kernel
theorem dX12_homing_177 : decode cX12_homing 177 = .ok (.iconst 1, 1) := by decide +kernel
theorem dX12_homing_178 : decode cX12_homing 178 = .ok (.goto 4, 3) := by decide +kernel
theorem dX12_homing_181 : decode cX12_homing 181 = .ok (.iconst 0, 1) := by decide +kernel
theorem dX12_homing_182 : decode cX12_homing 182 = .ok (.iadd, 1) := by decide +kernel
theorem dX12_homing_183 : decode cX12_homing 183 = .ok (.istore 10, 2) := by decide +kernel
theorem dX12_homing_185 : decode cX12_homing 185 = .ok (.iload 7, 2) := by decide +kernel
theorem dX12_homing_187 : decode cX12_homing 187 = .ok (.aload_n 0, 1) := by decide +kernel
theorem dX12_homing_188 : decode cX12_homing 188 = .ok (.getfield 275, 3) := by decide +kernel
theorem dX12_homing_191 : decode cX12_homing 191 = .ok (.idiv, 1) := by decide +kernel
theorem dX12_homing_192 : decode cX12_homing 192 = .ok (.istore 7, 2) := by decide +kernel
theorem dX12_homing_194 : decode cX12_homing 194 = .ok (.iload 9, 2) := by decide +kernel
theorem dX12_homing_196 : decode cX12_homing 196 = .ok (.bipush 10, 2) := by decide +kernel
theorem dX12_homing_198 : decode cX12_homing 198 = .ok (.imul, 1) := by decide +kernel
theorem dX12_homing_199 : decode cX12_homing 199 = .ok (.istore 9, 2) := by decide +kernel
theorem dX12_homing_201 : decode cX12_homing 201 = .ok (.iinc 11 (-1), 3) := by decide +kernel
theorem dX12_homing_204 : decode cX12_homing 204 = .ok (.goto (-80), 3) := by decide +kernel
theorem dX12_homing_207 : decode cX12_homing 207 = .ok (.iload 4, 2) := by decide +kernel
theorem dX12_homing_209 : decode cX12_homing 209 = .ok (.iconst (-1), 1) := by decide +kernel
theorem dX12_homing_210 : decode cX12_homing 210 = .ok (.if_icmp .eq 10, 3) := by decide +kernel
theorem dX12_homing_213 : decode cX12_homing 213 = .ok (.iload 10, 2) := by decide +kernel
theorem dX12_homing_215 : decode cX12_homing 215 = .ok (.iload 5, 2) := by decide +kernel
theorem dX12_homing_217 : decode cX12_homing 217 = .ok (.if_icmp .ge 19, 3) := by decide +kernel
theorem dX12_homing_220 : decode cX12_homing 220 = .ok (.aload_n 0, 1) := by decide +kernel
theorem dX12_homing_221 : decode cX12_homing 221 = .ok (.iload_n 1, 1) := by decide +kernel
theorem dX12_homing_222 : decode cX12_homing 222 = .ok (.invokevirtual 426, 3) := by decide +kernel
theorem dX12_homing_225 : decode cX12_homing 225 = .ok (.ifCond .eq 11, 3) := by decide +kernel
theorem dX12_homing_228 : decode cX12_homing 228 = .ok (.iload 8, 2) := by decide +kernel
theorem dX12_homing_230 : decode cX12_homing 230 = .ok (.istore 4, 2) := by decide +kernel
theorem dX12_homing_232 : decode cX12_homing 232 = .ok (.iload 10, 2) := by decide +kernel
theorem dX12_homing_234 : decode cX12_homing 234 = .ok (.istore 5, 2) := by decide +kernel
theorem dX12_homing_236 : decode cX12_homing 236 = .ok (.iinc 6 1, 3) := by decide +kernel
theorem dX12_homing_239 : decode cX12_homing 239 = .ok (.goto (-142), 3) := by decide +kernel
theorem dX12_homing_242 : decode cX12_homing 242 = .ok (.iconst 0, 1) := by decide +kernel
theorem dX12_homing_243 : decode cX12_homing 243 = .ok (.istore 6, 2) := by decide +kernel
theorem dX12_homing_245 : decode cX12_homing 245 = .ok (.iload 6, 2) := by decide +kernel
theorem dX12_homing_247 : decode cX12_homing 247 = .ok (.aload_n 0, 1) := by decide +kernel
theorem dX12_homing_248 : decode cX12_homing 248 = .ok (.getfield 281, 3) := by decide +kernel
theorem dX12_homing_251 : decode cX12_homing 251 = .ok (.if_icmp .ge 23, 3) := by decide +kernel
theorem dX12_homing_254 : decode cX12_homing 254 = .ok (.aload_n 0, 1) := by decide +kernel
theorem dX12_homing_255 : decode cX12_homing 255 = .ok (.getfield 55, 3) := by decide +kernel
theorem dX12_homing_258 : decode cX12_homing 258 = .ok (.iload 6, 2) := by decide +kernel
theorem dX12_homing_260 : decode cX12_homing 260 = .ok (.aload_n 0, 1) := by decide +kernel
theorem dX12_homing_261 : decode cX12_homing 261 = .ok (.getfield 103, 3) := by decide +kernel
theorem dX12_homing_264 : decode cX12_homing 264 = .ok (.iload 6, 2) := by decide +kernel
theorem dX12_homing_266 : decode cX12_homing 266 = .ok (.iaload, 1) := by decide +kernel
theorem dX12_homing_267 : decode cX12_homing 267 = .ok (.iastore, 1) := by decide +kernel
theorem dX12_homing_268 : decode cX12_homing 268 = .ok (.iinc 6 1, 3) := by decide +kernel
theorem dX12_homing_271 : decode cX12_homing 271 = .ok (.goto (-26), 3) := by decide +kernel
theorem dX12_homing_274 : decode cX12_homing 274 = .ok (.iload 4, 2) := by decide +kernel
theorem dX12_homing_276 : decode cX12_homing 276 = .ok (.iconst (-1), 1) := by decide +kernel
theorem dX12_homing_277 : decode cX12_homing 277 = .ok (.if_icmp .ne 7, 3) := by decide +kernel
theorem dX12_homing_280 : decode cX12_homing 280 = .ok (.iconst (-1), 1) := by decide +kernel
theorem dX12_homing_281 : decode cX12_homing 281 = .ok (.goto 14, 3) := by decide +kernel
theorem dX12_homing_284 : decode cX12_homing 284 = .ok (.iload_n 2, 1) := by decide +kernel
theorem dX12_homing_285 : decode cX12_homing 285 = .ok (.ifCond .ne 8, 3) := by decide +kernel
theorem dX12_homing_288 : decode cX12_homing 288 = .ok (.iload 5, 2) := by decide +kernel
theorem dX12_homing_290 : decode cX12_homing 290 = .ok (.goto 5, 3) := by decide +kernel
theorem dX12_homing_293 : decode cX12_homing 293 = .ok (.iload 4, 2) := by decide +kernel
theorem dX12_homing_295 : decode cX12_homing 295 = .ok (.ireturn, 1) := by decide +kernel
set_option maxRecDepth 100000 in
theorem u_X12_homing_52 {x : sm_Cx} {n : Nat} {F : Int32 → sm_MI → sm_ML → Prop} {T : List sm_Sh} {I : sm_MI} {L : sm_ML} {a1 : Int32} {a2 : Int32} {a3 : Int32} {a4 : Int32} (hB : sm_Bs T) (hx : sm_Ok x mX12_homing (n + 1) (sm_KI T F))
    (h : ((I 76 28) ≤ a4 → sm_V x 0 0 T I L 97 [some (.ref 76), some (.int a1), some (.int a2), some (.int a3), some (.int (-1)), some (.int 0), some (.int 0), none, none, none, none, none] []) ∧ (¬ (I 76 28) ≤ a4 → vp_in a4 8 ∧ (vp_in a4 8 ∧ (∀ I1 : sm_MI, I1 = (sm_uI I 106 (Int32.toNatClampNeg (a4)) (I 92 (Int32.toNatClampNeg (a4)))) → sm_V x 0 0 T I1 L 52 [some (.ref 76), some (.int a1), some (.int a2), some (.int (a3 * (I1 76 26))), some (.int (a4 + 1)), none, none, none, none, none, none, none] [])))) :
    sm_V x 0 0 T I L 52 [some (.ref 76), some (.int a1), some (.int a2), some (.int a3), some (.int a4), none, none, none, none, none, none, none] [] :=
  sm_iload (z := a4) hx dX12_homing_52 rfl (sm_aload_n (z := 76) hx dX12_homing_54 rfl (sm_getI hx dX12_homing_55 fl_X12_281_12 (t_76 hB) rfl (sm_icmpge (a := a4) (b := (I 76 28)) hx dX12_homing_58 (tgt := 88) (by decide) (fun q1 => sm_iconst (v := (-1)) hx dX12_homing_88 sm_kc_m1 (sm_istore (ls' := [some (.ref 76), some (.int a1), some (.int a2), some (.int a3), some (.int (-1)), none, none, none, none, none, none, none]) hx dX12_homing_89 (by decide) rfl (sm_iconst (v := 0) hx dX12_homing_91 sm_kc_0 (sm_istore (ls' := [some (.ref 76), some (.int a1), some (.int a2), some (.int a3), some (.int (-1)), some (.int 0), none, none, none, none, none, none]) hx dX12_homing_92 (by decide) rfl (sm_iconst (v := 0) hx dX12_homing_94 sm_kc_0 (sm_istore (ls' := [some (.ref 76), some (.int a1), some (.int a2), some (.int a3), some (.int (-1)), some (.int 0), some (.int 0), none, none, none, none, none]) hx dX12_homing_95 (by decide) rfl ((h.1 q1)))))))) (fun q1 => sm_aload_n (z := 76) hx dX12_homing_61 rfl (sm_getR hx dX12_homing_62 fl_X12_103_12 (t_76 hB) rfl (sm_iload (z := a4) hx dX12_homing_65 rfl (sm_aload_n (z := 76) hx dX12_homing_67 rfl (sm_getR hx dX12_homing_68 fl_X12_55_12 (t_76 hB) rfl (sm_iload (z := a4) hx dX12_homing_71 rfl (sm_iald (i := a4) hx dX12_homing_73 (t_92 hB) (h.2 q1).1 (sm_iast (i := a4) (v := (I 92 (Int32.toNatClampNeg (a4)))) hx dX12_homing_74 (t_106 hB) (h.2 q1).2.1 (sm_iload_n (z := a3) hx dX12_homing_75 rfl (sm_aload_n (z := 76) hx dX12_homing_76 rfl (sm_getI hx dX12_homing_77 fl_X12_275_12 (t_76 hB) rfl (sm_imul (a := a3) (b := ((sm_uI I 106 (Int32.toNatClampNeg (a4)) (I 92 (Int32.toNatClampNeg (a4)))) 76 26)) hx dX12_homing_80 (sm_istore_n (ls' := [some (.ref 76), some (.int a1), some (.int a2), some (.int (a3 * ((sm_uI I 106 (Int32.toNatClampNeg (a4)) (I 92 (Int32.toNatClampNeg (a4)))) 76 26))), some (.int a4), none, none, none, none, none, none, none]) hx dX12_homing_81 (by decide) rfl (sm_iinc (ls' := [some (.ref 76), some (.int a1), some (.int a2), some (.int (a3 * ((sm_uI I 106 (Int32.toNatClampNeg (a4)) (I 92 (Int32.toNatClampNeg (a4)))) 76 26))), some (.int (a4 + 1)), none, none, none, none, none, none, none]) (z := a4) (v := (a4 + 1)) hx dX12_homing_82 rfl (sm_kii_1 _) (by decide) rfl (sm_goto hx dX12_homing_85 (tgt := 52) (by decide) (((h.2 q1).2.2 _ rfl))))))))))))))))))))
set_option maxRecDepth 100000 in
theorem u_X12_homing_97 {x : sm_Cx} {n : Nat} {F : Int32 → sm_MI → sm_ML → Prop} {T : List sm_Sh} {I : sm_MI} {L : sm_ML} {a1 : Int32} {a2 : Int32} {a3 : Int32} {a4 : Int32} {a5 : Int32} {a6 : Int32} {u7 : Option Value} {u8 : Option Value} {u9 : Option Value} {u10 : Option Value} {u11 : Option Value} (hB : sm_Bs T) (hx : sm_Ok x mX12_homing (n + 1) (sm_KI T F))
    (h : (a3 ≤ a6 → sm_V x 0 0 T I L 245 [some (.ref 76), some (.int a1), some (.int a2), some (.int a3), some (.int a4), some (.int a5), some (.int 0), u7, u8, u9, u10, u11] []) ∧ (¬ a3 ≤ a6 → sm_V x 0 0 T I L 124 [some (.ref 76), some (.int a1), some (.int a2), some (.int a3), some (.int a4), some (.int a5), some (.int a6), some (.int a6), some (.int 0), some (.int 1), some (.int 0), some (.int ((I 76 28) - 1))] [])) :
    sm_V x 0 0 T I L 97 [some (.ref 76), some (.int a1), some (.int a2), some (.int a3), some (.int a4), some (.int a5), some (.int a6), u7, u8, u9, u10, u11] [] :=
  sm_iload (z := a6) hx dX12_homing_97 rfl (sm_iload_n (z := a3) hx dX12_homing_99 rfl (sm_icmpge (a := a6) (b := a3) hx dX12_homing_100 (tgt := 242) (by decide) (fun q2 => sm_iconst (v := 0) hx dX12_homing_242 sm_kc_0 (sm_istore (ls' := [some (.ref 76), some (.int a1), some (.int a2), some (.int a3), some (.int a4), some (.int a5), some (.int 0), u7, u8, u9, u10, u11]) hx dX12_homing_243 (by decide) rfl ((h.1 q2)))) (fun q2 => sm_iload (z := a6) hx dX12_homing_103 rfl (sm_istore (ls' := [some (.ref 76), some (.int a1), some (.int a2), some (.int a3), some (.int a4), some (.int a5), some (.int a6), some (.int a6), u8, u9, u10, u11]) hx dX12_homing_105 (by decide) rfl (sm_iconst (v := 0) hx dX12_homing_107 sm_kc_0 (sm_istore (ls' := [some (.ref 76), some (.int a1), some (.int a2), some (.int a3), some (.int a4), some (.int a5), some (.int a6), some (.int a6), some (.int 0), u9, u10, u11]) hx dX12_homing_108 (by decide) rfl (sm_iconst (v := 1) hx dX12_homing_110 sm_kc_1 (sm_istore (ls' := [some (.ref 76), some (.int a1), some (.int a2), some (.int a3), some (.int a4), some (.int a5), some (.int a6), some (.int a6), some (.int 0), some (.int 1), u10, u11]) hx dX12_homing_111 (by decide) rfl (sm_iconst (v := 0) hx dX12_homing_113 sm_kc_0 (sm_istore (ls' := [some (.ref 76), some (.int a1), some (.int a2), some (.int a3), some (.int a4), some (.int a5), some (.int a6), some (.int a6), some (.int 0), some (.int 1), some (.int 0), u11]) hx dX12_homing_114 (by decide) rfl (sm_aload_n (z := 76) hx dX12_homing_116 rfl (sm_getI hx dX12_homing_117 fl_X12_281_12 (t_76 hB) rfl (sm_iconst (v := 1) hx dX12_homing_120 sm_kc_1 (sm_isub (a := (I 76 28)) (b := 1) hx dX12_homing_121 (sm_istore (ls' := [some (.ref 76), some (.int a1), some (.int a2), some (.int a3), some (.int a4), some (.int a5), some (.int a6), some (.int a6), some (.int 0), some (.int 1), some (.int 0), some (.int ((I 76 28) - 1))]) hx dX12_homing_122 (by decide) rfl ((h.2 q2)))))))))))))))))
set_option maxRecDepth 100000 in
theorem u_X12_homing_124 {x : sm_Cx} {n : Nat} {F : Int32 → sm_MI → sm_ML → Prop} {T : List sm_Sh} {I : sm_MI} {L : sm_ML} {a1 : Int32} {a2 : Int32} {a3 : Int32} {a4 : Int32} {a5 : Int32} {a6 : Int32} {a7 : Int32} {a8 : Int32} {a9 : Int32} {a10 : Int32} {a11 : Int32} (hB : sm_Bs T) (hx : sm_Ok x mX12_homing (n + 1) (sm_KI T F))
    (h : (a11 < 0 → (a4 = (-1) → sm_CZ n mX12_comeHome T I L [.ref 76, .int a1] (fun r2 I1 L1 => (r2 = false → sm_V x 0 0 T I1 L1 97 [some (.ref 76), some (.int a1), some (.int a2), some (.int a3), some (.int a4), some (.int a5), some (.int (a6 + 1)), some (.int a7), some (.int a8), some (.int a9), some (.int a10), some (.int a11)] []) ∧ (r2 = true → sm_V x 0 0 T I1 L1 97 [some (.ref 76), some (.int a1), some (.int a2), some (.int a3), some (.int a8), some (.int a10), some (.int (a6 + 1)), some (.int a7), some (.int a8), some (.int a9), some (.int a10), some (.int a11)] []))) ∧ (¬ a4 = (-1) → (a5 ≤ a10 → sm_V x 0 0 T I L 97 [some (.ref 76), some (.int a1), some (.int a2), some (.int a3), some (.int a4), some (.int a5), some (.int (a6 + 1)), some (.int a7), some (.int a8), some (.int a9), some (.int a10), some (.int a11)] []) ∧ (¬ a5 ≤ a10 → sm_CZ n mX12_comeHome T I L [.ref 76, .int a1] (fun r4 I3 L3 => (r4 = false → sm_V x 0 0 T I3 L3 97 [some (.ref 76), some (.int a1), some (.int a2), some (.int a3), some (.int a4), some (.int a5), some (.int (a6 + 1)), some (.int a7), some (.int a8), some (.int a9), some (.int a10), some (.int a11)] []) ∧ (r4 = true → sm_V x 0 0 T I3 L3 97 [some (.ref 76), some (.int a1), some (.int a2), some (.int a3), some (.int a8), some (.int a10), some (.int (a6 + 1)), some (.int a7), some (.int a8), some (.int a9), some (.int a10), some (.int a11)] []))))) ∧ (¬ a11 < 0 → ¬ (I 76 26) = 0 ∧ (vp_in a11 8 ∧ (∀ I5 : sm_MI, I5 = (sm_uI I 92 (Int32.toNatClampNeg (a11)) (a7 - a7 / (I 76 26) * (I 76 26))) → vp_in a11 8 ∧ (∀ v6 : Int32, v6 = (a8 + (a9 * (I5 92 (Int32.toNatClampNeg (a11))))) → vp_in a11 8 ∧ (vp_in a11 8 ∧ (((I5 92 (Int32.toNatClampNeg (a11))) = (I5 106 (Int32.toNatClampNeg (a11))) → ¬ (I5 76 26) = 0 ∧ (sm_V x 0 0 T I5 L 124 [some (.ref 76), some (.int a1), some (.int a2), some (.int a3), some (.int a4), some (.int a5), some (.int a6), some (.int (a7 / (I5 76 26))), some (.int v6), some (.int (a9 * 10)), some (.int (a10 + 0)), some (.int (a11 + (-1)))] [])) ∧ (¬ (I5 92 (Int32.toNatClampNeg (a11))) = (I5 106 (Int32.toNatClampNeg (a11))) → ¬ (I5 76 26) = 0 ∧ (sm_V x 0 0 T I5 L 124 [some (.ref 76), some (.int a1), some (.int a2), some (.int a3), some (.int a4), some (.int a5), some (.int a6), some (.int (a7 / (I5 76 26))), some (.int v6), some (.int (a9 * 10)), some (.int (a10 + 1)), some (.int (a11 + (-1)))] []))))))))) :
    sm_V x 0 0 T I L 124 [some (.ref 76), some (.int a1), some (.int a2), some (.int a3), some (.int a4), some (.int a5), some (.int a6), some (.int a7), some (.int a8), some (.int a9), some (.int a10), some (.int a11)] [] :=
  sm_iload (z := a11) hx dX12_homing_124 rfl (sm_iflt (a := a11) hx dX12_homing_126 (tgt := 207) (by decide) (fun q8 => sm_iload (z := a4) hx dX12_homing_207 rfl (sm_iconst (v := (-1)) hx dX12_homing_209 sm_kc_m1 (sm_icmpeq (a := a4) (b := (-1)) hx dX12_homing_210 (tgt := 220) (by decide) (fun q6 => sm_aload_n (z := 76) hx dX12_homing_220 rfl (sm_iload_n (z := a1) hx dX12_homing_221 rfl (sm_callVZ (args := [.int a1]) (st := []) hx dX12_homing_222 lv_X12_426_12 rfl rfl (t_76 hB) rfl rfl ((h.1 q8).1 q6) (fun r2 I1 L1 hI1 => sm_ifeqZ (b := r2) hx dX12_homing_225 (tgt := 236) (by decide) (fun q3 => sm_iinc (ls' := [some (.ref 76), some (.int a1), some (.int a2), some (.int a3), some (.int a4), some (.int a5), some (.int (a6 + 1)), some (.int a7), some (.int a8), some (.int a9), some (.int a10), some (.int a11)]) (z := a6) (v := (a6 + 1)) hx dX12_homing_236 rfl (sm_kii_1 _) (by decide) rfl (sm_goto hx dX12_homing_239 (tgt := 97) (by decide) ((hI1.1 q3)))) (fun q3 => sm_iload (z := a8) hx dX12_homing_228 rfl (sm_istore (ls' := [some (.ref 76), some (.int a1), some (.int a2), some (.int a3), some (.int a8), some (.int a5), some (.int a6), some (.int a7), some (.int a8), some (.int a9), some (.int a10), some (.int a11)]) hx dX12_homing_230 (by decide) rfl (sm_iload (z := a10) hx dX12_homing_232 rfl (sm_istore (ls' := [some (.ref 76), some (.int a1), some (.int a2), some (.int a3), some (.int a8), some (.int a10), some (.int a6), some (.int a7), some (.int a8), some (.int a9), some (.int a10), some (.int a11)]) hx dX12_homing_234 (by decide) rfl (sm_iinc (ls' := [some (.ref 76), some (.int a1), some (.int a2), some (.int a3), some (.int a8), some (.int a10), some (.int (a6 + 1)), some (.int a7), some (.int a8), some (.int a9), some (.int a10), some (.int a11)]) (z := a6) (v := (a6 + 1)) hx dX12_homing_236 rfl (sm_kii_1 _) (by decide) rfl (sm_goto hx dX12_homing_239 (tgt := 97) (by decide) ((hI1.2 q3)))))))))))) (fun q6 => sm_iload (z := a10) hx dX12_homing_213 rfl (sm_iload (z := a5) hx dX12_homing_215 rfl (sm_icmpge (a := a10) (b := a5) hx dX12_homing_217 (tgt := 236) (by decide) (fun q5 => sm_iinc (ls' := [some (.ref 76), some (.int a1), some (.int a2), some (.int a3), some (.int a4), some (.int a5), some (.int (a6 + 1)), some (.int a7), some (.int a8), some (.int a9), some (.int a10), some (.int a11)]) (z := a6) (v := (a6 + 1)) hx dX12_homing_236 rfl (sm_kii_1 _) (by decide) rfl (sm_goto hx dX12_homing_239 (tgt := 97) (by decide) ((((h.1 q8).2 q6).1 q5)))) (fun q5 => sm_aload_n (z := 76) hx dX12_homing_220 rfl (sm_iload_n (z := a1) hx dX12_homing_221 rfl (sm_callVZ (args := [.int a1]) (st := []) hx dX12_homing_222 lv_X12_426_12 rfl rfl (t_76 hB) rfl rfl (((h.1 q8).2 q6).2 q5) (fun r4 I3 L3 hI3 => sm_ifeqZ (b := r4) hx dX12_homing_225 (tgt := 236) (by decide) (fun q4 => sm_iinc (ls' := [some (.ref 76), some (.int a1), some (.int a2), some (.int a3), some (.int a4), some (.int a5), some (.int (a6 + 1)), some (.int a7), some (.int a8), some (.int a9), some (.int a10), some (.int a11)]) (z := a6) (v := (a6 + 1)) hx dX12_homing_236 rfl (sm_kii_1 _) (by decide) rfl (sm_goto hx dX12_homing_239 (tgt := 97) (by decide) ((hI3.1 q4)))) (fun q4 => sm_iload (z := a8) hx dX12_homing_228 rfl (sm_istore (ls' := [some (.ref 76), some (.int a1), some (.int a2), some (.int a3), some (.int a8), some (.int a5), some (.int a6), some (.int a7), some (.int a8), some (.int a9), some (.int a10), some (.int a11)]) hx dX12_homing_230 (by decide) rfl (sm_iload (z := a10) hx dX12_homing_232 rfl (sm_istore (ls' := [some (.ref 76), some (.int a1), some (.int a2), some (.int a3), some (.int a8), some (.int a10), some (.int a6), some (.int a7), some (.int a8), some (.int a9), some (.int a10), some (.int a11)]) hx dX12_homing_234 (by decide) rfl (sm_iinc (ls' := [some (.ref 76), some (.int a1), some (.int a2), some (.int a3), some (.int a8), some (.int a10), some (.int (a6 + 1)), some (.int a7), some (.int a8), some (.int a9), some (.int a10), some (.int a11)]) (z := a6) (v := (a6 + 1)) hx dX12_homing_236 rfl (sm_kii_1 _) (by decide) rfl (sm_goto hx dX12_homing_239 (tgt := 97) (by decide) ((hI3.2 q4)))))))))))))))))) (fun q8 => sm_aload_n (z := 76) hx dX12_homing_129 rfl (sm_getR hx dX12_homing_130 fl_X12_55_12 (t_76 hB) rfl (sm_iload (z := a11) hx dX12_homing_133 rfl (sm_iload (z := a7) hx dX12_homing_135 rfl (sm_aload_n (z := 76) hx dX12_homing_137 rfl (sm_getI hx dX12_homing_138 fl_X12_275_12 (t_76 hB) rfl (sm_irem (a := a7) (b := (I 76 26)) hx dX12_homing_141 (h.2 q8).1 (sm_iast (i := a11) (v := (a7 - a7 / (I 76 26) * (I 76 26))) hx dX12_homing_142 (t_92 hB) (h.2 q8).2.1 (sm_iload (z := a8) hx dX12_homing_143 rfl (sm_iload (z := a9) hx dX12_homing_145 rfl (sm_aload_n (z := 76) hx dX12_homing_147 rfl (sm_getR hx dX12_homing_148 fl_X12_55_12 (t_76 hB) rfl (sm_iload (z := a11) hx dX12_homing_151 rfl (sm_iald (i := a11) hx dX12_homing_153 (t_92 hB) ((h.2 q8).2.2 _ rfl).1 (sm_imul (a := a9) (b := ((sm_uI I 92 (Int32.toNatClampNeg (a11)) (a7 - a7 / (I 76 26) * (I 76 26))) 92 (Int32.toNatClampNeg (a11)))) hx dX12_homing_154 (sm_iadd (a := a8) (b := (a9 * ((sm_uI I 92 (Int32.toNatClampNeg (a11)) (a7 - a7 / (I 76 26) * (I 76 26))) 92 (Int32.toNatClampNeg (a11))))) hx dX12_homing_155 (sm_istore (ls' := [some (.ref 76), some (.int a1), some (.int a2), some (.int a3), some (.int a4), some (.int a5), some (.int a6), some (.int a7), some (.int (a8 + (a9 * ((sm_uI I 92 (Int32.toNatClampNeg (a11)) (a7 - a7 / (I 76 26) * (I 76 26))) 92 (Int32.toNatClampNeg (a11)))))), some (.int a9), some (.int a10), some (.int a11)]) hx dX12_homing_156 (by decide) rfl (sm_iload (z := a10) hx dX12_homing_158 rfl (sm_aload_n (z := 76) hx dX12_homing_160 rfl (sm_getR hx dX12_homing_161 fl_X12_55_12 (t_76 hB) rfl (sm_iload (z := a11) hx dX12_homing_164 rfl (sm_iald (i := a11) hx dX12_homing_166 (t_92 hB) (((h.2 q8).2.2 _ rfl).2 _ rfl).1 (sm_aload_n (z := 76) hx dX12_homing_167 rfl (sm_getR hx dX12_homing_168 fl_X12_103_12 (t_76 hB) rfl (sm_iload (z := a11) hx dX12_homing_171 rfl (sm_iald (i := a11) hx dX12_homing_173 (t_106 hB) (((h.2 q8).2.2 _ rfl).2 _ rfl).2.1 (sm_icmpeq (a := ((sm_uI I 92 (Int32.toNatClampNeg (a11)) (a7 - a7 / (I 76 26) * (I 76 26))) 92 (Int32.toNatClampNeg (a11)))) (b := ((sm_uI I 92 (Int32.toNatClampNeg (a11)) (a7 - a7 / (I 76 26) * (I 76 26))) 106 (Int32.toNatClampNeg (a11)))) hx dX12_homing_174 (tgt := 181) (by decide) (fun q7 => sm_iconst (v := 0) hx dX12_homing_181 sm_kc_0 (sm_iadd (a := a10) (b := 0) hx dX12_homing_182 (sm_istore (ls' := [some (.ref 76), some (.int a1), some (.int a2), some (.int a3), some (.int a4), some (.int a5), some (.int a6), some (.int a7), some (.int (a8 + (a9 * ((sm_uI I 92 (Int32.toNatClampNeg (a11)) (a7 - a7 / (I 76 26) * (I 76 26))) 92 (Int32.toNatClampNeg (a11)))))), some (.int a9), some (.int (a10 + 0)), some (.int a11)]) hx dX12_homing_183 (by decide) rfl (sm_iload (z := a7) hx dX12_homing_185 rfl (sm_aload_n (z := 76) hx dX12_homing_187 rfl (sm_getI hx dX12_homing_188 fl_X12_275_12 (t_76 hB) rfl (sm_idiv (a := a7) (b := ((sm_uI I 92 (Int32.toNatClampNeg (a11)) (a7 - a7 / (I 76 26) * (I 76 26))) 76 26)) hx dX12_homing_191 ((((h.2 q8).2.2 _ rfl).2 _ rfl).2.2.1 q7).1 (sm_istore (ls' := [some (.ref 76), some (.int a1), some (.int a2), some (.int a3), some (.int a4), some (.int a5), some (.int a6), some (.int (a7 / ((sm_uI I 92 (Int32.toNatClampNeg (a11)) (a7 - a7 / (I 76 26) * (I 76 26))) 76 26))), some (.int (a8 + (a9 * ((sm_uI I 92 (Int32.toNatClampNeg (a11)) (a7 - a7 / (I 76 26) * (I 76 26))) 92 (Int32.toNatClampNeg (a11)))))), some (.int a9), some (.int (a10 + 0)), some (.int a11)]) hx dX12_homing_192 (by decide) rfl (sm_iload (z := a9) hx dX12_homing_194 rfl (sm_bipush (v := 10) hx dX12_homing_196 sm_kb_10 (sm_imul (a := a9) (b := 10) hx dX12_homing_198 (sm_istore (ls' := [some (.ref 76), some (.int a1), some (.int a2), some (.int a3), some (.int a4), some (.int a5), some (.int a6), some (.int (a7 / ((sm_uI I 92 (Int32.toNatClampNeg (a11)) (a7 - a7 / (I 76 26) * (I 76 26))) 76 26))), some (.int (a8 + (a9 * ((sm_uI I 92 (Int32.toNatClampNeg (a11)) (a7 - a7 / (I 76 26) * (I 76 26))) 92 (Int32.toNatClampNeg (a11)))))), some (.int (a9 * 10)), some (.int (a10 + 0)), some (.int a11)]) hx dX12_homing_199 (by decide) rfl (sm_iinc (ls' := [some (.ref 76), some (.int a1), some (.int a2), some (.int a3), some (.int a4), some (.int a5), some (.int a6), some (.int (a7 / ((sm_uI I 92 (Int32.toNatClampNeg (a11)) (a7 - a7 / (I 76 26) * (I 76 26))) 76 26))), some (.int (a8 + (a9 * ((sm_uI I 92 (Int32.toNatClampNeg (a11)) (a7 - a7 / (I 76 26) * (I 76 26))) 92 (Int32.toNatClampNeg (a11)))))), some (.int (a9 * 10)), some (.int (a10 + 0)), some (.int (a11 + (-1)))]) (z := a11) (v := (a11 + (-1))) hx dX12_homing_201 rfl (sm_kii_m1 _) (by decide) rfl (sm_goto hx dX12_homing_204 (tgt := 124) (by decide) (((((h.2 q8).2.2 _ rfl).2 _ rfl).2.2.1 q7).2))))))))))))))) (fun q7 => sm_iconst (v := 1) hx dX12_homing_177 sm_kc_1 (sm_goto hx dX12_homing_178 (tgt := 182) (by decide) (sm_iadd (a := a10) (b := 1) hx dX12_homing_182 (sm_istore (ls' := [some (.ref 76), some (.int a1), some (.int a2), some (.int a3), some (.int a4), some (.int a5), some (.int a6), some (.int a7), some (.int (a8 + (a9 * ((sm_uI I 92 (Int32.toNatClampNeg (a11)) (a7 - a7 / (I 76 26) * (I 76 26))) 92 (Int32.toNatClampNeg (a11)))))), some (.int a9), some (.int (a10 + 1)), some (.int a11)]) hx dX12_homing_183 (by decide) rfl (sm_iload (z := a7) hx dX12_homing_185 rfl (sm_aload_n (z := 76) hx dX12_homing_187 rfl (sm_getI hx dX12_homing_188 fl_X12_275_12 (t_76 hB) rfl (sm_idiv (a := a7) (b := ((sm_uI I 92 (Int32.toNatClampNeg (a11)) (a7 - a7 / (I 76 26) * (I 76 26))) 76 26)) hx dX12_homing_191 ((((h.2 q8).2.2 _ rfl).2 _ rfl).2.2.2 q7).1 (sm_istore (ls' := [some (.ref 76), some (.int a1), some (.int a2), some (.int a3), some (.int a4), some (.int a5), some (.int a6), some (.int (a7 / ((sm_uI I 92 (Int32.toNatClampNeg (a11)) (a7 - a7 / (I 76 26) * (I 76 26))) 76 26))), some (.int (a8 + (a9 * ((sm_uI I 92 (Int32.toNatClampNeg (a11)) (a7 - a7 / (I 76 26) * (I 76 26))) 92 (Int32.toNatClampNeg (a11)))))), some (.int a9), some (.int (a10 + 1)), some (.int a11)]) hx dX12_homing_192 (by decide) rfl (sm_iload (z := a9) hx dX12_homing_194 rfl (sm_bipush (v := 10) hx dX12_homing_196 sm_kb_10 (sm_imul (a := a9) (b := 10) hx dX12_homing_198 (sm_istore (ls' := [some (.ref 76), some (.int a1), some (.int a2), some (.int a3), some (.int a4), some (.int a5), some (.int a6), some (.int (a7 / ((sm_uI I 92 (Int32.toNatClampNeg (a11)) (a7 - a7 / (I 76 26) * (I 76 26))) 76 26))), some (.int (a8 + (a9 * ((sm_uI I 92 (Int32.toNatClampNeg (a11)) (a7 - a7 / (I 76 26) * (I 76 26))) 92 (Int32.toNatClampNeg (a11)))))), some (.int (a9 * 10)), some (.int (a10 + 1)), some (.int a11)]) hx dX12_homing_199 (by decide) rfl (sm_iinc (ls' := [some (.ref 76), some (.int a1), some (.int a2), some (.int a3), some (.int a4), some (.int a5), some (.int a6), some (.int (a7 / ((sm_uI I 92 (Int32.toNatClampNeg (a11)) (a7 - a7 / (I 76 26) * (I 76 26))) 76 26))), some (.int (a8 + (a9 * ((sm_uI I 92 (Int32.toNatClampNeg (a11)) (a7 - a7 / (I 76 26) * (I 76 26))) 92 (Int32.toNatClampNeg (a11)))))), some (.int (a9 * 10)), some (.int (a10 + 1)), some (.int (a11 + (-1)))]) (z := a11) (v := (a11 + (-1))) hx dX12_homing_201 rfl (sm_kii_m1 _) (by decide) rfl (sm_goto hx dX12_homing_204 (tgt := 124) (by decide) (((((h.2 q8).2.2 _ rfl).2 _ rfl).2.2.2 q7).2))))))))))))))))))))))))))))))))))))))))))))
set_option maxRecDepth 100000 in
theorem u_X12_homing_245 {x : sm_Cx} {n : Nat} {F : Int32 → sm_MI → sm_ML → Prop} {T : List sm_Sh} {I : sm_MI} {L : sm_ML} {a1 : Int32} {a2 : Int32} {a3 : Int32} {a4 : Int32} {a5 : Int32} {a6 : Int32} {u7 : Option Value} {u8 : Option Value} {u9 : Option Value} {u10 : Option Value} {u11 : Option Value} (hB : sm_Bs T) (hx : sm_Ok x mX12_homing (n + 1) (sm_KI T F))
    (h : ((I 76 28) ≤ a6 → (¬ a4 = (-1) → (¬ a2 = 0 → F a4 I L) ∧ (a2 = 0 → F a5 I L)) ∧ (a4 = (-1) → F (-1) I L)) ∧ (¬ (I 76 28) ≤ a6 → vp_in a6 8 ∧ (vp_in a6 8 ∧ (sm_V x 0 0 T (sm_uI I 92 (Int32.toNatClampNeg (a6)) (I 106 (Int32.toNatClampNeg (a6)))) L 245 [some (.ref 76), some (.int a1), some (.int a2), some (.int a3), some (.int a4), some (.int a5), some (.int (a6 + 1)), u7, u8, u9, u10, u11] [])))) :
    sm_V x 0 0 T I L 245 [some (.ref 76), some (.int a1), some (.int a2), some (.int a3), some (.int a4), some (.int a5), some (.int a6), u7, u8, u9, u10, u11] [] :=
  sm_iload (z := a6) hx dX12_homing_245 rfl (sm_aload_n (z := 76) hx dX12_homing_247 rfl (sm_getI hx dX12_homing_248 fl_X12_281_12 (t_76 hB) rfl (sm_icmpge (a := a6) (b := (I 76 28)) hx dX12_homing_251 (tgt := 274) (by decide) (fun q11 => sm_iload (z := a4) hx dX12_homing_274 rfl (sm_iconst (v := (-1)) hx dX12_homing_276 sm_kc_m1 (sm_icmpne (a := a4) (b := (-1)) hx dX12_homing_277 (tgt := 284) (by decide) (fun q10 => sm_iload_n (z := a2) hx dX12_homing_284 rfl (sm_ifne (a := a2) hx dX12_homing_285 (tgt := 293) (by decide) (fun q9 => sm_iload (z := a4) hx dX12_homing_293 rfl (sm_iretI hx dX12_homing_295 rfl (((h.1 q11).1 q10).1 q9))) (fun q9 => sm_iload (z := a5) hx dX12_homing_288 rfl (sm_goto hx dX12_homing_290 (tgt := 295) (by decide) (sm_iretI hx dX12_homing_295 rfl (((h.1 q11).1 q10).2 q9)))))) (fun q10 => sm_iconst (v := (-1)) hx dX12_homing_280 sm_kc_m1 (sm_goto hx dX12_homing_281 (tgt := 295) (by decide) (sm_iretI hx dX12_homing_295 rfl ((h.1 q11).2 q10))))))) (fun q11 => sm_aload_n (z := 76) hx dX12_homing_254 rfl (sm_getR hx dX12_homing_255 fl_X12_55_12 (t_76 hB) rfl (sm_iload (z := a6) hx dX12_homing_258 rfl (sm_aload_n (z := 76) hx dX12_homing_260 rfl (sm_getR hx dX12_homing_261 fl_X12_103_12 (t_76 hB) rfl (sm_iload (z := a6) hx dX12_homing_264 rfl (sm_iald (i := a6) hx dX12_homing_266 (t_106 hB) (h.2 q11).1 (sm_iast (i := a6) (v := (I 106 (Int32.toNatClampNeg (a6)))) hx dX12_homing_267 (t_92 hB) (h.2 q11).2.1 (sm_iinc (ls' := [some (.ref 76), some (.int a1), some (.int a2), some (.int a3), some (.int a4), some (.int a5), some (.int (a6 + 1)), u7, u8, u9, u10, u11]) (z := a6) (v := (a6 + 1)) hx dX12_homing_268 rfl (sm_kii_1 _) (by decide) rfl (sm_goto hx dX12_homing_271 (tgt := 245) (by decide) ((h.2 q11).2.2))))))))))))))
set_option maxRecDepth 100000 in
theorem c_X12_homing {n : Nat} {F : Int32 → sm_MI → sm_ML → Prop} {T : List sm_Sh} {I : sm_MI} {L : sm_ML} {a1 : Int32} {a2 : Int32} (hB : sm_Bs T)
    (h : ∀ x : sm_Cx, sm_Ok x mX12_homing (n + 1) (sm_KI T F) → ((I 76 26) = 0 → F (-1000000) I L) ∧ (¬ (I 76 26) = 0 → (4 < (I 76 28) → F (-1000000) I L) ∧ (¬ 4 < (I 76 28) → (6 < (I 76 26) → F (-1000000) I L) ∧ (¬ 6 < (I 76 26) → sm_CZ n mX12_in T I L [.int a2, .int 0, .int 1] (fun r2 I1 L1 => (r2 = true → sm_CZ n mX12_areNights T I1 L1 [.ref 76, .int a1] (fun r4 I3 L3 => (r4 = true → sm_V x 0 0 T I3 L3 52 [some (.ref 76), some (.int a1), some (.int a2), some (.int 1), some (.int 0), none, none, none, none, none, none, none] []) ∧ (r4 = false → F (-1) I3 L3))) ∧ (r2 = false → F (-1000000) I1 L1)))))) :
    sm_CI (n + 1) mX12_homing T I L [.ref 76, .int a1, .int a2] F :=
  sm_CI.of (by decide +kernel) rfl (fun x hx => show sm_V x 0 0 T I L 0 [some (.ref 76), some (.int a1), some (.int a2), none, none, none, none, none, none, none, none, none] [] from
  sm_aload_n (z := 76) hx dX12_homing_0 rfl (sm_getI hx dX12_homing_1 fl_X12_275_12 (t_76 hB) rfl (sm_ifeq (a := (I 76 26)) hx dX12_homing_4 (tgt := 33) (by decide) (fun q16 => sm_ldcw (v := (-1000000)) hx dX12_homing_33 k_X12_394 (sm_iretI hx dX12_homing_36 rfl ((h x hx).1 q16))) (fun q16 => sm_aload_n (z := 76) hx dX12_homing_7 rfl (sm_getI hx dX12_homing_8 fl_X12_281_12 (t_76 hB) rfl (sm_iconst (v := 4) hx dX12_homing_11 sm_kc_4 (sm_icmpgt (a := (I 76 28)) (b := 4) hx dX12_homing_12 (tgt := 33) (by decide) (fun q15 => sm_ldcw (v := (-1000000)) hx dX12_homing_33 k_X12_394 (sm_iretI hx dX12_homing_36 rfl (((h x hx).2 q16).1 q15))) (fun q15 => sm_aload_n (z := 76) hx dX12_homing_15 rfl (sm_getI hx dX12_homing_16 fl_X12_275_12 (t_76 hB) rfl (sm_bipush (v := 6) hx dX12_homing_19 sm_kb_6 (sm_icmpgt (a := (I 76 26)) (b := 6) hx dX12_homing_21 (tgt := 33) (by decide) (fun q14 => sm_ldcw (v := (-1000000)) hx dX12_homing_33 k_X12_394 (sm_iretI hx dX12_homing_36 rfl ((((h x hx).2 q16).2 q15).1 q14))) (fun q14 => sm_iload_n (z := a2) hx dX12_homing_24 rfl (sm_iconst (v := 0) hx dX12_homing_25 sm_kc_0 (sm_iconst (v := 1) hx dX12_homing_26 sm_kc_1 (sm_callSZ (args := [.int a2, .int 0, .int 1]) (st := []) hx dX12_homing_27 ls_X12_227 rfl rfl rfl ((((h x hx).2 q16).2 q15).2 q14) (fun r2 I1 L1 hI1 => sm_ifneZ (b := r2) hx dX12_homing_30 (tgt := 37) (by decide) (fun q13 => sm_aload_n (z := 76) hx dX12_homing_37 rfl (sm_iload_n (z := a1) hx dX12_homing_38 rfl (sm_callVZ (args := [.int a1]) (st := []) hx dX12_homing_39 lv_X12_366_12 rfl rfl (t_76 hB) rfl rfl (hI1.1 q13) (fun r4 I3 L3 hI3 => sm_ifneZ (b := r4) hx dX12_homing_42 (tgt := 47) (by decide) (fun q12 => sm_iconst (v := 1) hx dX12_homing_47 sm_kc_1 (sm_istore_n (ls' := [some (.ref 76), some (.int a1), some (.int a2), some (.int 1), none, none, none, none, none, none, none, none]) hx dX12_homing_48 (by decide) rfl (sm_iconst (v := 0) hx dX12_homing_49 sm_kc_0 (sm_istore (ls' := [some (.ref 76), some (.int a1), some (.int a2), some (.int 1), some (.int 0), none, none, none, none, none, none, none]) hx dX12_homing_50 (by decide) rfl ((hI3.1 q12)))))) (fun q12 => sm_iconst (v := (-1)) hx dX12_homing_45 sm_kc_m1 (sm_iretI hx dX12_homing_46 rfl (hI3.2 q12))))))) (fun q13 => sm_ldcw (v := (-1000000)) hx dX12_homing_33 k_X12_394 (sm_iretI hx dX12_homing_36 rfl (hI1.2 q13)))))))))))))))))))
theorem dX12_comeHome_0 : decode cX12_comeHome 0 = .ok (.aload_n 0, 1) := by decide +kernel
theorem dX12_comeHome_1 : decode cX12_comeHome 1 = .ok (.invokevirtual 385, 3) := by decide +kernel
theorem dX12_comeHome_4 : decode cX12_comeHome 4 = .ok (.aload_n 0, 1) := by decide +kernel
theorem dX12_comeHome_5 : decode cX12_comeHome 5 = .ok (.iload_n 1, 1) := by decide +kernel
theorem dX12_comeHome_6 : decode cX12_comeHome 6 = .ok (.invokevirtual 388, 3) := by decide +kernel
theorem dX12_comeHome_9 : decode cX12_comeHome 9 = .ok (.iconst 1, 1) := by decide +kernel
theorem dX12_comeHome_10 : decode cX12_comeHome 10 = .ok (.istore_n 2, 1) := by decide +kernel
theorem dX12_comeHome_11 : decode cX12_comeHome 11 = .ok (.iconst 0, 1) := by decide +kernel
theorem dX12_comeHome_12 : decode cX12_comeHome 12 = .ok (.istore_n 3, 1) := by decide +kernel
theorem dX12_comeHome_13 : decode cX12_comeHome 13 = .ok (.iload_n 3, 1) := by decide +kernel
theorem dX12_comeHome_14 : decode cX12_comeHome 14 = .ok (.aload_n 0, 1) := by decide +kernel
theorem dX12_comeHome_15 : decode cX12_comeHome 15 = .ok (.getfield 281, 3) := by decide +kernel
theorem dX12_comeHome_18 : decode cX12_comeHome 18 = .ok (.if_icmp .ge 34, 3) := by decide +kernel
theorem dX12_comeHome_21 : decode cX12_comeHome 21 = .ok (.iload_n 2, 1) := by decide +kernel
theorem dX12_comeHome_22 : decode cX12_comeHome 22 = .ok (.ifCond .eq 22, 3) := by decide +kernel
theorem dX12_comeHome_25 : decode cX12_comeHome 25 = .ok (.aload_n 0, 1) := by decide +kernel
theorem dX12_comeHome_26 : decode cX12_comeHome 26 = .ok (.getfield 55, 3) := by decide +kernel
theorem dX12_comeHome_29 : decode cX12_comeHome 29 = .ok (.iload_n 3, 1) := by decide +kernel
theorem dX12_comeHome_30 : decode cX12_comeHome 30 = .ok (.iaload, 1) := by decide +kernel
theorem dX12_comeHome_31 : decode cX12_comeHome 31 = .ok (.aload_n 0, 1) := by decide +kernel
theorem dX12_comeHome_32 : decode cX12_comeHome 32 = .ok (.getfield 49, 3) := by decide +kernel
theorem dX12_comeHome_35 : decode cX12_comeHome 35 = .ok (.iload_n 3, 1) := by decide +kernel
theorem dX12_comeHome_36 : decode cX12_comeHome 36 = .ok (.iaload, 1) := by decide +kernel
theorem dX12_comeHome_37 : decode cX12_comeHome 37 = .ok (.if_icmp .ne 7, 3) := by decide +kernel
theorem dX12_comeHome_40 : decode cX12_comeHome 40 = .ok (.iconst 1, 1) := by decide +kernel
theorem dX12_comeHome_41 : decode cX12_comeHome 41 = .ok (.goto 4, 3) := by decide +kernel
theorem dX12_comeHome_44 : decode cX12_comeHome 44 = .ok (.iconst 0, 1) := by decide +kernel
theorem dX12_comeHome_45 : decode cX12_comeHome 45 = .ok (.istore_n 2, 1) := by decide +kernel
theorem dX12_comeHome_46 : decode cX12_comeHome 46 = .ok (.iinc 3 1, 3) := by decide +kernel
theorem dX12_comeHome_49 : decode cX12_comeHome 49 = .ok (.goto (-36), 3) := by decide +kernel
theorem dX12_comeHome_52 : decode cX12_comeHome 52 = .ok (.aload_n 0, 1) := by decide +kernel
theorem dX12_comeHome_53 : decode cX12_comeHome 53 = .ok (.invokevirtual 391, 3) := by decide +kernel
theorem dX12_comeHome_56 : decode cX12_comeHome 56 = .ok (.iload_n 2, 1) := by decide +kernel
theorem dX12_comeHome_57 : decode cX12_comeHome 57 = .ok (.ireturn, 1) := by decide +kernel
set_option maxRecDepth 100000 in
theorem u_X12_comeHome_13 {x : sm_Cx} {n : Nat} {F : Bool → sm_MI → sm_ML → Prop} {T : List sm_Sh} {I : sm_MI} {L : sm_ML} {a1 : Int32} {b2 : Bool} {a3 : Int32} (hB : sm_Bs T) (hx : sm_Ok x mX12_comeHome (n + 1) (sm_KZ T F))
    (h : ((I 76 28) ≤ a3 → sm_CV n mX12_takeBack T I L [.ref 76] (fun I1 L1 => F b2 I1 L1)) ∧ (¬ (I 76 28) ≤ a3 → (b2 = false → sm_V x 0 0 T I L 13 [some (.ref 76), some (.int a1), some (.int (sm_z false)), some (.int (a3 + 1))] []) ∧ (b2 = true → vp_in a3 8 ∧ (vp_in a3 8 ∧ ((¬ (I 92 (Int32.toNatClampNeg (a3))) = (I 90 (Int32.toNatClampNeg (a3))) → sm_V x 0 0 T I L 13 [some (.ref 76), some (.int a1), some (.int (sm_z false)), some (.int (a3 + 1))] []) ∧ ((I 92 (Int32.toNatClampNeg (a3))) = (I 90 (Int32.toNatClampNeg (a3))) → sm_V x 0 0 T I L 13 [some (.ref 76), some (.int a1), some (.int (sm_z true)), some (.int (a3 + 1))] [])))))) :
    sm_V x 0 0 T I L 13 [some (.ref 76), some (.int a1), some (.int (sm_z b2)), some (.int a3)] [] :=
  sm_iload_n (z := a3) hx dX12_comeHome_13 rfl (sm_aload_n (z := 76) hx dX12_comeHome_14 rfl (sm_getI hx dX12_comeHome_15 fl_X12_281_12 (t_76 hB) rfl (sm_icmpge (a := a3) (b := (I 76 28)) hx dX12_comeHome_18 (tgt := 52) (by decide) (fun q3 => sm_aload_n (z := 76) hx dX12_comeHome_52 rfl (sm_callVV (args := []) (st := []) hx dX12_comeHome_53 lv_X12_391_12 rfl rfl (t_76 hB) rfl rfl (h.1 q3) (fun I1 L1 hI1 => sm_iload_n (z := (sm_z b2)) hx dX12_comeHome_56 rfl (sm_iretZ (z := b2) hx dX12_comeHome_57 rfl hI1)))) (fun q3 => sm_iload_n (z := (sm_z b2)) hx dX12_comeHome_21 rfl (sm_ifeqZ (b := b2) hx dX12_comeHome_22 (tgt := 44) (by decide) (fun q2 => sm_iconst (v := 0) hx dX12_comeHome_44 sm_kc_0 (sm_istore_n (ls' := [some (.ref 76), some (.int a1), some (.int 0), some (.int a3)]) hx dX12_comeHome_45 (by decide) rfl (sm_iinc (ls' := [some (.ref 76), some (.int a1), some (.int 0), some (.int (a3 + 1))]) (z := a3) (v := (a3 + 1)) hx dX12_comeHome_46 rfl (sm_kii_1 _) (by decide) rfl (sm_goto hx dX12_comeHome_49 (tgt := 13) (by decide) (((h.2 q3).1 q2)))))) (fun q2 => sm_aload_n (z := 76) hx dX12_comeHome_25 rfl (sm_getR hx dX12_comeHome_26 fl_X12_55_12 (t_76 hB) rfl (sm_iload_n (z := a3) hx dX12_comeHome_29 rfl (sm_iald (i := a3) hx dX12_comeHome_30 (t_92 hB) ((h.2 q3).2 q2).1 (sm_aload_n (z := 76) hx dX12_comeHome_31 rfl (sm_getR hx dX12_comeHome_32 fl_X12_49_12 (t_76 hB) rfl (sm_iload_n (z := a3) hx dX12_comeHome_35 rfl (sm_iald (i := a3) hx dX12_comeHome_36 (t_90 hB) ((h.2 q3).2 q2).2.1 (sm_icmpne (a := (I 92 (Int32.toNatClampNeg (a3)))) (b := (I 90 (Int32.toNatClampNeg (a3)))) hx dX12_comeHome_37 (tgt := 44) (by decide) (fun q1 => sm_iconst (v := 0) hx dX12_comeHome_44 sm_kc_0 (sm_istore_n (ls' := [some (.ref 76), some (.int a1), some (.int 0), some (.int a3)]) hx dX12_comeHome_45 (by decide) rfl (sm_iinc (ls' := [some (.ref 76), some (.int a1), some (.int 0), some (.int (a3 + 1))]) (z := a3) (v := (a3 + 1)) hx dX12_comeHome_46 rfl (sm_kii_1 _) (by decide) rfl (sm_goto hx dX12_comeHome_49 (tgt := 13) (by decide) ((((h.2 q3).2 q2).2.2.1 q1)))))) (fun q1 => sm_iconst (v := 1) hx dX12_comeHome_40 sm_kc_1 (sm_goto hx dX12_comeHome_41 (tgt := 45) (by decide) (sm_istore_n (ls' := [some (.ref 76), some (.int a1), some (.int 1), some (.int a3)]) hx dX12_comeHome_45 (by decide) rfl (sm_iinc (ls' := [some (.ref 76), some (.int a1), some (.int 1), some (.int (a3 + 1))]) (z := a3) (v := (a3 + 1)) hx dX12_comeHome_46 rfl (sm_kii_1 _) (by decide) rfl (sm_goto hx dX12_comeHome_49 (tgt := 13) (by decide) ((((h.2 q3).2 q2).2.2.2 q1)))))))))))))))))))))
set_option maxRecDepth 100000 in
theorem c_X12_comeHome {n : Nat} {F : Bool → sm_MI → sm_ML → Prop} {T : List sm_Sh} {I : sm_MI} {L : sm_ML} {a1 : Int32} (hB : sm_Bs T)
    (h : ∀ x : sm_Cx, sm_Ok x mX12_comeHome (n + 1) (sm_KZ T F) → sm_CV n mX12_putAside T I L [.ref 76] (fun I1 L1 => sm_CV n mX12_calmNights T I1 L1 [.ref 76, .int a1] (fun I2 L2 => sm_V x 0 0 T I2 L2 13 [some (.ref 76), some (.int a1), some (.int (sm_z true)), some (.int 0)] []))) :
    sm_CZ (n + 1) mX12_comeHome T I L [.ref 76, .int a1] F :=
  sm_CZ.of (by decide +kernel) rfl (fun x hx => show sm_V x 0 0 T I L 0 [some (.ref 76), some (.int a1), none, none] [] from
  sm_aload_n (z := 76) hx dX12_comeHome_0 rfl (sm_callVV (args := []) (st := []) hx dX12_comeHome_1 lv_X12_385_12 rfl rfl (t_76 hB) rfl rfl (h x hx) (fun I1 L1 hI1 => sm_aload_n (z := 76) hx dX12_comeHome_4 rfl (sm_iload_n (z := a1) hx dX12_comeHome_5 rfl (sm_callVV (args := [.int a1]) (st := []) hx dX12_comeHome_6 lv_X12_388_12 rfl rfl (t_76 hB) rfl rfl hI1 (fun I2 L2 hI2 => sm_iconst (v := 1) hx dX12_comeHome_9 sm_kc_1 (sm_istore_n (ls' := [some (.ref 76), some (.int a1), some (.int 1), none]) hx dX12_comeHome_10 (by decide) rfl (sm_iconst (v := 0) hx dX12_comeHome_11 sm_kc_0 (sm_istore_n (ls' := [some (.ref 76), some (.int a1), some (.int 1), some (.int 0)]) hx dX12_comeHome_12 (by decide) rfl (hI2))))))))))
theorem dX12_elsewhere_0 : decode cX12_elsewhere 0 = .ok (.iconst 0, 1) := by decide +kernel
theorem dX12_elsewhere_1 : decode cX12_elsewhere 1 = .ok (.istore_n 1, 1) := by decide +kernel
theorem dX12_elsewhere_2 : decode cX12_elsewhere 2 = .ok (.iconst 0, 1) := by decide +kernel
theorem dX12_elsewhere_3 : decode cX12_elsewhere 3 = .ok (.istore_n 2, 1) := by decide +kernel
theorem dX12_elsewhere_4 : decode cX12_elsewhere 4 = .ok (.iload_n 2, 1) := by decide +kernel
theorem dX12_elsewhere_5 : decode cX12_elsewhere 5 = .ok (.aload_n 0, 1) := by decide +kernel
theorem dX12_elsewhere_6 : decode cX12_elsewhere 6 = .ok (.getfield 281, 3) := by decide +kernel
theorem dX12_elsewhere_9 : decode cX12_elsewhere 9 = .ok (.if_icmp .ge 32, 3) := by decide +kernel
theorem dX12_elsewhere_12 : decode cX12_elsewhere 12 = .ok (.iload_n 1, 1) := by decide +kernel
theorem dX12_elsewhere_13 : decode cX12_elsewhere 13 = .ok (.aload_n 0, 1) := by decide +kernel
theorem dX12_elsewhere_14 : decode cX12_elsewhere 14 = .ok (.getfield 55, 3) := by decide +kernel
theorem dX12_elsewhere_17 : decode cX12_elsewhere 17 = .ok (.iload_n 2, 1) := by decide +kernel
theorem dX12_elsewhere_18 : decode cX12_elsewhere 18 = .ok (.iaload, 1) := by decide +kernel
theorem dX12_elsewhere_19 : decode cX12_elsewhere 19 = .ok (.aload_n 0, 1) := by decide +kernel
theorem dX12_elsewhere_20 : decode cX12_elsewhere 20 = .ok (.getfield 106, 3) := by decide +kernel
theorem dX12_elsewhere_23 : decode cX12_elsewhere 23 = .ok (.iload_n 2, 1) := by decide +kernel
theorem dX12_elsewhere_24 : decode cX12_elsewhere 24 = .ok (.iaload, 1) := by decide +kernel
theorem dX12_elsewhere_25 : decode cX12_elsewhere 25 = .ok (.if_icmp .eq 7, 3) := by decide +kernel
theorem dX12_elsewhere_28 : decode cX12_elsewhere 28 = .ok (.iconst 1, 1) := by decide +kernel
theorem dX12_elsewhere_29 : decode cX12_elsewhere 29 = .ok (.goto 4, 3) := by decide +kernel
theorem dX12_elsewhere_32 : decode cX12_elsewhere 32 = .ok (.iconst 0, 1) := by decide +kernel
theorem dX12_elsewhere_33 : decode cX12_elsewhere 33 = .ok (.iadd, 1) := by decide +kernel
theorem dX12_elsewhere_34 : decode cX12_elsewhere 34 = .ok (.istore_n 1, 1) := by decide +kernel
theorem dX12_elsewhere_35 : decode cX12_elsewhere 35 = .ok (.iinc 2 1, 3) := by decide +kernel
theorem dX12_elsewhere_38 : decode cX12_elsewhere 38 = .ok (.goto (-34), 3) := by decide +kernel
theorem dX12_elsewhere_41 : decode cX12_elsewhere 41 = .ok (.iload_n 1, 1) := by decide +kernel
theorem dX12_elsewhere_42 : decode cX12_elsewhere 42 = .ok (.ireturn, 1) := by decide +kernel
set_option maxRecDepth 100000 in
theorem u_X12_elsewhere_4 {x : sm_Cx} {n : Nat} {F : Int32 → sm_MI → sm_ML → Prop} {T : List sm_Sh} {I : sm_MI} {L : sm_ML} {a1 : Int32} {a2 : Int32} (hB : sm_Bs T) (hx : sm_Ok x mX12_elsewhere n (sm_KI T F))
    (h : ((I 76 28) ≤ a2 → F a1 I L) ∧ (¬ (I 76 28) ≤ a2 → vp_in a2 8 ∧ (vp_in a2 8 ∧ (((I 92 (Int32.toNatClampNeg (a2))) = (I 107 (Int32.toNatClampNeg (a2))) → sm_V x 0 0 T I L 4 [some (.ref 76), some (.int (a1 + 0)), some (.int (a2 + 1))] []) ∧ (¬ (I 92 (Int32.toNatClampNeg (a2))) = (I 107 (Int32.toNatClampNeg (a2))) → sm_V x 0 0 T I L 4 [some (.ref 76), some (.int (a1 + 1)), some (.int (a2 + 1))] []))))) :
    sm_V x 0 0 T I L 4 [some (.ref 76), some (.int a1), some (.int a2)] [] :=
  sm_iload_n (z := a2) hx dX12_elsewhere_4 rfl (sm_aload_n (z := 76) hx dX12_elsewhere_5 rfl (sm_getI hx dX12_elsewhere_6 fl_X12_281_12 (t_76 hB) rfl (sm_icmpge (a := a2) (b := (I 76 28)) hx dX12_elsewhere_9 (tgt := 41) (by decide) (fun q2 => sm_iload_n (z := a1) hx dX12_elsewhere_41 rfl (sm_iretI hx dX12_elsewhere_42 rfl (h.1 q2))) (fun q2 => sm_iload_n (z := a1) hx dX12_elsewhere_12 rfl (sm_aload_n (z := 76) hx dX12_elsewhere_13 rfl (sm_getR hx dX12_elsewhere_14 fl_X12_55_12 (t_76 hB) rfl (sm_iload_n (z := a2) hx dX12_elsewhere_17 rfl (sm_iald (i := a2) hx dX12_elsewhere_18 (t_92 hB) (h.2 q2).1 (sm_aload_n (z := 76) hx dX12_elsewhere_19 rfl (sm_getR hx dX12_elsewhere_20 fl_X12_106_12 (t_76 hB) rfl (sm_iload_n (z := a2) hx dX12_elsewhere_23 rfl (sm_iald (i := a2) hx dX12_elsewhere_24 (t_107 hB) (h.2 q2).2.1 (sm_icmpeq (a := (I 92 (Int32.toNatClampNeg (a2)))) (b := (I 107 (Int32.toNatClampNeg (a2)))) hx dX12_elsewhere_25 (tgt := 32) (by decide) (fun q1 => sm_iconst (v := 0) hx dX12_elsewhere_32 sm_kc_0 (sm_iadd (a := a1) (b := 0) hx dX12_elsewhere_33 (sm_istore_n (ls' := [some (.ref 76), some (.int (a1 + 0)), some (.int a2)]) hx dX12_elsewhere_34 (by decide) rfl (sm_iinc (ls' := [some (.ref 76), some (.int (a1 + 0)), some (.int (a2 + 1))]) (z := a2) (v := (a2 + 1)) hx dX12_elsewhere_35 rfl (sm_kii_1 _) (by decide) rfl (sm_goto hx dX12_elsewhere_38 (tgt := 4) (by decide) (((h.2 q2).2.2.1 q1))))))) (fun q1 => sm_iconst (v := 1) hx dX12_elsewhere_28 sm_kc_1 (sm_goto hx dX12_elsewhere_29 (tgt := 33) (by decide) (sm_iadd (a := a1) (b := 1) hx dX12_elsewhere_33 (sm_istore_n (ls' := [some (.ref 76), some (.int (a1 + 1)), some (.int a2)]) hx dX12_elsewhere_34 (by decide) rfl (sm_iinc (ls' := [some (.ref 76), some (.int (a1 + 1)), some (.int (a2 + 1))]) (z := a2) (v := (a2 + 1)) hx dX12_elsewhere_35 rfl (sm_kii_1 _) (by decide) rfl (sm_goto hx dX12_elsewhere_38 (tgt := 4) (by decide) (((h.2 q2).2.2.2 q1)))))))))))))))))))))
set_option maxRecDepth 100000 in
theorem c_X12_elsewhere {n : Nat} {F : Int32 → sm_MI → sm_ML → Prop} {T : List sm_Sh} {I : sm_MI} {L : sm_ML}  (hB : sm_Bs T)
    (h : ∀ x : sm_Cx, sm_Ok x mX12_elsewhere n (sm_KI T F) → sm_V x 0 0 T I L 4 [some (.ref 76), some (.int 0), some (.int 0)] []) :
    sm_CI n mX12_elsewhere T I L [.ref 76] F :=
  sm_CI.of (by decide +kernel) rfl (fun x hx => show sm_V x 0 0 T I L 0 [some (.ref 76), none, none] [] from
  sm_iconst (v := 0) hx dX12_elsewhere_0 sm_kc_0 (sm_istore_n (ls' := [some (.ref 76), some (.int 0), none]) hx dX12_elsewhere_1 (by decide) rfl (sm_iconst (v := 0) hx dX12_elsewhere_2 sm_kc_0 (sm_istore_n (ls' := [some (.ref 76), some (.int 0), some (.int 0)]) hx dX12_elsewhere_3 (by decide) rfl ((h x hx))))))
theorem dX12_noteEnds_0 : decode cX12_noteEnds 0 = .ok (.aload_n 0, 1) := by decide +kernel
theorem dX12_noteEnds_1 : decode cX12_noteEnds 1 = .ok (.invokevirtual 385, 3) := by decide +kernel
theorem dX12_noteEnds_4 : decode cX12_noteEnds 4 = .ok (.aload_n 0, 1) := by decide +kernel
theorem dX12_noteEnds_5 : decode cX12_noteEnds 5 = .ok (.iload_n 1, 1) := by decide +kernel
theorem dX12_noteEnds_6 : decode cX12_noteEnds 6 = .ok (.invokevirtual 388, 3) := by decide +kernel
theorem dX12_noteEnds_9 : decode cX12_noteEnds 9 = .ok (.iconst 0, 1) := by decide +kernel
theorem dX12_noteEnds_10 : decode cX12_noteEnds 10 = .ok (.istore_n 2, 1) := by decide +kernel
theorem dX12_noteEnds_11 : decode cX12_noteEnds 11 = .ok (.iload_n 2, 1) := by decide +kernel
theorem dX12_noteEnds_12 : decode cX12_noteEnds 12 = .ok (.aload_n 0, 1) := by decide +kernel
theorem dX12_noteEnds_13 : decode cX12_noteEnds 13 = .ok (.getfield 281, 3) := by decide +kernel
theorem dX12_noteEnds_16 : decode cX12_noteEnds 16 = .ok (.if_icmp .ge 21, 3) := by decide +kernel
theorem dX12_noteEnds_19 : decode cX12_noteEnds 19 = .ok (.aload_n 0, 1) := by decide +kernel
theorem dX12_noteEnds_20 : decode cX12_noteEnds 20 = .ok (.getfield 106, 3) := by decide +kernel
theorem dX12_noteEnds_23 : decode cX12_noteEnds 23 = .ok (.iload_n 2, 1) := by decide +kernel
theorem dX12_noteEnds_24 : decode cX12_noteEnds 24 = .ok (.aload_n 0, 1) := by decide +kernel
theorem dX12_noteEnds_25 : decode cX12_noteEnds 25 = .ok (.getfield 55, 3) := by decide +kernel
theorem dX12_noteEnds_28 : decode cX12_noteEnds 28 = .ok (.iload_n 2, 1) := by decide +kernel
theorem dX12_noteEnds_29 : decode cX12_noteEnds 29 = .ok (.iaload, 1) := by decide +kernel
theorem dX12_noteEnds_30 : decode cX12_noteEnds 30 = .ok (.iastore, 1) := by decide +kernel
theorem dX12_noteEnds_31 : decode cX12_noteEnds 31 = .ok (.iinc 2 1, 3) := by decide +kernel
theorem dX12_noteEnds_34 : decode cX12_noteEnds 34 = .ok (.goto (-23), 3) := by decide +kernel
theorem dX12_noteEnds_37 : decode cX12_noteEnds 37 = .ok (.aload_n 0, 1) := by decide +kernel
theorem dX12_noteEnds_38 : decode cX12_noteEnds 38 = .ok (.invokevirtual 391, 3) := by decide +kernel
theorem dX12_noteEnds_41 : decode cX12_noteEnds 41 = .ok (.return_, 1) := by decide +kernel
set_option maxRecDepth 100000 in
theorem u_X12_noteEnds_11 {x : sm_Cx} {n : Nat} {F : sm_MI → sm_ML → Prop} {T : List sm_Sh} {I : sm_MI} {L : sm_ML} {a1 : Int32} {a2 : Int32} (hB : sm_Bs T) (hx : sm_Ok x mX12_noteEnds (n + 1) (sm_KV T F))
    (h : ((I 76 28) ≤ a2 → sm_CV n mX12_takeBack T I L [.ref 76] (fun I1 L1 => F I1 L1)) ∧ (¬ (I 76 28) ≤ a2 → vp_in a2 8 ∧ (vp_in a2 8 ∧ (sm_V x 0 0 T (sm_uI I 107 (Int32.toNatClampNeg (a2)) (I 92 (Int32.toNatClampNeg (a2)))) L 11 [some (.ref 76), some (.int a1), some (.int (a2 + 1))] [])))) :
    sm_V x 0 0 T I L 11 [some (.ref 76), some (.int a1), some (.int a2)] [] :=
  sm_iload_n (z := a2) hx dX12_noteEnds_11 rfl (sm_aload_n (z := 76) hx dX12_noteEnds_12 rfl (sm_getI hx dX12_noteEnds_13 fl_X12_281_12 (t_76 hB) rfl (sm_icmpge (a := a2) (b := (I 76 28)) hx dX12_noteEnds_16 (tgt := 37) (by decide) (fun q1 => sm_aload_n (z := 76) hx dX12_noteEnds_37 rfl (sm_callVV (args := []) (st := []) hx dX12_noteEnds_38 lv_X12_391_12 rfl rfl (t_76 hB) rfl rfl (h.1 q1) (fun I1 L1 hI1 => sm_vretV hx dX12_noteEnds_41 rfl hI1))) (fun q1 => sm_aload_n (z := 76) hx dX12_noteEnds_19 rfl (sm_getR hx dX12_noteEnds_20 fl_X12_106_12 (t_76 hB) rfl (sm_iload_n (z := a2) hx dX12_noteEnds_23 rfl (sm_aload_n (z := 76) hx dX12_noteEnds_24 rfl (sm_getR hx dX12_noteEnds_25 fl_X12_55_12 (t_76 hB) rfl (sm_iload_n (z := a2) hx dX12_noteEnds_28 rfl (sm_iald (i := a2) hx dX12_noteEnds_29 (t_92 hB) (h.2 q1).1 (sm_iast (i := a2) (v := (I 92 (Int32.toNatClampNeg (a2)))) hx dX12_noteEnds_30 (t_107 hB) (h.2 q1).2.1 (sm_iinc (ls' := [some (.ref 76), some (.int a1), some (.int (a2 + 1))]) (z := a2) (v := (a2 + 1)) hx dX12_noteEnds_31 rfl (sm_kii_1 _) (by decide) rfl (sm_goto hx dX12_noteEnds_34 (tgt := 11) (by decide) ((h.2 q1).2.2))))))))))))))
set_option maxRecDepth 100000 in
theorem c_X12_noteEnds {n : Nat} {F : sm_MI → sm_ML → Prop} {T : List sm_Sh} {I : sm_MI} {L : sm_ML} {a1 : Int32} (hB : sm_Bs T)
    (h : ∀ x : sm_Cx, sm_Ok x mX12_noteEnds (n + 1) (sm_KV T F) → sm_CV n mX12_putAside T I L [.ref 76] (fun I1 L1 => sm_CV n mX12_calmNights T I1 L1 [.ref 76, .int a1] (fun I2 L2 => sm_V x 0 0 T I2 L2 11 [some (.ref 76), some (.int a1), some (.int 0)] []))) :
    sm_CV (n + 1) mX12_noteEnds T I L [.ref 76, .int a1] F :=
  sm_CV.of (by decide +kernel) rfl (fun x hx => show sm_V x 0 0 T I L 0 [some (.ref 76), some (.int a1), none] [] from
  sm_aload_n (z := 76) hx dX12_noteEnds_0 rfl (sm_callVV (args := []) (st := []) hx dX12_noteEnds_1 lv_X12_385_12 rfl rfl (t_76 hB) rfl rfl (h x hx) (fun I1 L1 hI1 => sm_aload_n (z := 76) hx dX12_noteEnds_4 rfl (sm_iload_n (z := a1) hx dX12_noteEnds_5 rfl (sm_callVV (args := [.int a1]) (st := []) hx dX12_noteEnds_6 lv_X12_388_12 rfl rfl (t_76 hB) rfl rfl hI1 (fun I2 L2 hI2 => sm_iconst (v := 0) hx dX12_noteEnds_9 sm_kc_0 (sm_istore_n (ls' := [some (.ref 76), some (.int a1), some (.int 0)]) hx dX12_noteEnds_10 (by decide) rfl (hI2))))))))
theorem dX12_quietOf_0 : decode cX12_quietOf 0 = .ok (.aload_n 0, 1) := by decide +kernel
theorem dX12_quietOf_1 : decode cX12_quietOf 1 = .ok (.invokevirtual 385, 3) := by decide +kernel
theorem dX12_quietOf_4 : decode cX12_quietOf 4 = .ok (.aload_n 0, 1) := by decide +kernel
theorem dX12_quietOf_5 : decode cX12_quietOf 5 = .ok (.iload_n 1, 1) := by decide +kernel
theorem dX12_quietOf_6 : decode cX12_quietOf 6 = .ok (.putfield 64, 3) := by decide +kernel
theorem dX12_quietOf_9 : decode cX12_quietOf 9 = .ok (.aload_n 0, 1) := by decide +kernel
theorem dX12_quietOf_10 : decode cX12_quietOf 10 = .ok (.iload_n 2, 1) := by decide +kernel
theorem dX12_quietOf_11 : decode cX12_quietOf 11 = .ok (.invokevirtual 388, 3) := by decide +kernel
theorem dX12_quietOf_14 : decode cX12_quietOf 14 = .ok (.aload_n 0, 1) := by decide +kernel
theorem dX12_quietOf_15 : decode cX12_quietOf 15 = .ok (.iconst (-1), 1) := by decide +kernel
theorem dX12_quietOf_16 : decode cX12_quietOf 16 = .ok (.putfield 64, 3) := by decide +kernel
theorem dX12_quietOf_19 : decode cX12_quietOf 19 = .ok (.aload_n 0, 1) := by decide +kernel
theorem dX12_quietOf_20 : decode cX12_quietOf 20 = .ok (.invokevirtual 429, 3) := by decide +kernel
theorem dX12_quietOf_23 : decode cX12_quietOf 23 = .ok (.istore_n 3, 1) := by decide +kernel
theorem dX12_quietOf_24 : decode cX12_quietOf 24 = .ok (.aload_n 0, 1) := by decide +kernel
theorem dX12_quietOf_25 : decode cX12_quietOf 25 = .ok (.invokevirtual 391, 3) := by decide +kernel
theorem dX12_quietOf_28 : decode cX12_quietOf 28 = .ok (.iload_n 3, 1) := by decide +kernel
theorem dX12_quietOf_29 : decode cX12_quietOf 29 = .ok (.ireturn, 1) := by decide +kernel
set_option maxRecDepth 100000 in
theorem c_X12_quietOf {n : Nat} {F : Int32 → sm_MI → sm_ML → Prop} {T : List sm_Sh} {I : sm_MI} {L : sm_ML} {a1 : Int32} {a2 : Int32} (hB : sm_Bs T)
    (h : sm_CV n mX12_putAside T I L [.ref 76] (fun I1 L1 => sm_CV n mX12_calmNights T (sm_uI I1 76 39 a1) L1 [.ref 76, .int a2] (fun I2 L2 => sm_CI n mX12_elsewhere T (sm_uI I2 76 39 (-1)) L2 [.ref 76] (fun r4 I3 L3 => sm_CV n mX12_takeBack T I3 L3 [.ref 76] (fun I5 L5 => F r4 I5 L5))))) :
    sm_CI (n + 1) mX12_quietOf T I L [.ref 76, .int a1, .int a2] F :=
  sm_CI.of (by decide +kernel) rfl (fun x hx => show sm_V x 0 0 T I L 0 [some (.ref 76), some (.int a1), some (.int a2), none] [] from
  sm_aload_n (z := 76) hx dX12_quietOf_0 rfl (sm_callVV (args := []) (st := []) hx dX12_quietOf_1 lv_X12_385_12 rfl rfl (t_76 hB) rfl rfl h (fun I1 L1 hI1 => sm_aload_n (z := 76) hx dX12_quietOf_4 rfl (sm_iload_n (z := a1) hx dX12_quietOf_5 rfl (sm_putI hx dX12_quietOf_6 fl_X12_64_12 (t_76 hB) rfl (sm_aload_n (z := 76) hx dX12_quietOf_9 rfl (sm_iload_n (z := a2) hx dX12_quietOf_10 rfl (sm_callVV (args := [.int a2]) (st := []) hx dX12_quietOf_11 lv_X12_388_12 rfl rfl (t_76 hB) rfl rfl hI1 (fun I2 L2 hI2 => sm_aload_n (z := 76) hx dX12_quietOf_14 rfl (sm_iconst (v := (-1)) hx dX12_quietOf_15 sm_kc_m1 (sm_putI hx dX12_quietOf_16 fl_X12_64_12 (t_76 hB) rfl (sm_aload_n (z := 76) hx dX12_quietOf_19 rfl (sm_callVI (args := []) (st := []) hx dX12_quietOf_20 lv_X12_429_12 rfl rfl (t_76 hB) rfl rfl hI2 (fun r4 I3 L3 hI3 => sm_istore_n (ls' := [some (.ref 76), some (.int a1), some (.int a2), some (.int r4)]) hx dX12_quietOf_23 (by decide) rfl (sm_aload_n (z := 76) hx dX12_quietOf_24 rfl (sm_callVV (args := []) (st := []) hx dX12_quietOf_25 lv_X12_391_12 rfl rfl (t_76 hB) rfl rfl hI3 (fun I5 L5 hI5 => sm_iload_n (z := r4) hx dX12_quietOf_28 rfl (sm_iretI hx dX12_quietOf_29 rfl hI5))))))))))))))))))
theorem dX12_quiet_0 : decode cX12_quiet 0 = .ok (.aload_n 0, 1) := by decide +kernel
theorem dX12_quiet_1 : decode cX12_quiet 1 = .ok (.iload_n 1, 1) := by decide +kernel
theorem dX12_quiet_2 : decode cX12_quiet 2 = .ok (.invokevirtual 312, 3) := by decide +kernel
theorem dX12_quiet_5 : decode cX12_quiet 5 = .ok (.ifCond .eq 11, 3) := by decide +kernel
theorem dX12_quiet_8 : decode cX12_quiet 8 = .ok (.aload_n 0, 1) := by decide +kernel
theorem dX12_quiet_9 : decode cX12_quiet 9 = .ok (.iload_n 2, 1) := by decide +kernel
theorem dX12_quiet_10 : decode cX12_quiet 10 = .ok (.invokevirtual 366, 3) := by decide +kernel
theorem dX12_quiet_13 : decode cX12_quiet 13 = .ok (.ifCond .ne 5, 3) := by decide +kernel
theorem dX12_quiet_16 : decode cX12_quiet 16 = .ok (.iconst (-1), 1) := by decide +kernel
theorem dX12_quiet_17 : decode cX12_quiet 17 = .ok (.ireturn, 1) := by decide +kernel
theorem dX12_quiet_18 : decode cX12_quiet 18 = .ok (.aload_n 0, 1) := by decide +kernel
theorem dX12_quiet_19 : decode cX12_quiet 19 = .ok (.iload_n 2, 1) := by decide +kernel
theorem dX12_quiet_20 : decode cX12_quiet 20 = .ok (.invokevirtual 432, 3) := by decide +kernel
theorem dX12_quiet_23 : decode cX12_quiet 23 = .ok (.aload_n 0, 1) := by decide +kernel
theorem dX12_quiet_24 : decode cX12_quiet 24 = .ok (.iload_n 1, 1) := by decide +kernel
theorem dX12_quiet_25 : decode cX12_quiet 25 = .ok (.iload_n 2, 1) := by decide +kernel
theorem dX12_quiet_26 : decode cX12_quiet 26 = .ok (.invokevirtual 435, 3) := by decide +kernel
theorem dX12_quiet_29 : decode cX12_quiet 29 = .ok (.ireturn, 1) := by decide +kernel
set_option maxRecDepth 100000 in
theorem c_X12_quiet {n : Nat} {F : Int32 → sm_MI → sm_ML → Prop} {T : List sm_Sh} {I : sm_MI} {L : sm_ML} {a1 : Int32} {a2 : Int32} (hB : sm_Bs T)
    (h : sm_CZ n mX12_isSleeper T I L [.ref 76, .int a1] (fun r2 I1 L1 => (r2 = false → F (-1) I1 L1) ∧ (r2 = true → sm_CZ n mX12_areNights T I1 L1 [.ref 76, .int a2] (fun r4 I3 L3 => (r4 = true → sm_CV n mX12_noteEnds T I3 L3 [.ref 76, .int a2] (fun I5 L5 => sm_CI n mX12_quietOf T I5 L5 [.ref 76, .int a1, .int a2] (fun r7 I6 L6 => F r7 I6 L6))) ∧ (r4 = false → F (-1) I3 L3))))) :
    sm_CI (n + 1) mX12_quiet T I L [.ref 76, .int a1, .int a2] F :=
  sm_CI.of (by decide +kernel) rfl (fun x hx => show sm_V x 0 0 T I L 0 [some (.ref 76), some (.int a1), some (.int a2)] [] from
  sm_aload_n (z := 76) hx dX12_quiet_0 rfl (sm_iload_n (z := a1) hx dX12_quiet_1 rfl (sm_callVZ (args := [.int a1]) (st := []) hx dX12_quiet_2 lv_X12_312_12 rfl rfl (t_76 hB) rfl rfl h (fun r2 I1 L1 hI1 => sm_ifeqZ (b := r2) hx dX12_quiet_5 (tgt := 16) (by decide) (fun q2 => sm_iconst (v := (-1)) hx dX12_quiet_16 sm_kc_m1 (sm_iretI hx dX12_quiet_17 rfl (hI1.1 q2))) (fun q2 => sm_aload_n (z := 76) hx dX12_quiet_8 rfl (sm_iload_n (z := a2) hx dX12_quiet_9 rfl (sm_callVZ (args := [.int a2]) (st := []) hx dX12_quiet_10 lv_X12_366_12 rfl rfl (t_76 hB) rfl rfl (hI1.2 q2) (fun r4 I3 L3 hI3 => sm_ifneZ (b := r4) hx dX12_quiet_13 (tgt := 18) (by decide) (fun q1 => sm_aload_n (z := 76) hx dX12_quiet_18 rfl (sm_iload_n (z := a2) hx dX12_quiet_19 rfl (sm_callVV (args := [.int a2]) (st := []) hx dX12_quiet_20 lv_X12_432_12 rfl rfl (t_76 hB) rfl rfl (hI3.1 q1) (fun I5 L5 hI5 => sm_aload_n (z := 76) hx dX12_quiet_23 rfl (sm_iload_n (z := a1) hx dX12_quiet_24 rfl (sm_iload_n (z := a2) hx dX12_quiet_25 rfl (sm_callVI (args := [.int a1, .int a2]) (st := []) hx dX12_quiet_26 lv_X12_435_12 rfl rfl (t_76 hB) rfl rfl hI5 (fun r7 I6 L6 hI6 => sm_iretI hx dX12_quiet_29 rfl hI6)))))))) (fun q1 => sm_iconst (v := (-1)) hx dX12_quiet_16 sm_kc_m1 (sm_iretI hx dX12_quiet_17 rfl (hI3.2 q1)))))))))))
theorem dX12_culprit_0 : decode cX12_culprit 0 = .ok (.aload_n 0, 1) := by decide +kernel
theorem dX12_culprit_1 : decode cX12_culprit 1 = .ok (.iload_n 1, 1) := by decide +kernel
theorem dX12_culprit_2 : decode cX12_culprit 2 = .ok (.invokevirtual 366, 3) := by decide +kernel
theorem dX12_culprit_5 : decode cX12_culprit 5 = .ok (.ifCond .ne 5, 3) := by decide +kernel
theorem dX12_culprit_8 : decode cX12_culprit 8 = .ok (.iconst (-1), 1) := by decide +kernel
theorem dX12_culprit_9 : decode cX12_culprit 9 = .ok (.ireturn, 1) := by decide +kernel
theorem dX12_culprit_10 : decode cX12_culprit 10 = .ok (.aload_n 0, 1) := by decide +kernel
theorem dX12_culprit_11 : decode cX12_culprit 11 = .ok (.iload_n 1, 1) := by decide +kernel
theorem dX12_culprit_12 : decode cX12_culprit 12 = .ok (.invokevirtual 432, 3) := by decide +kernel
theorem dX12_culprit_15 : decode cX12_culprit 15 = .ok (.iconst 0, 1) := by decide +kernel
theorem dX12_culprit_16 : decode cX12_culprit 16 = .ok (.istore_n 2, 1) := by decide +kernel
theorem dX12_culprit_17 : decode cX12_culprit 17 = .ok (.iconst 1, 1) := by decide +kernel
theorem dX12_culprit_18 : decode cX12_culprit 18 = .ok (.istore_n 3, 1) := by decide +kernel
theorem dX12_culprit_19 : decode cX12_culprit 19 = .ok (.iload_n 3, 1) := by decide +kernel
theorem dX12_culprit_20 : decode cX12_culprit 20 = .ok (.aload_n 0, 1) := by decide +kernel
theorem dX12_culprit_21 : decode cX12_culprit 21 = .ok (.getfield 278, 3) := by decide +kernel
theorem dX12_culprit_24 : decode cX12_culprit 24 = .ok (.if_icmp .ge 30, 3) := by decide +kernel
theorem dX12_culprit_27 : decode cX12_culprit 27 = .ok (.aload_n 0, 1) := by decide +kernel
theorem dX12_culprit_28 : decode cX12_culprit 28 = .ok (.iload_n 3, 1) := by decide +kernel
theorem dX12_culprit_29 : decode cX12_culprit 29 = .ok (.iload_n 1, 1) := by decide +kernel
theorem dX12_culprit_30 : decode cX12_culprit 30 = .ok (.invokevirtual 435, 3) := by decide +kernel
theorem dX12_culprit_33 : decode cX12_culprit 33 = .ok (.aload_n 0, 1) := by decide +kernel
theorem dX12_culprit_34 : decode cX12_culprit 34 = .ok (.iload_n 2, 1) := by decide +kernel
theorem dX12_culprit_35 : decode cX12_culprit 35 = .ok (.iload_n 1, 1) := by decide +kernel
theorem dX12_culprit_36 : decode cX12_culprit 36 = .ok (.invokevirtual 435, 3) := by decide +kernel
theorem dX12_culprit_39 : decode cX12_culprit 39 = .ok (.if_icmp .le 7, 3) := by decide +kernel
theorem dX12_culprit_42 : decode cX12_culprit 42 = .ok (.iload_n 3, 1) := by decide +kernel
theorem dX12_culprit_43 : decode cX12_culprit 43 = .ok (.goto 4, 3) := by decide +kernel
theorem dX12_culprit_46 : decode cX12_culprit 46 = .ok (.iload_n 2, 1) := by decide +kernel
theorem dX12_culprit_47 : decode cX12_culprit 47 = .ok (.istore_n 2, 1) := by decide +kernel
theorem dX12_culprit_48 : decode cX12_culprit 48 = .ok (.iinc 3 1, 3) := by decide +kernel
theorem dX12_culprit_51 : decode cX12_culprit 51 = .ok (.goto (-32), 3) := by decide +kernel
theorem dX12_culprit_54 : decode cX12_culprit 54 = .ok (.iload_n 2, 1) := by decide +kernel
theorem dX12_culprit_55 : decode cX12_culprit 55 = .ok (.ireturn, 1) := by decide +kernel
set_option maxRecDepth 100000 in
theorem u_X12_culprit_19 {x : sm_Cx} {n : Nat} {F : Int32 → sm_MI → sm_ML → Prop} {T : List sm_Sh} {I : sm_MI} {L : sm_ML} {a1 : Int32} {a2 : Int32} {a3 : Int32} (hB : sm_Bs T) (hx : sm_Ok x mX12_culprit (n + 1) (sm_KI T F))
    (h : ((I 76 27) ≤ a3 → F a2 I L) ∧ (¬ (I 76 27) ≤ a3 → sm_CI n mX12_quietOf T I L [.ref 76, .int a3, .int a1] (fun r2 I1 L1 => sm_CI n mX12_quietOf T I1 L1 [.ref 76, .int a2, .int a1] (fun r4 I3 L3 => (r2 ≤ r4 → sm_V x 0 0 T I3 L3 19 [some (.ref 76), some (.int a1), some (.int a2), some (.int (a3 + 1))] []) ∧ (¬ r2 ≤ r4 → sm_V x 0 0 T I3 L3 19 [some (.ref 76), some (.int a1), some (.int a3), some (.int (a3 + 1))] []))))) :
    sm_V x 0 0 T I L 19 [some (.ref 76), some (.int a1), some (.int a2), some (.int a3)] [] :=
  sm_iload_n (z := a3) hx dX12_culprit_19 rfl (sm_aload_n (z := 76) hx dX12_culprit_20 rfl (sm_getI hx dX12_culprit_21 fl_X12_278_12 (t_76 hB) rfl (sm_icmpge (a := a3) (b := (I 76 27)) hx dX12_culprit_24 (tgt := 54) (by decide) (fun q2 => sm_iload_n (z := a2) hx dX12_culprit_54 rfl (sm_iretI hx dX12_culprit_55 rfl (h.1 q2))) (fun q2 => sm_aload_n (z := 76) hx dX12_culprit_27 rfl (sm_iload_n (z := a3) hx dX12_culprit_28 rfl (sm_iload_n (z := a1) hx dX12_culprit_29 rfl (sm_callVI (args := [.int a3, .int a1]) (st := []) hx dX12_culprit_30 lv_X12_435_12 rfl rfl (t_76 hB) rfl rfl (h.2 q2) (fun r2 I1 L1 hI1 => sm_aload_n (z := 76) hx dX12_culprit_33 rfl (sm_iload_n (z := a2) hx dX12_culprit_34 rfl (sm_iload_n (z := a1) hx dX12_culprit_35 rfl (sm_callVI (args := [.int a2, .int a1]) (st := [.int r2]) hx dX12_culprit_36 lv_X12_435_12 rfl rfl (t_76 hB) rfl rfl hI1 (fun r4 I3 L3 hI3 => sm_icmple (a := r2) (b := r4) hx dX12_culprit_39 (tgt := 46) (by decide) (fun q1 => sm_iload_n (z := a2) hx dX12_culprit_46 rfl (sm_istore_n (ls' := [some (.ref 76), some (.int a1), some (.int a2), some (.int a3)]) hx dX12_culprit_47 (by decide) rfl (sm_iinc (ls' := [some (.ref 76), some (.int a1), some (.int a2), some (.int (a3 + 1))]) (z := a3) (v := (a3 + 1)) hx dX12_culprit_48 rfl (sm_kii_1 _) (by decide) rfl (sm_goto hx dX12_culprit_51 (tgt := 19) (by decide) ((hI3.1 q1)))))) (fun q1 => sm_iload_n (z := a3) hx dX12_culprit_42 rfl (sm_goto hx dX12_culprit_43 (tgt := 47) (by decide) (sm_istore_n (ls' := [some (.ref 76), some (.int a1), some (.int a3), some (.int a3)]) hx dX12_culprit_47 (by decide) rfl (sm_iinc (ls' := [some (.ref 76), some (.int a1), some (.int a3), some (.int (a3 + 1))]) (z := a3) (v := (a3 + 1)) hx dX12_culprit_48 rfl (sm_kii_1 _) (by decide) rfl (sm_goto hx dX12_culprit_51 (tgt := 19) (by decide) ((hI3.2 q1)))))))))))))))))))
set_option maxRecDepth 100000 in
theorem c_X12_culprit {n : Nat} {F : Int32 → sm_MI → sm_ML → Prop} {T : List sm_Sh} {I : sm_MI} {L : sm_ML} {a1 : Int32} (hB : sm_Bs T)
    (h : ∀ x : sm_Cx, sm_Ok x mX12_culprit (n + 1) (sm_KI T F) → sm_CZ n mX12_areNights T I L [.ref 76, .int a1] (fun r2 I1 L1 => (r2 = true → sm_CV n mX12_noteEnds T I1 L1 [.ref 76, .int a1] (fun I3 L3 => sm_V x 0 0 T I3 L3 19 [some (.ref 76), some (.int a1), some (.int 0), some (.int 1)] [])) ∧ (r2 = false → F (-1) I1 L1))) :
    sm_CI (n + 1) mX12_culprit T I L [.ref 76, .int a1] F :=
  sm_CI.of (by decide +kernel) rfl (fun x hx => show sm_V x 0 0 T I L 0 [some (.ref 76), some (.int a1), none, none] [] from
  sm_aload_n (z := 76) hx dX12_culprit_0 rfl (sm_iload_n (z := a1) hx dX12_culprit_1 rfl (sm_callVZ (args := [.int a1]) (st := []) hx dX12_culprit_2 lv_X12_366_12 rfl rfl (t_76 hB) rfl rfl (h x hx) (fun r2 I1 L1 hI1 => sm_ifneZ (b := r2) hx dX12_culprit_5 (tgt := 10) (by decide) (fun q3 => sm_aload_n (z := 76) hx dX12_culprit_10 rfl (sm_iload_n (z := a1) hx dX12_culprit_11 rfl (sm_callVV (args := [.int a1]) (st := []) hx dX12_culprit_12 lv_X12_432_12 rfl rfl (t_76 hB) rfl rfl (hI1.1 q3) (fun I3 L3 hI3 => sm_iconst (v := 0) hx dX12_culprit_15 sm_kc_0 (sm_istore_n (ls' := [some (.ref 76), some (.int a1), some (.int 0), none]) hx dX12_culprit_16 (by decide) rfl (sm_iconst (v := 1) hx dX12_culprit_17 sm_kc_1 (sm_istore_n (ls' := [some (.ref 76), some (.int a1), some (.int 0), some (.int 1)]) hx dX12_culprit_18 (by decide) rfl (hI3)))))))) (fun q3 => sm_iconst (v := (-1)) hx dX12_culprit_8 sm_kc_m1 (sm_iretI hx dX12_culprit_9 rfl (hI1.2 q3)))))))
theorem dX12_guest_0 : decode cX12_guest 0 = .ok (.aload_n 0, 1) := by decide +kernel
theorem dX12_guest_1 : decode cX12_guest 1 = .ok (.iload_n 1, 1) := by decide +kernel
theorem dX12_guest_2 : decode cX12_guest 2 = .ok (.invokevirtual 321, 3) := by decide +kernel
theorem dX12_guest_5 : decode cX12_guest 5 = .ok (.ifCond .eq 31, 3) := by decide +kernel
theorem dX12_guest_8 : decode cX12_guest 8 = .ok (.iload_n 2, 1) := by decide +kernel
theorem dX12_guest_9 : decode cX12_guest 9 = .ok (.iconst 0, 1) := by decide +kernel
theorem dX12_guest_10 : decode cX12_guest 10 = .ok (.bipush 7, 2) := by decide +kernel
theorem dX12_guest_12 : decode cX12_guest 12 = .ok (.invokestatic 227, 3) := by decide +kernel
theorem dX12_guest_15 : decode cX12_guest 15 = .ok (.ifCond .eq 21, 3) := by decide +kernel
theorem dX12_guest_18 : decode cX12_guest 18 = .ok (.aload_n 0, 1) := by decide +kernel
theorem dX12_guest_19 : decode cX12_guest 19 = .ok (.iload_n 3, 1) := by decide +kernel
theorem dX12_guest_20 : decode cX12_guest 20 = .ok (.invokevirtual 366, 3) := by decide +kernel
theorem dX12_guest_23 : decode cX12_guest 23 = .ok (.ifCond .eq 13, 3) := by decide +kernel
theorem dX12_guest_26 : decode cX12_guest 26 = .ok (.iload 4, 2) := by decide +kernel
theorem dX12_guest_28 : decode cX12_guest 28 = .ok (.iconst 0, 1) := by decide +kernel
theorem dX12_guest_29 : decode cX12_guest 29 = .ok (.iconst 1, 1) := by decide +kernel
theorem dX12_guest_30 : decode cX12_guest 30 = .ok (.invokestatic 227, 3) := by decide +kernel
theorem dX12_guest_33 : decode cX12_guest 33 = .ok (.ifCond .ne 5, 3) := by decide +kernel
theorem dX12_guest_36 : decode cX12_guest 36 = .ok (.iconst (-1), 1) := by decide +kernel
theorem dX12_guest_37 : decode cX12_guest 37 = .ok (.ireturn, 1) := by decide +kernel
theorem dX12_guest_38 : decode cX12_guest 38 = .ok (.aload_n 0, 1) := by decide +kernel
theorem dX12_guest_39 : decode cX12_guest 39 = .ok (.iload_n 3, 1) := by decide +kernel
theorem dX12_guest_40 : decode cX12_guest 40 = .ok (.invokevirtual 432, 3) := by decide +kernel
theorem dX12_guest_43 : decode cX12_guest 43 = .ok (.aload_n 0, 1) := by decide +kernel
theorem dX12_guest_44 : decode cX12_guest 44 = .ok (.invokevirtual 385, 3) := by decide +kernel
theorem dX12_guest_47 : decode cX12_guest 47 = .ok (.iload_n 1, 1) := by decide +kernel
theorem dX12_guest_48 : decode cX12_guest 48 = .ok (.iload_n 2, 1) := by decide +kernel
theorem dX12_guest_49 : decode cX12_guest 49 = .ok (.iadd, 1) := by decide +kernel
theorem dX12_guest_50 : decode cX12_guest 50 = .ok (.aload_n 0, 1) := by decide +kernel
theorem dX12_guest_51 : decode cX12_guest 51 = .ok (.getfield 275, 3) := by decide +kernel
theorem dX12_guest_54 : decode cX12_guest 54 = .ok (.irem, 1) := by decide +kernel
theorem dX12_guest_55 : decode cX12_guest 55 = .ok (.istore 5, 2) := by decide +kernel
theorem dX12_guest_57 : decode cX12_guest 57 = .ok (.iconst 0, 1) := by decide +kernel
theorem dX12_guest_58 : decode cX12_guest 58 = .ok (.istore 6, 2) := by decide +kernel
theorem dX12_guest_60 : decode cX12_guest 60 = .ok (.iconst 0, 1) := by decide +kernel
theorem dX12_guest_61 : decode cX12_guest 61 = .ok (.istore 7, 2) := by decide +kernel
theorem dX12_guest_63 : decode cX12_guest 63 = .ok (.iload 7, 2) := by decide +kernel
theorem dX12_guest_65 : decode cX12_guest 65 = .ok (.iload_n 3, 1) := by decide +kernel
theorem dX12_guest_66 : decode cX12_guest 66 = .ok (.if_icmp .ge 69, 3) := by decide +kernel
theorem dX12_guest_69 : decode cX12_guest 69 = .ok (.aload_n 0, 1) := by decide +kernel
theorem dX12_guest_70 : decode cX12_guest 70 = .ok (.invokevirtual 382, 3) := by decide +kernel
theorem dX12_guest_73 : decode cX12_guest 73 = .ok (.aload_n 0, 1) := by decide +kernel
theorem dX12_guest_74 : decode cX12_guest 74 = .ok (.iload_n 1, 1) := by decide +kernel
theorem dX12_guest_75 : decode cX12_guest 75 = .ok (.invokevirtual 324, 3) := by decide +kernel
theorem dX12_guest_78 : decode cX12_guest 78 = .ok (.istore 8, 2) := by decide +kernel
theorem dX12_guest_80 : decode cX12_guest 80 = .ok (.iload 8, 2) := by decide +kernel
theorem dX12_guest_82 : decode cX12_guest 82 = .ok (.ifCond .eq 47, 3) := by decide +kernel
theorem dX12_guest_85 : decode cX12_guest 85 = .ok (.iload 5, 2) := by decide +kernel
theorem dX12_guest_87 : decode cX12_guest 87 = .ok (.iload_n 1, 1) := by decide +kernel
theorem dX12_guest_88 : decode cX12_guest 88 = .ok (.if_icmp .eq 41, 3) := by decide +kernel
theorem dX12_guest_91 : decode cX12_guest 91 = .ok (.aload_n 0, 1) := by decide +kernel
theorem dX12_guest_92 : decode cX12_guest 92 = .ok (.getfield 290, 3) := by decide +kernel
theorem dX12_guest_95 : decode cX12_guest 95 = .ok (.iload_n 1, 1) := by decide +kernel
theorem dX12_guest_96 : decode cX12_guest 96 = .ok (.invokestatic 240, 3) := by decide +kernel
theorem dX12_guest_99 : decode cX12_guest 99 = .ok (.ifCond .ne 30, 3) := by decide +kernel
theorem dX12_guest_102 : decode cX12_guest 102 = .ok (.aload_n 0, 1) := by decide +kernel
theorem dX12_guest_103 : decode cX12_guest 103 = .ok (.getfield 290, 3) := by decide +kernel
theorem dX12_guest_106 : decode cX12_guest 106 = .ok (.iload 5, 2) := by decide +kernel
theorem dX12_guest_108 : decode cX12_guest 108 = .ok (.invokestatic 240, 3) := by decide +kernel
theorem dX12_guest_111 : decode cX12_guest 111 = .ok (.ifCond .ne 18, 3) := by decide +kernel
theorem dX12_guest_114 : decode cX12_guest 114 = .ok (.aload_n 0, 1) := by decide +kernel
theorem dX12_guest_115 : decode cX12_guest 115 = .ok (.getfield 55, 3) := by decide +kernel
theorem dX12_guest_118 : decode cX12_guest 118 = .ok (.iload 8, 2) := by decide +kernel
theorem dX12_guest_120 : decode cX12_guest 120 = .ok (.invokestatic 348, 3) := by decide +kernel
theorem dX12_guest_123 : decode cX12_guest 123 = .ok (.iload 5, 2) := by decide +kernel
theorem dX12_guest_125 : decode cX12_guest 125 = .ok (.iastore, 1) := by decide +kernel
theorem dX12_guest_126 : decode cX12_guest 126 = .ok (.iinc 6 1, 3) := by decide +kernel
theorem dX12_guest_129 : decode cX12_guest 129 = .ok (.iinc 7 1, 3) := by decide +kernel
theorem dX12_guest_132 : decode cX12_guest 132 = .ok (.goto (-69), 3) := by decide +kernel
theorem dX12_guest_135 : decode cX12_guest 135 = .ok (.aload_n 0, 1) := by decide +kernel
theorem dX12_guest_136 : decode cX12_guest 136 = .ok (.invokevirtual 429, 3) := by decide +kernel
theorem dX12_guest_139 : decode cX12_guest 139 = .ok (.istore 7, 2) := by decide +kernel
theorem dX12_guest_141 : decode cX12_guest 141 = .ok (.aload_n 0, 1) := by decide +kernel
theorem dX12_guest_142 : decode cX12_guest 142 = .ok (.invokevirtual 391, 3) := by decide +kernel
theorem dX12_guest_145 : decode cX12_guest 145 = .ok (.iload 4, 2) := by decide +kernel
theorem dX12_guest_147 : decode cX12_guest 147 = .ok (.ifCond .ne 8, 3) := by decide +kernel
theorem dX12_guest_150 : decode cX12_guest 150 = .ok (.iload 7, 2) := by decide +kernel
theorem dX12_guest_152 : decode cX12_guest 152 = .ok (.goto 5, 3) := by decide +kernel
theorem dX12_guest_155 : decode cX12_guest 155 = .ok (.iload 6, 2) := by decide +kernel
theorem dX12_guest_157 : decode cX12_guest 157 = .ok (.ireturn, 1) := by decide +kernel
set_option maxRecDepth 100000 in
theorem u_X12_guest_63 {x : sm_Cx} {n : Nat} {F : Int32 → sm_MI → sm_ML → Prop} {T : List sm_Sh} {I : sm_MI} {L : sm_ML} {a1 : Int32} {a2 : Int32} {a3 : Int32} {a4 : Int32} {a5 : Int32} {a6 : Int32} {a7 : Int32} {u8 : Option Value} (hB : sm_Bs T) (hx : sm_Ok x mX12_guest (n + 1) (sm_KI T F))
    (h : (a3 ≤ a7 → sm_CI n mX12_elsewhere T I L [.ref 76] (fun r2 I1 L1 => sm_CV n mX12_takeBack T I1 L1 [.ref 76] (fun I3 L3 => (¬ a4 = 0 → F a6 I3 L3) ∧ (a4 = 0 → F r2 I3 L3)))) ∧ (¬ a3 ≤ a7 → sm_CV n mX12_calmNight T I L [.ref 76] (fun I4 L4 => sm_CI n mX12_thingsIn T I4 L4 [.ref 76, .int a1] (fun r6 I5 L5 => (r6 = 0 → sm_V x 0 0 T I5 L5 63 [some (.ref 76), some (.int a1), some (.int a2), some (.int a3), some (.int a4), some (.int a5), some (.int a6), some (.int (a7 + 1)), some (.int r6)] []) ∧ (¬ r6 = 0 → (a5 = a1 → sm_V x 0 0 T I5 L5 63 [some (.ref 76), some (.int a1), some (.int a2), some (.int a3), some (.int a4), some (.int a5), some (.int a6), some (.int (a7 + 1)), some (.int r6)] []) ∧ (¬ a5 = a1 → sm_CZ n mX12_has T I5 L5 [.int (I5 76 33), .int a1] (fun r8 I7 L7 => (r8 = true → sm_V x 0 0 T I7 L7 63 [some (.ref 76), some (.int a1), some (.int a2), some (.int a3), some (.int a4), some (.int a5), some (.int a6), some (.int (a7 + 1)), some (.int r6)] []) ∧ (r8 = false → sm_CZ n mX12_has T I7 L7 [.int (I7 76 33), .int a5] (fun r10 I9 L9 => (r10 = true → sm_V x 0 0 T I9 L9 63 [some (.ref 76), some (.int a1), some (.int a2), some (.int a3), some (.int a4), some (.int a5), some (.int a6), some (.int (a7 + 1)), some (.int r6)] []) ∧ (r10 = false → sm_CI n mJ6_numberOfTrailingZeros_0f7a4 T I9 L9 [.int r6] (fun r12 I11 L11 => vp_in r12 8 ∧ (sm_V x 0 0 T (sm_uI I11 92 (Int32.toNatClampNeg (r12)) a5) L11 63 [some (.ref 76), some (.int a1), some (.int a2), some (.int a3), some (.int a4), some (.int a5), some (.int (a6 + 1)), some (.int (a7 + 1)), some (.int r6)] [])))))))))))) :
    sm_V x 0 0 T I L 63 [some (.ref 76), some (.int a1), some (.int a2), some (.int a3), some (.int a4), some (.int a5), some (.int a6), some (.int a7), u8] [] :=
  sm_iload (z := a7) hx dX12_guest_63 rfl (sm_iload_n (z := a3) hx dX12_guest_65 rfl (sm_icmpge (a := a7) (b := a3) hx dX12_guest_66 (tgt := 135) (by decide) (fun q6 => sm_aload_n (z := 76) hx dX12_guest_135 rfl (sm_callVI (args := []) (st := []) hx dX12_guest_136 lv_X12_429_12 rfl rfl (t_76 hB) rfl rfl (h.1 q6) (fun r2 I1 L1 hI1 => sm_istore (ls' := [some (.ref 76), some (.int a1), some (.int a2), some (.int a3), some (.int a4), some (.int a5), some (.int a6), some (.int r2), u8]) hx dX12_guest_139 (by decide) rfl (sm_aload_n (z := 76) hx dX12_guest_141 rfl (sm_callVV (args := []) (st := []) hx dX12_guest_142 lv_X12_391_12 rfl rfl (t_76 hB) rfl rfl hI1 (fun I3 L3 hI3 => sm_iload (z := a4) hx dX12_guest_145 rfl (sm_ifne (a := a4) hx dX12_guest_147 (tgt := 155) (by decide) (fun q1 => sm_iload (z := a6) hx dX12_guest_155 rfl (sm_iretI hx dX12_guest_157 rfl (hI3.1 q1))) (fun q1 => sm_iload (z := r2) hx dX12_guest_150 rfl (sm_goto hx dX12_guest_152 (tgt := 157) (by decide) (sm_iretI hx dX12_guest_157 rfl (hI3.2 q1))))))))))) (fun q6 => sm_aload_n (z := 76) hx dX12_guest_69 rfl (sm_callVV (args := []) (st := []) hx dX12_guest_70 lv_X12_382_12 rfl rfl (t_76 hB) rfl rfl (h.2 q6) (fun I4 L4 hI4 => sm_aload_n (z := 76) hx dX12_guest_73 rfl (sm_iload_n (z := a1) hx dX12_guest_74 rfl (sm_callVI (args := [.int a1]) (st := []) hx dX12_guest_75 lv_X12_324_12 rfl rfl (t_76 hB) rfl rfl hI4 (fun r6 I5 L5 hI5 => sm_istore (ls' := [some (.ref 76), some (.int a1), some (.int a2), some (.int a3), some (.int a4), some (.int a5), some (.int a6), some (.int a7), some (.int r6)]) hx dX12_guest_78 (by decide) rfl (sm_iload (z := r6) hx dX12_guest_80 rfl (sm_ifeq (a := r6) hx dX12_guest_82 (tgt := 129) (by decide) (fun q5 => sm_iinc (ls' := [some (.ref 76), some (.int a1), some (.int a2), some (.int a3), some (.int a4), some (.int a5), some (.int a6), some (.int (a7 + 1)), some (.int r6)]) (z := a7) (v := (a7 + 1)) hx dX12_guest_129 rfl (sm_kii_1 _) (by decide) rfl (sm_goto hx dX12_guest_132 (tgt := 63) (by decide) ((hI5.1 q5)))) (fun q5 => sm_iload (z := a5) hx dX12_guest_85 rfl (sm_iload_n (z := a1) hx dX12_guest_87 rfl (sm_icmpeq (a := a5) (b := a1) hx dX12_guest_88 (tgt := 129) (by decide) (fun q4 => sm_iinc (ls' := [some (.ref 76), some (.int a1), some (.int a2), some (.int a3), some (.int a4), some (.int a5), some (.int a6), some (.int (a7 + 1)), some (.int r6)]) (z := a7) (v := (a7 + 1)) hx dX12_guest_129 rfl (sm_kii_1 _) (by decide) rfl (sm_goto hx dX12_guest_132 (tgt := 63) (by decide) (((hI5.2 q5).1 q4)))) (fun q4 => sm_aload_n (z := 76) hx dX12_guest_91 rfl (sm_getI hx dX12_guest_92 fl_X12_290_12 (t_76 hB) rfl (sm_iload_n (z := a1) hx dX12_guest_95 rfl (sm_callSZ (args := [.int (I5 76 33), .int a1]) (st := []) hx dX12_guest_96 ls_X12_240 rfl rfl rfl ((hI5.2 q5).2 q4) (fun r8 I7 L7 hI7 => sm_ifneZ (b := r8) hx dX12_guest_99 (tgt := 129) (by decide) (fun q3 => sm_iinc (ls' := [some (.ref 76), some (.int a1), some (.int a2), some (.int a3), some (.int a4), some (.int a5), some (.int a6), some (.int (a7 + 1)), some (.int r6)]) (z := a7) (v := (a7 + 1)) hx dX12_guest_129 rfl (sm_kii_1 _) (by decide) rfl (sm_goto hx dX12_guest_132 (tgt := 63) (by decide) ((hI7.1 q3)))) (fun q3 => sm_aload_n (z := 76) hx dX12_guest_102 rfl (sm_getI hx dX12_guest_103 fl_X12_290_12 (t_76 hB) rfl (sm_iload (z := a5) hx dX12_guest_106 rfl (sm_callSZ (args := [.int (I7 76 33), .int a5]) (st := []) hx dX12_guest_108 ls_X12_240 rfl rfl rfl (hI7.2 q3) (fun r10 I9 L9 hI9 => sm_ifneZ (b := r10) hx dX12_guest_111 (tgt := 129) (by decide) (fun q2 => sm_iinc (ls' := [some (.ref 76), some (.int a1), some (.int a2), some (.int a3), some (.int a4), some (.int a5), some (.int a6), some (.int (a7 + 1)), some (.int r6)]) (z := a7) (v := (a7 + 1)) hx dX12_guest_129 rfl (sm_kii_1 _) (by decide) rfl (sm_goto hx dX12_guest_132 (tgt := 63) (by decide) ((hI9.1 q2)))) (fun q2 => sm_aload_n (z := 76) hx dX12_guest_114 rfl (sm_getR hx dX12_guest_115 fl_X12_55_12 (t_76 hB) rfl (sm_iload (z := r6) hx dX12_guest_118 rfl (sm_callSI (args := [.int r6]) (st := [.ref 92]) hx dX12_guest_120 ls_X12_348 rfl rfl rfl (hI9.2 q2) (fun r12 I11 L11 hI11 => sm_iload (z := a5) hx dX12_guest_123 rfl (sm_iast (i := r12) (v := a5) hx dX12_guest_125 (t_92 hB) hI11.1 (sm_iinc (ls' := [some (.ref 76), some (.int a1), some (.int a2), some (.int a3), some (.int a4), some (.int a5), some (.int (a6 + 1)), some (.int a7), some (.int r6)]) (z := a6) (v := (a6 + 1)) hx dX12_guest_126 rfl (sm_kii_1 _) (by decide) rfl (sm_iinc (ls' := [some (.ref 76), some (.int a1), some (.int a2), some (.int a3), some (.int a4), some (.int a5), some (.int (a6 + 1)), some (.int (a7 + 1)), some (.int r6)]) (z := a7) (v := (a7 + 1)) hx dX12_guest_129 rfl (sm_kii_1 _) (by decide) rfl (sm_goto hx dX12_guest_132 (tgt := 63) (by decide) (hI11.2)))))))))))))))))))))))))))))))))
set_option maxRecDepth 100000 in
theorem c_X12_guest {n : Nat} {F : Int32 → sm_MI → sm_ML → Prop} {T : List sm_Sh} {I : sm_MI} {L : sm_ML} {a1 : Int32} {a2 : Int32} {a3 : Int32} {a4 : Int32} (hB : sm_Bs T)
    (h : ∀ x : sm_Cx, sm_Ok x mX12_guest (n + 1) (sm_KI T F) → sm_CZ n mX12_isHouse T I L [.ref 76, .int a1] (fun r2 I1 L1 => (r2 = false → F (-1) I1 L1) ∧ (r2 = true → sm_CZ n mX12_in T I1 L1 [.int a2, .int 0, .int 7] (fun r4 I3 L3 => (r4 = false → F (-1) I3 L3) ∧ (r4 = true → sm_CZ n mX12_areNights T I3 L3 [.ref 76, .int a3] (fun r6 I5 L5 => (r6 = false → F (-1) I5 L5) ∧ (r6 = true → sm_CZ n mX12_in T I5 L5 [.int a4, .int 0, .int 1] (fun r8 I7 L7 => (r8 = true → sm_CV n mX12_noteEnds T I7 L7 [.ref 76, .int a3] (fun I9 L9 => sm_CV n mX12_putAside T I9 L9 [.ref 76] (fun I10 L10 => ¬ (I10 76 26) = 0 ∧ (∀ v11 : Int32, v11 = ((a1 + a2) - (a1 + a2) / (I10 76 26) * (I10 76 26)) → sm_V x 0 0 T I10 L10 63 [some (.ref 76), some (.int a1), some (.int a2), some (.int a3), some (.int a4), some (.int v11), some (.int 0), some (.int 0), none] [])))) ∧ (r8 = false → F (-1) I7 L7))))))))) :
    sm_CI (n + 1) mX12_guest T I L [.ref 76, .int a1, .int a2, .int a3, .int a4] F :=
  sm_CI.of (by decide +kernel) rfl (fun x hx => show sm_V x 0 0 T I L 0 [some (.ref 76), some (.int a1), some (.int a2), some (.int a3), some (.int a4), none, none, none, none] [] from
  sm_aload_n (z := 76) hx dX12_guest_0 rfl (sm_iload_n (z := a1) hx dX12_guest_1 rfl (sm_callVZ (args := [.int a1]) (st := []) hx dX12_guest_2 lv_X12_321_12 rfl rfl (t_76 hB) rfl rfl (h x hx) (fun r2 I1 L1 hI1 => sm_ifeqZ (b := r2) hx dX12_guest_5 (tgt := 36) (by decide) (fun q10 => sm_iconst (v := (-1)) hx dX12_guest_36 sm_kc_m1 (sm_iretI hx dX12_guest_37 rfl (hI1.1 q10))) (fun q10 => sm_iload_n (z := a2) hx dX12_guest_8 rfl (sm_iconst (v := 0) hx dX12_guest_9 sm_kc_0 (sm_bipush (v := 7) hx dX12_guest_10 sm_kb_7 (sm_callSZ (args := [.int a2, .int 0, .int 7]) (st := []) hx dX12_guest_12 ls_X12_227 rfl rfl rfl (hI1.2 q10) (fun r4 I3 L3 hI3 => sm_ifeqZ (b := r4) hx dX12_guest_15 (tgt := 36) (by decide) (fun q9 => sm_iconst (v := (-1)) hx dX12_guest_36 sm_kc_m1 (sm_iretI hx dX12_guest_37 rfl (hI3.1 q9))) (fun q9 => sm_aload_n (z := 76) hx dX12_guest_18 rfl (sm_iload_n (z := a3) hx dX12_guest_19 rfl (sm_callVZ (args := [.int a3]) (st := []) hx dX12_guest_20 lv_X12_366_12 rfl rfl (t_76 hB) rfl rfl (hI3.2 q9) (fun r6 I5 L5 hI5 => sm_ifeqZ (b := r6) hx dX12_guest_23 (tgt := 36) (by decide) (fun q8 => sm_iconst (v := (-1)) hx dX12_guest_36 sm_kc_m1 (sm_iretI hx dX12_guest_37 rfl (hI5.1 q8))) (fun q8 => sm_iload (z := a4) hx dX12_guest_26 rfl (sm_iconst (v := 0) hx dX12_guest_28 sm_kc_0 (sm_iconst (v := 1) hx dX12_guest_29 sm_kc_1 (sm_callSZ (args := [.int a4, .int 0, .int 1]) (st := []) hx dX12_guest_30 ls_X12_227 rfl rfl rfl (hI5.2 q8) (fun r8 I7 L7 hI7 => sm_ifneZ (b := r8) hx dX12_guest_33 (tgt := 38) (by decide) (fun q7 => sm_aload_n (z := 76) hx dX12_guest_38 rfl (sm_iload_n (z := a3) hx dX12_guest_39 rfl (sm_callVV (args := [.int a3]) (st := []) hx dX12_guest_40 lv_X12_432_12 rfl rfl (t_76 hB) rfl rfl (hI7.1 q7) (fun I9 L9 hI9 => sm_aload_n (z := 76) hx dX12_guest_43 rfl (sm_callVV (args := []) (st := []) hx dX12_guest_44 lv_X12_385_12 rfl rfl (t_76 hB) rfl rfl hI9 (fun I10 L10 hI10 => sm_iload_n (z := a1) hx dX12_guest_47 rfl (sm_iload_n (z := a2) hx dX12_guest_48 rfl (sm_iadd (a := a1) (b := a2) hx dX12_guest_49 (sm_aload_n (z := 76) hx dX12_guest_50 rfl (sm_getI hx dX12_guest_51 fl_X12_275_12 (t_76 hB) rfl (sm_irem (a := (a1 + a2)) (b := (I10 76 26)) hx dX12_guest_54 hI10.1 (sm_istore (ls' := [some (.ref 76), some (.int a1), some (.int a2), some (.int a3), some (.int a4), some (.int ((a1 + a2) - (a1 + a2) / (I10 76 26) * (I10 76 26))), none, none, none]) hx dX12_guest_55 (by decide) rfl (sm_iconst (v := 0) hx dX12_guest_57 sm_kc_0 (sm_istore (ls' := [some (.ref 76), some (.int a1), some (.int a2), some (.int a3), some (.int a4), some (.int ((a1 + a2) - (a1 + a2) / (I10 76 26) * (I10 76 26))), some (.int 0), none, none]) hx dX12_guest_58 (by decide) rfl (sm_iconst (v := 0) hx dX12_guest_60 sm_kc_0 (sm_istore (ls' := [some (.ref 76), some (.int a1), some (.int a2), some (.int a3), some (.int a4), some (.int ((a1 + a2) - (a1 + a2) / (I10 76 26) * (I10 76 26))), some (.int 0), some (.int 0), none]) hx dX12_guest_61 (by decide) rfl ((hI10.2 _ rfl)))))))))))))))))) (fun q7 => sm_iconst (v := (-1)) hx dX12_guest_36 sm_kc_m1 (sm_iretI hx dX12_guest_37 rfl (hI7.2 q7)))))))))))))))))))))
theorem dX12_path_0 : decode cX12_path 0 = .ok (.aload_n 0, 1) := by decide +kernel
theorem dX12_path_1 : decode cX12_path 1 = .ok (.iload_n 1, 1) := by decide +kernel
theorem dX12_path_2 : decode cX12_path 2 = .ok (.invokevirtual 318, 3) := by decide +kernel
theorem dX12_path_5 : decode cX12_path 5 = .ok (.ifCond .eq 11, 3) := by decide +kernel
theorem dX12_path_8 : decode cX12_path 8 = .ok (.aload_n 0, 1) := by decide +kernel
theorem dX12_path_9 : decode cX12_path 9 = .ok (.iload_n 2, 1) := by decide +kernel
theorem dX12_path_10 : decode cX12_path 10 = .ok (.invokevirtual 366, 3) := by decide +kernel
theorem dX12_path_13 : decode cX12_path 13 = .ok (.ifCond .ne 7, 3) := by decide +kernel
theorem dX12_path_16 : decode cX12_path 16 = .ok (.ldc_w 394, 3) := by decide +kernel
theorem dX12_path_19 : decode cX12_path 19 = .ok (.ireturn, 1) := by decide +kernel
theorem dX12_path_20 : decode cX12_path 20 = .ok (.aload_n 0, 1) := by decide +kernel
theorem dX12_path_21 : decode cX12_path 21 = .ok (.invokevirtual 385, 3) := by decide +kernel
theorem dX12_path_24 : decode cX12_path 24 = .ok (.iconst 0, 1) := by decide +kernel
theorem dX12_path_25 : decode cX12_path 25 = .ok (.istore 4, 2) := by decide +kernel
theorem dX12_path_27 : decode cX12_path 27 = .ok (.iconst (-1), 1) := by decide +kernel
theorem dX12_path_28 : decode cX12_path 28 = .ok (.istore 5, 2) := by decide +kernel
theorem dX12_path_30 : decode cX12_path 30 = .ok (.iconst 0, 1) := by decide +kernel
theorem dX12_path_31 : decode cX12_path 31 = .ok (.istore 6, 2) := by decide +kernel
theorem dX12_path_33 : decode cX12_path 33 = .ok (.iload 6, 2) := by decide +kernel
theorem dX12_path_35 : decode cX12_path 35 = .ok (.iload_n 2, 1) := by decide +kernel
theorem dX12_path_36 : decode cX12_path 36 = .ok (.if_icmp .ge 54, 3) := by decide +kernel
theorem dX12_path_39 : decode cX12_path 39 = .ok (.aload_n 0, 1) := by decide +kernel
theorem dX12_path_40 : decode cX12_path 40 = .ok (.getfield 55, 3) := by decide +kernel
theorem dX12_path_43 : decode cX12_path 43 = .ok (.iload_n 1, 1) := by decide +kernel
theorem dX12_path_44 : decode cX12_path 44 = .ok (.iaload, 1) := by decide +kernel
theorem dX12_path_45 : decode cX12_path 45 = .ok (.istore 7, 2) := by decide +kernel
theorem dX12_path_47 : decode cX12_path 47 = .ok (.aload_n 0, 1) := by decide +kernel
theorem dX12_path_48 : decode cX12_path 48 = .ok (.invokevirtual 382, 3) := by decide +kernel
theorem dX12_path_51 : decode cX12_path 51 = .ok (.aload_n 0, 1) := by decide +kernel
theorem dX12_path_52 : decode cX12_path 52 = .ok (.getfield 55, 3) := by decide +kernel
theorem dX12_path_55 : decode cX12_path 55 = .ok (.iload_n 1, 1) := by decide +kernel
theorem dX12_path_56 : decode cX12_path 56 = .ok (.iaload, 1) := by decide +kernel
theorem dX12_path_57 : decode cX12_path 57 = .ok (.iload 7, 2) := by decide +kernel
theorem dX12_path_59 : decode cX12_path 59 = .ok (.if_icmp .eq 25, 3) := by decide +kernel
theorem dX12_path_62 : decode cX12_path 62 = .ok (.iload 4, 2) := by decide +kernel
theorem dX12_path_64 : decode cX12_path 64 = .ok (.iload_n 3, 1) := by decide +kernel
theorem dX12_path_65 : decode cX12_path 65 = .ok (.if_icmp .ne 12, 3) := by decide +kernel
theorem dX12_path_68 : decode cX12_path 68 = .ok (.aload_n 0, 1) := by decide +kernel
theorem dX12_path_69 : decode cX12_path 69 = .ok (.getfield 55, 3) := by decide +kernel
theorem dX12_path_72 : decode cX12_path 72 = .ok (.iload_n 1, 1) := by decide +kernel
theorem dX12_path_73 : decode cX12_path 73 = .ok (.iaload, 1) := by decide +kernel
theorem dX12_path_74 : decode cX12_path 74 = .ok (.goto 5, 3) := by decide +kernel
theorem dX12_path_77 : decode cX12_path 77 = .ok (.iload 5, 2) := by decide +kernel
theorem dX12_path_79 : decode cX12_path 79 = .ok (.istore 5, 2) := by decide +kernel
theorem dX12_path_81 : decode cX12_path 81 = .ok (.iinc 4 1, 3) := by decide +kernel
theorem dX12_path_84 : decode cX12_path 84 = .ok (.iinc 6 1, 3) := by decide +kernel
theorem dX12_path_87 : decode cX12_path 87 = .ok (.goto (-54), 3) := by decide +kernel
theorem dX12_path_90 : decode cX12_path 90 = .ok (.aload_n 0, 1) := by decide +kernel
theorem dX12_path_91 : decode cX12_path 91 = .ok (.invokevirtual 391, 3) := by decide +kernel
theorem dX12_path_94 : decode cX12_path 94 = .ok (.iload_n 3, 1) := by decide +kernel
theorem dX12_path_95 : decode cX12_path 95 = .ok (.iconst (-1), 1) := by decide +kernel
theorem dX12_path_96 : decode cX12_path 96 = .ok (.if_icmp .ne 8, 3) := by decide +kernel
theorem dX12_path_99 : decode cX12_path 99 = .ok (.iload 4, 2) := by decide +kernel
theorem dX12_path_101 : decode cX12_path 101 = .ok (.goto 5, 3) := by decide +kernel
theorem dX12_path_104 : decode cX12_path 104 = .ok (.iload 5, 2) := by decide +kernel
theorem dX12_path_106 : decode cX12_path 106 = .ok (.ireturn, 1) := by decide +kernel
set_option maxRecDepth 100000 in
theorem u_X12_path_33 {x : sm_Cx} {n : Nat} {F : Int32 → sm_MI → sm_ML → Prop} {T : List sm_Sh} {I : sm_MI} {L : sm_ML} {a1 : Int32} {a2 : Int32} {a3 : Int32} {a4 : Int32} {a5 : Int32} {a6 : Int32} {u7 : Option Value} (hB : sm_Bs T) (hx : sm_Ok x mX12_path (n + 1) (sm_KI T F))
    (h : (a2 ≤ a6 → sm_CV n mX12_takeBack T I L [.ref 76] (fun I1 L1 => (¬ a3 = (-1) → F a5 I1 L1) ∧ (a3 = (-1) → F a4 I1 L1))) ∧ (¬ a2 ≤ a6 → vp_in a1 8 ∧ (sm_CV n mX12_calmNight T I L [.ref 76] (fun I2 L2 => vp_in a1 8 ∧ (((I2 92 (Int32.toNatClampNeg (a1))) = (I 92 (Int32.toNatClampNeg (a1))) → sm_V x 0 0 T I2 L2 33 [some (.ref 76), some (.int a1), some (.int a2), some (.int a3), some (.int a4), some (.int a5), some (.int (a6 + 1)), some (.int (I 92 (Int32.toNatClampNeg (a1))))] []) ∧ (¬ (I2 92 (Int32.toNatClampNeg (a1))) = (I 92 (Int32.toNatClampNeg (a1))) → (¬ a4 = a3 → sm_V x 0 0 T I2 L2 33 [some (.ref 76), some (.int a1), some (.int a2), some (.int a3), some (.int (a4 + 1)), some (.int a5), some (.int (a6 + 1)), some (.int (I 92 (Int32.toNatClampNeg (a1))))] []) ∧ (a4 = a3 → vp_in a1 8 ∧ (sm_V x 0 0 T I2 L2 33 [some (.ref 76), some (.int a1), some (.int a2), some (.int a3), some (.int (a4 + 1)), some (.int (I2 92 (Int32.toNatClampNeg (a1)))), some (.int (a6 + 1)), some (.int (I 92 (Int32.toNatClampNeg (a1))))] [])))))))) :
    sm_V x 0 0 T I L 33 [some (.ref 76), some (.int a1), some (.int a2), some (.int a3), some (.int a4), some (.int a5), some (.int a6), u7] [] :=
  sm_iload (z := a6) hx dX12_path_33 rfl (sm_iload_n (z := a2) hx dX12_path_35 rfl (sm_icmpge (a := a6) (b := a2) hx dX12_path_36 (tgt := 90) (by decide) (fun q4 => sm_aload_n (z := 76) hx dX12_path_90 rfl (sm_callVV (args := []) (st := []) hx dX12_path_91 lv_X12_391_12 rfl rfl (t_76 hB) rfl rfl (h.1 q4) (fun I1 L1 hI1 => sm_iload_n (z := a3) hx dX12_path_94 rfl (sm_iconst (v := (-1)) hx dX12_path_95 sm_kc_m1 (sm_icmpne (a := a3) (b := (-1)) hx dX12_path_96 (tgt := 104) (by decide) (fun q1 => sm_iload (z := a5) hx dX12_path_104 rfl (sm_iretI hx dX12_path_106 rfl (hI1.1 q1))) (fun q1 => sm_iload (z := a4) hx dX12_path_99 rfl (sm_goto hx dX12_path_101 (tgt := 106) (by decide) (sm_iretI hx dX12_path_106 rfl (hI1.2 q1))))))))) (fun q4 => sm_aload_n (z := 76) hx dX12_path_39 rfl (sm_getR hx dX12_path_40 fl_X12_55_12 (t_76 hB) rfl (sm_iload_n (z := a1) hx dX12_path_43 rfl (sm_iald (i := a1) hx dX12_path_44 (t_92 hB) (h.2 q4).1 (sm_istore (ls' := [some (.ref 76), some (.int a1), some (.int a2), some (.int a3), some (.int a4), some (.int a5), some (.int a6), some (.int (I 92 (Int32.toNatClampNeg (a1))))]) hx dX12_path_45 (by decide) rfl (sm_aload_n (z := 76) hx dX12_path_47 rfl (sm_callVV (args := []) (st := []) hx dX12_path_48 lv_X12_382_12 rfl rfl (t_76 hB) rfl rfl (h.2 q4).2 (fun I2 L2 hI2 => sm_aload_n (z := 76) hx dX12_path_51 rfl (sm_getR hx dX12_path_52 fl_X12_55_12 (t_76 hB) rfl (sm_iload_n (z := a1) hx dX12_path_55 rfl (sm_iald (i := a1) hx dX12_path_56 (t_92 hB) hI2.1 (sm_iload (z := (I 92 (Int32.toNatClampNeg (a1)))) hx dX12_path_57 rfl (sm_icmpeq (a := (I2 92 (Int32.toNatClampNeg (a1)))) (b := (I 92 (Int32.toNatClampNeg (a1)))) hx dX12_path_59 (tgt := 84) (by decide) (fun q3 => sm_iinc (ls' := [some (.ref 76), some (.int a1), some (.int a2), some (.int a3), some (.int a4), some (.int a5), some (.int (a6 + 1)), some (.int (I 92 (Int32.toNatClampNeg (a1))))]) (z := a6) (v := (a6 + 1)) hx dX12_path_84 rfl (sm_kii_1 _) (by decide) rfl (sm_goto hx dX12_path_87 (tgt := 33) (by decide) ((hI2.2.1 q3)))) (fun q3 => sm_iload (z := a4) hx dX12_path_62 rfl (sm_iload_n (z := a3) hx dX12_path_64 rfl (sm_icmpne (a := a4) (b := a3) hx dX12_path_65 (tgt := 77) (by decide) (fun q2 => sm_iload (z := a5) hx dX12_path_77 rfl (sm_istore (ls' := [some (.ref 76), some (.int a1), some (.int a2), some (.int a3), some (.int a4), some (.int a5), some (.int a6), some (.int (I 92 (Int32.toNatClampNeg (a1))))]) hx dX12_path_79 (by decide) rfl (sm_iinc (ls' := [some (.ref 76), some (.int a1), some (.int a2), some (.int a3), some (.int (a4 + 1)), some (.int a5), some (.int a6), some (.int (I 92 (Int32.toNatClampNeg (a1))))]) (z := a4) (v := (a4 + 1)) hx dX12_path_81 rfl (sm_kii_1 _) (by decide) rfl (sm_iinc (ls' := [some (.ref 76), some (.int a1), some (.int a2), some (.int a3), some (.int (a4 + 1)), some (.int a5), some (.int (a6 + 1)), some (.int (I 92 (Int32.toNatClampNeg (a1))))]) (z := a6) (v := (a6 + 1)) hx dX12_path_84 rfl (sm_kii_1 _) (by decide) rfl (sm_goto hx dX12_path_87 (tgt := 33) (by decide) (((hI2.2.2 q3).1 q2))))))) (fun q2 => sm_aload_n (z := 76) hx dX12_path_68 rfl (sm_getR hx dX12_path_69 fl_X12_55_12 (t_76 hB) rfl (sm_iload_n (z := a1) hx dX12_path_72 rfl (sm_iald (i := a1) hx dX12_path_73 (t_92 hB) ((hI2.2.2 q3).2 q2).1 (sm_goto hx dX12_path_74 (tgt := 79) (by decide) (sm_istore (ls' := [some (.ref 76), some (.int a1), some (.int a2), some (.int a3), some (.int a4), some (.int (I2 92 (Int32.toNatClampNeg (a1)))), some (.int a6), some (.int (I 92 (Int32.toNatClampNeg (a1))))]) hx dX12_path_79 (by decide) rfl (sm_iinc (ls' := [some (.ref 76), some (.int a1), some (.int a2), some (.int a3), some (.int (a4 + 1)), some (.int (I2 92 (Int32.toNatClampNeg (a1)))), some (.int a6), some (.int (I 92 (Int32.toNatClampNeg (a1))))]) (z := a4) (v := (a4 + 1)) hx dX12_path_81 rfl (sm_kii_1 _) (by decide) rfl (sm_iinc (ls' := [some (.ref 76), some (.int a1), some (.int a2), some (.int a3), some (.int (a4 + 1)), some (.int (I2 92 (Int32.toNatClampNeg (a1)))), some (.int (a6 + 1)), some (.int (I 92 (Int32.toNatClampNeg (a1))))]) (z := a6) (v := (a6 + 1)) hx dX12_path_84 rfl (sm_kii_1 _) (by decide) rfl (sm_goto hx dX12_path_87 (tgt := 33) (by decide) (((hI2.2.2 q3).2 q2).2))))))))))))))))))))))))))))
set_option maxRecDepth 100000 in
theorem c_X12_path {n : Nat} {F : Int32 → sm_MI → sm_ML → Prop} {T : List sm_Sh} {I : sm_MI} {L : sm_ML} {a1 : Int32} {a2 : Int32} {a3 : Int32} (hB : sm_Bs T)
    (h : ∀ x : sm_Cx, sm_Ok x mX12_path (n + 1) (sm_KI T F) → sm_CZ n mX12_isThing T I L [.ref 76, .int a1] (fun r2 I1 L1 => (r2 = false → F (-1000000) I1 L1) ∧ (r2 = true → sm_CZ n mX12_areNights T I1 L1 [.ref 76, .int a2] (fun r4 I3 L3 => (r4 = true → sm_CV n mX12_putAside T I3 L3 [.ref 76] (fun I5 L5 => sm_V x 0 0 T I5 L5 33 [some (.ref 76), some (.int a1), some (.int a2), some (.int a3), some (.int 0), some (.int (-1)), some (.int 0), none] [])) ∧ (r4 = false → F (-1000000) I3 L3))))) :
    sm_CI (n + 1) mX12_path T I L [.ref 76, .int a1, .int a2, .int a3] F :=
  sm_CI.of (by decide +kernel) rfl (fun x hx => show sm_V x 0 0 T I L 0 [some (.ref 76), some (.int a1), some (.int a2), some (.int a3), none, none, none, none] [] from
  sm_aload_n (z := 76) hx dX12_path_0 rfl (sm_iload_n (z := a1) hx dX12_path_1 rfl (sm_callVZ (args := [.int a1]) (st := []) hx dX12_path_2 lv_X12_318_12 rfl rfl (t_76 hB) rfl rfl (h x hx) (fun r2 I1 L1 hI1 => sm_ifeqZ (b := r2) hx dX12_path_5 (tgt := 16) (by decide) (fun q6 => sm_ldcw (v := (-1000000)) hx dX12_path_16 k_X12_394 (sm_iretI hx dX12_path_19 rfl (hI1.1 q6))) (fun q6 => sm_aload_n (z := 76) hx dX12_path_8 rfl (sm_iload_n (z := a2) hx dX12_path_9 rfl (sm_callVZ (args := [.int a2]) (st := []) hx dX12_path_10 lv_X12_366_12 rfl rfl (t_76 hB) rfl rfl (hI1.2 q6) (fun r4 I3 L3 hI3 => sm_ifneZ (b := r4) hx dX12_path_13 (tgt := 20) (by decide) (fun q5 => sm_aload_n (z := 76) hx dX12_path_20 rfl (sm_callVV (args := []) (st := []) hx dX12_path_21 lv_X12_385_12 rfl rfl (t_76 hB) rfl rfl (hI3.1 q5) (fun I5 L5 hI5 => sm_iconst (v := 0) hx dX12_path_24 sm_kc_0 (sm_istore (ls' := [some (.ref 76), some (.int a1), some (.int a2), some (.int a3), some (.int 0), none, none, none]) hx dX12_path_25 (by decide) rfl (sm_iconst (v := (-1)) hx dX12_path_27 sm_kc_m1 (sm_istore (ls' := [some (.ref 76), some (.int a1), some (.int a2), some (.int a3), some (.int 0), some (.int (-1)), none, none]) hx dX12_path_28 (by decide) rfl (sm_iconst (v := 0) hx dX12_path_30 sm_kc_0 (sm_istore (ls' := [some (.ref 76), some (.int a1), some (.int a2), some (.int a3), some (.int 0), some (.int (-1)), some (.int 0), none]) hx dX12_path_31 (by decide) rfl (hI5))))))))) (fun q5 => sm_ldcw (v := (-1000000)) hx dX12_path_16 k_X12_394 (sm_iretI hx dX12_path_19 rfl (hI3.2 q5)))))))))))
theorem dX12_span_0 : decode cX12_span 0 = .ok (.aload_n 0, 1) := by decide +kernel
theorem dX12_span_1 : decode cX12_span 1 = .ok (.iload_n 1, 1) := by decide +kernel
theorem dX12_span_2 : decode cX12_span 2 = .ok (.invokevirtual 318, 3) := by decide +kernel
theorem dX12_span_5 : decode cX12_span 5 = .ok (.ifCond .eq 11, 3) := by decide +kernel
theorem dX12_span_8 : decode cX12_span 8 = .ok (.aload_n 0, 1) := by decide +kernel
theorem dX12_span_9 : decode cX12_span 9 = .ok (.iload_n 2, 1) := by decide +kernel
theorem dX12_span_10 : decode cX12_span 10 = .ok (.invokevirtual 366, 3) := by decide +kernel
theorem dX12_span_13 : decode cX12_span 13 = .ok (.ifCond .ne 5, 3) := by decide +kernel
theorem dX12_span_16 : decode cX12_span 16 = .ok (.iconst (-1), 1) := by decide +kernel
theorem dX12_span_17 : decode cX12_span 17 = .ok (.ireturn, 1) := by decide +kernel
theorem dX12_span_18 : decode cX12_span 18 = .ok (.aload_n 0, 1) := by decide +kernel
theorem dX12_span_19 : decode cX12_span 19 = .ok (.invokevirtual 385, 3) := by decide +kernel
theorem dX12_span_22 : decode cX12_span 22 = .ok (.iconst 0, 1) := by decide +kernel
theorem dX12_span_23 : decode cX12_span 23 = .ok (.istore_n 3, 1) := by decide +kernel
theorem dX12_span_24 : decode cX12_span 24 = .ok (.iconst 0, 1) := by decide +kernel
theorem dX12_span_25 : decode cX12_span 25 = .ok (.istore 4, 2) := by decide +kernel
theorem dX12_span_27 : decode cX12_span 27 = .ok (.iconst 0, 1) := by decide +kernel
theorem dX12_span_28 : decode cX12_span 28 = .ok (.istore 5, 2) := by decide +kernel
theorem dX12_span_30 : decode cX12_span 30 = .ok (.iload 5, 2) := by decide +kernel
theorem dX12_span_32 : decode cX12_span 32 = .ok (.iload_n 2, 1) := by decide +kernel
theorem dX12_span_33 : decode cX12_span 33 = .ok (.if_icmp .ge 49, 3) := by decide +kernel
theorem dX12_span_36 : decode cX12_span 36 = .ok (.aload_n 0, 1) := by decide +kernel
theorem dX12_span_37 : decode cX12_span 37 = .ok (.getfield 55, 3) := by decide +kernel
theorem dX12_span_40 : decode cX12_span 40 = .ok (.iload_n 1, 1) := by decide +kernel
theorem dX12_span_41 : decode cX12_span 41 = .ok (.iaload, 1) := by decide +kernel
theorem dX12_span_42 : decode cX12_span 42 = .ok (.istore 6, 2) := by decide +kernel
theorem dX12_span_44 : decode cX12_span 44 = .ok (.aload_n 0, 1) := by decide +kernel
theorem dX12_span_45 : decode cX12_span 45 = .ok (.invokevirtual 382, 3) := by decide +kernel
theorem dX12_span_48 : decode cX12_span 48 = .ok (.aload_n 0, 1) := by decide +kernel
theorem dX12_span_49 : decode cX12_span 49 = .ok (.getfield 55, 3) := by decide +kernel
theorem dX12_span_52 : decode cX12_span 52 = .ok (.iload_n 1, 1) := by decide +kernel
theorem dX12_span_53 : decode cX12_span 53 = .ok (.iaload, 1) := by decide +kernel
theorem dX12_span_54 : decode cX12_span 54 = .ok (.iload 6, 2) := by decide +kernel
theorem dX12_span_56 : decode cX12_span 56 = .ok (.if_icmp .ne 10, 3) := by decide +kernel
theorem dX12_span_59 : decode cX12_span 59 = .ok (.iload 4, 2) := by decide +kernel
theorem dX12_span_61 : decode cX12_span 61 = .ok (.iconst 1, 1) := by decide +kernel
theorem dX12_span_62 : decode cX12_span 62 = .ok (.iadd, 1) := by decide +kernel
theorem dX12_span_63 : decode cX12_span 63 = .ok (.goto 4, 3) := by decide +kernel
theorem dX12_span_66 : decode cX12_span 66 = .ok (.iconst 0, 1) := by decide +kernel
theorem dX12_span_67 : decode cX12_span 67 = .ok (.istore 4, 2) := by decide +kernel
theorem dX12_span_69 : decode cX12_span 69 = .ok (.iload_n 3, 1) := by decide +kernel
theorem dX12_span_70 : decode cX12_span 70 = .ok (.iload 4, 2) := by decide +kernel
theorem dX12_span_72 : decode cX12_span 72 = .ok (.invokestatic 438, 3) := by decide +kernel
theorem dX12_span_75 : decode cX12_span 75 = .ok (.istore_n 3, 1) := by decide +kernel
theorem dX12_span_76 : decode cX12_span 76 = .ok (.iinc 5 1, 3) := by decide +kernel
theorem dX12_span_79 : decode cX12_span 79 = .ok (.goto (-49), 3) := by decide +kernel
theorem dX12_span_82 : decode cX12_span 82 = .ok (.aload_n 0, 1) := by decide +kernel
theorem dX12_span_83 : decode cX12_span 83 = .ok (.invokevirtual 391, 3) := by decide +kernel
theorem dX12_span_86 : decode cX12_span 86 = .ok (.iload_n 3, 1) := by decide +kernel
theorem dX12_span_87 : decode cX12_span 87 = .ok (.ireturn, 1) := by decide +kernel
set_option maxRecDepth 100000 in
theorem u_X12_span_30 {x : sm_Cx} {n : Nat} {F : Int32 → sm_MI → sm_ML → Prop} {T : List sm_Sh} {I : sm_MI} {L : sm_ML} {a1 : Int32} {a2 : Int32} {a3 : Int32} {a4 : Int32} {a5 : Int32} {u6 : Option Value} (hB : sm_Bs T) (hx : sm_Ok x mX12_span (n + 1) (sm_KI T F))
    (h : (a2 ≤ a5 → sm_CV n mX12_takeBack T I L [.ref 76] (fun I1 L1 => F a3 I1 L1)) ∧ (¬ a2 ≤ a5 → vp_in a1 8 ∧ (sm_CV n mX12_calmNight T I L [.ref 76] (fun I2 L2 => vp_in a1 8 ∧ ((¬ (I2 92 (Int32.toNatClampNeg (a1))) = (I 92 (Int32.toNatClampNeg (a1))) → sm_V x 0 0 T I2 L2 30 [some (.ref 76), some (.int a1), some (.int a2), some (.int (if a3 < 0 then 0 else a3)), some (.int 0), some (.int (a5 + 1)), some (.int (I 92 (Int32.toNatClampNeg (a1))))] []) ∧ ((I2 92 (Int32.toNatClampNeg (a1))) = (I 92 (Int32.toNatClampNeg (a1))) → sm_V x 0 0 T I2 L2 30 [some (.ref 76), some (.int a1), some (.int a2), some (.int (if a3 < (a4 + 1) then (a4 + 1) else a3)), some (.int (a4 + 1)), some (.int (a5 + 1)), some (.int (I 92 (Int32.toNatClampNeg (a1))))] [])))))) :
    sm_V x 0 0 T I L 30 [some (.ref 76), some (.int a1), some (.int a2), some (.int a3), some (.int a4), some (.int a5), u6] [] :=
  sm_iload (z := a5) hx dX12_span_30 rfl (sm_iload_n (z := a2) hx dX12_span_32 rfl (sm_icmpge (a := a5) (b := a2) hx dX12_span_33 (tgt := 82) (by decide) (fun q2 => sm_aload_n (z := 76) hx dX12_span_82 rfl (sm_callVV (args := []) (st := []) hx dX12_span_83 lv_X12_391_12 rfl rfl (t_76 hB) rfl rfl (h.1 q2) (fun I1 L1 hI1 => sm_iload_n (z := a3) hx dX12_span_86 rfl (sm_iretI hx dX12_span_87 rfl hI1)))) (fun q2 => sm_aload_n (z := 76) hx dX12_span_36 rfl (sm_getR hx dX12_span_37 fl_X12_55_12 (t_76 hB) rfl (sm_iload_n (z := a1) hx dX12_span_40 rfl (sm_iald (i := a1) hx dX12_span_41 (t_92 hB) (h.2 q2).1 (sm_istore (ls' := [some (.ref 76), some (.int a1), some (.int a2), some (.int a3), some (.int a4), some (.int a5), some (.int (I 92 (Int32.toNatClampNeg (a1))))]) hx dX12_span_42 (by decide) rfl (sm_aload_n (z := 76) hx dX12_span_44 rfl (sm_callVV (args := []) (st := []) hx dX12_span_45 lv_X12_382_12 rfl rfl (t_76 hB) rfl rfl (h.2 q2).2 (fun I2 L2 hI2 => sm_aload_n (z := 76) hx dX12_span_48 rfl (sm_getR hx dX12_span_49 fl_X12_55_12 (t_76 hB) rfl (sm_iload_n (z := a1) hx dX12_span_52 rfl (sm_iald (i := a1) hx dX12_span_53 (t_92 hB) hI2.1 (sm_iload (z := (I 92 (Int32.toNatClampNeg (a1)))) hx dX12_span_54 rfl (sm_icmpne (a := (I2 92 (Int32.toNatClampNeg (a1)))) (b := (I 92 (Int32.toNatClampNeg (a1)))) hx dX12_span_56 (tgt := 66) (by decide) (fun q1 => sm_iconst (v := 0) hx dX12_span_66 sm_kc_0 (sm_istore (ls' := [some (.ref 76), some (.int a1), some (.int a2), some (.int a3), some (.int 0), some (.int a5), some (.int (I 92 (Int32.toNatClampNeg (a1))))]) hx dX12_span_67 (by decide) rfl (sm_iload_n (z := a3) hx dX12_span_69 rfl (sm_iload (z := 0) hx dX12_span_70 rfl (sm_mmax (a := a3) (b := 0) hx dX12_span_72 ml_X12_438 mm_max1 mm_2 mm_max3 rfl (sm_istore_n (ls' := [some (.ref 76), some (.int a1), some (.int a2), some (.int (if a3 < 0 then 0 else a3)), some (.int 0), some (.int a5), some (.int (I 92 (Int32.toNatClampNeg (a1))))]) hx dX12_span_75 (by decide) rfl (sm_iinc (ls' := [some (.ref 76), some (.int a1), some (.int a2), some (.int (if a3 < 0 then 0 else a3)), some (.int 0), some (.int (a5 + 1)), some (.int (I 92 (Int32.toNatClampNeg (a1))))]) (z := a5) (v := (a5 + 1)) hx dX12_span_76 rfl (sm_kii_1 _) (by decide) rfl (sm_goto hx dX12_span_79 (tgt := 30) (by decide) ((hI2.2.1 q1)))))))))) (fun q1 => sm_iload (z := a4) hx dX12_span_59 rfl (sm_iconst (v := 1) hx dX12_span_61 sm_kc_1 (sm_iadd (a := a4) (b := 1) hx dX12_span_62 (sm_goto hx dX12_span_63 (tgt := 67) (by decide) (sm_istore (ls' := [some (.ref 76), some (.int a1), some (.int a2), some (.int a3), some (.int (a4 + 1)), some (.int a5), some (.int (I 92 (Int32.toNatClampNeg (a1))))]) hx dX12_span_67 (by decide) rfl (sm_iload_n (z := a3) hx dX12_span_69 rfl (sm_iload (z := (a4 + 1)) hx dX12_span_70 rfl (sm_mmax (a := a3) (b := (a4 + 1)) hx dX12_span_72 ml_X12_438 mm_max1 mm_2 mm_max3 rfl (sm_istore_n (ls' := [some (.ref 76), some (.int a1), some (.int a2), some (.int (if a3 < (a4 + 1) then (a4 + 1) else a3)), some (.int (a4 + 1)), some (.int a5), some (.int (I 92 (Int32.toNatClampNeg (a1))))]) hx dX12_span_75 (by decide) rfl (sm_iinc (ls' := [some (.ref 76), some (.int a1), some (.int a2), some (.int (if a3 < (a4 + 1) then (a4 + 1) else a3)), some (.int (a4 + 1)), some (.int (a5 + 1)), some (.int (I 92 (Int32.toNatClampNeg (a1))))]) (z := a5) (v := (a5 + 1)) hx dX12_span_76 rfl (sm_kii_1 _) (by decide) rfl (sm_goto hx dX12_span_79 (tgt := 30) (by decide) ((hI2.2.2 q1))))))))))))))))))))))))))))
set_option maxRecDepth 100000 in
theorem c_X12_span {n : Nat} {F : Int32 → sm_MI → sm_ML → Prop} {T : List sm_Sh} {I : sm_MI} {L : sm_ML} {a1 : Int32} {a2 : Int32} (hB : sm_Bs T)
    (h : ∀ x : sm_Cx, sm_Ok x mX12_span (n + 1) (sm_KI T F) → sm_CZ n mX12_isThing T I L [.ref 76, .int a1] (fun r2 I1 L1 => (r2 = false → F (-1) I1 L1) ∧ (r2 = true → sm_CZ n mX12_areNights T I1 L1 [.ref 76, .int a2] (fun r4 I3 L3 => (r4 = true → sm_CV n mX12_putAside T I3 L3 [.ref 76] (fun I5 L5 => sm_V x 0 0 T I5 L5 30 [some (.ref 76), some (.int a1), some (.int a2), some (.int 0), some (.int 0), some (.int 0), none] [])) ∧ (r4 = false → F (-1) I3 L3))))) :
    sm_CI (n + 1) mX12_span T I L [.ref 76, .int a1, .int a2] F :=
  sm_CI.of (by decide +kernel) rfl (fun x hx => show sm_V x 0 0 T I L 0 [some (.ref 76), some (.int a1), some (.int a2), none, none, none, none] [] from
  sm_aload_n (z := 76) hx dX12_span_0 rfl (sm_iload_n (z := a1) hx dX12_span_1 rfl (sm_callVZ (args := [.int a1]) (st := []) hx dX12_span_2 lv_X12_318_12 rfl rfl (t_76 hB) rfl rfl (h x hx) (fun r2 I1 L1 hI1 => sm_ifeqZ (b := r2) hx dX12_span_5 (tgt := 16) (by decide) (fun q4 => sm_iconst (v := (-1)) hx dX12_span_16 sm_kc_m1 (sm_iretI hx dX12_span_17 rfl (hI1.1 q4))) (fun q4 => sm_aload_n (z := 76) hx dX12_span_8 rfl (sm_iload_n (z := a2) hx dX12_span_9 rfl (sm_callVZ (args := [.int a2]) (st := []) hx dX12_span_10 lv_X12_366_12 rfl rfl (t_76 hB) rfl rfl (hI1.2 q4) (fun r4 I3 L3 hI3 => sm_ifneZ (b := r4) hx dX12_span_13 (tgt := 18) (by decide) (fun q3 => sm_aload_n (z := 76) hx dX12_span_18 rfl (sm_callVV (args := []) (st := []) hx dX12_span_19 lv_X12_385_12 rfl rfl (t_76 hB) rfl rfl (hI3.1 q3) (fun I5 L5 hI5 => sm_iconst (v := 0) hx dX12_span_22 sm_kc_0 (sm_istore_n (ls' := [some (.ref 76), some (.int a1), some (.int a2), some (.int 0), none, none, none]) hx dX12_span_23 (by decide) rfl (sm_iconst (v := 0) hx dX12_span_24 sm_kc_0 (sm_istore (ls' := [some (.ref 76), some (.int a1), some (.int a2), some (.int 0), some (.int 0), none, none]) hx dX12_span_25 (by decide) rfl (sm_iconst (v := 0) hx dX12_span_27 sm_kc_0 (sm_istore (ls' := [some (.ref 76), some (.int a1), some (.int a2), some (.int 0), some (.int 0), some (.int 0), none]) hx dX12_span_28 (by decide) rfl (hI5))))))))) (fun q3 => sm_iconst (v := (-1)) hx dX12_span_16 sm_kc_m1 (sm_iretI hx dX12_span_17 rfl (hI3.2 q3)))))))))))
theorem dX12_fullest_0 : decode cX12_fullest 0 = .ok (.aload_n 0, 1) := by decide +kernel
theorem dX12_fullest_1 : decode cX12_fullest 1 = .ok (.iload_n 1, 1) := by decide +kernel
theorem dX12_fullest_2 : decode cX12_fullest 2 = .ok (.invokevirtual 366, 3) := by decide +kernel
theorem dX12_fullest_5 : decode cX12_fullest 5 = .ok (.ifCond .eq 12, 3) := by decide +kernel
theorem dX12_fullest_8 : decode cX12_fullest 8 = .ok (.iload_n 2, 1) := by decide +kernel
theorem dX12_fullest_9 : decode cX12_fullest 9 = .ok (.iconst 0, 1) := by decide +kernel
theorem dX12_fullest_10 : decode cX12_fullest 10 = .ok (.iconst 2, 1) := by decide +kernel
theorem dX12_fullest_11 : decode cX12_fullest 11 = .ok (.invokestatic 227, 3) := by decide +kernel
theorem dX12_fullest_14 : decode cX12_fullest 14 = .ok (.ifCond .ne 5, 3) := by decide +kernel
theorem dX12_fullest_17 : decode cX12_fullest 17 = .ok (.iconst (-1), 1) := by decide +kernel
theorem dX12_fullest_18 : decode cX12_fullest 18 = .ok (.ireturn, 1) := by decide +kernel
theorem dX12_fullest_19 : decode cX12_fullest 19 = .ok (.aload_n 0, 1) := by decide +kernel
theorem dX12_fullest_20 : decode cX12_fullest 20 = .ok (.invokevirtual 385, 3) := by decide +kernel
theorem dX12_fullest_23 : decode cX12_fullest 23 = .ok (.iconst 0, 1) := by decide +kernel
theorem dX12_fullest_24 : decode cX12_fullest 24 = .ok (.istore_n 3, 1) := by decide +kernel
theorem dX12_fullest_25 : decode cX12_fullest 25 = .ok (.iconst (-1), 1) := by decide +kernel
theorem dX12_fullest_26 : decode cX12_fullest 26 = .ok (.istore 4, 2) := by decide +kernel
theorem dX12_fullest_28 : decode cX12_fullest 28 = .ok (.iconst (-1), 1) := by decide +kernel
theorem dX12_fullest_29 : decode cX12_fullest 29 = .ok (.istore 5, 2) := by decide +kernel
theorem dX12_fullest_31 : decode cX12_fullest 31 = .ok (.iconst 1, 1) := by decide +kernel
theorem dX12_fullest_32 : decode cX12_fullest 32 = .ok (.istore 6, 2) := by decide +kernel
theorem dX12_fullest_34 : decode cX12_fullest 34 = .ok (.iload 6, 2) := by decide +kernel
theorem dX12_fullest_36 : decode cX12_fullest 36 = .ok (.iload_n 1, 1) := by decide +kernel
theorem dX12_fullest_37 : decode cX12_fullest 37 = .ok (.if_icmp .gt 62, 3) := by decide +kernel
theorem dX12_fullest_40 : decode cX12_fullest 40 = .ok (.aload_n 0, 1) := by decide +kernel
theorem dX12_fullest_41 : decode cX12_fullest 41 = .ok (.invokevirtual 382, 3) := by decide +kernel
theorem dX12_fullest_44 : decode cX12_fullest 44 = .ok (.iconst 0, 1) := by decide +kernel
theorem dX12_fullest_45 : decode cX12_fullest 45 = .ok (.istore 7, 2) := by decide +kernel
theorem dX12_fullest_47 : decode cX12_fullest 47 = .ok (.iload 7, 2) := by decide +kernel
theorem dX12_fullest_49 : decode cX12_fullest 49 = .ok (.aload_n 0, 1) := by decide +kernel
theorem dX12_fullest_50 : decode cX12_fullest 50 = .ok (.getfield 275, 3) := by decide +kernel
theorem dX12_fullest_53 : decode cX12_fullest 53 = .ok (.if_icmp .ge 40, 3) := by decide +kernel
theorem dX12_fullest_56 : decode cX12_fullest 56 = .ok (.aload_n 0, 1) := by decide +kernel
theorem dX12_fullest_57 : decode cX12_fullest 57 = .ok (.iload 7, 2) := by decide +kernel
theorem dX12_fullest_59 : decode cX12_fullest 59 = .ok (.invokevirtual 324, 3) := by decide +kernel
theorem dX12_fullest_62 : decode cX12_fullest 62 = .ok (.invokestatic 337, 3) := by decide +kernel
theorem dX12_fullest_65 : decode cX12_fullest 65 = .ok (.iload_n 3, 1) := by decide +kernel
theorem dX12_fullest_66 : decode cX12_fullest 66 = .ok (.if_icmp .le 21, 3) := by decide +kernel
theorem dX12_fullest_69 : decode cX12_fullest 69 = .ok (.aload_n 0, 1) := by decide +kernel
theorem dX12_fullest_70 : decode cX12_fullest 70 = .ok (.iload 7, 2) := by decide +kernel
theorem dX12_fullest_72 : decode cX12_fullest 72 = .ok (.invokevirtual 324, 3) := by decide +kernel
theorem dX12_fullest_75 : decode cX12_fullest 75 = .ok (.invokestatic 337, 3) := by decide +kernel
theorem dX12_fullest_78 : decode cX12_fullest 78 = .ok (.istore_n 3, 1) := by decide +kernel
theorem dX12_fullest_79 : decode cX12_fullest 79 = .ok (.iload 6, 2) := by decide +kernel
theorem dX12_fullest_81 : decode cX12_fullest 81 = .ok (.istore 4, 2) := by decide +kernel
theorem dX12_fullest_83 : decode cX12_fullest 83 = .ok (.iload 7, 2) := by decide +kernel
theorem dX12_fullest_85 : decode cX12_fullest 85 = .ok (.istore 5, 2) := by decide +kernel
theorem dX12_fullest_87 : decode cX12_fullest 87 = .ok (.iinc 7 1, 3) := by decide +kernel
theorem dX12_fullest_90 : decode cX12_fullest 90 = .ok (.goto (-43), 3) := by decide +kernel
theorem dX12_fullest_93 : decode cX12_fullest 93 = .ok (.iinc 6 1, 3) := by decide +kernel
theorem dX12_fullest_96 : decode cX12_fullest 96 = .ok (.goto (-62), 3) := by decide +kernel
theorem dX12_fullest_99 : decode cX12_fullest 99 = .ok (.aload_n 0, 1) := by decide +kernel
theorem dX12_fullest_100 : decode cX12_fullest 100 = .ok (.invokevirtual 391, 3) := by decide +kernel
theorem dX12_fullest_103 : decode cX12_fullest 103 = .ok (.iload_n 2, 1) := by decide +kernel
theorem dX12_fullest_104 : decode cX12_fullest 104 = .ok (.ifCond .ne 7, 3) := by decide +kernel
theorem dX12_fullest_107 : decode cX12_fullest 107 = .ok (.iload_n 3, 1) := by decide +kernel
theorem dX12_fullest_108 : decode cX12_fullest 108 = .ok (.goto 15, 3) := by decide +kernel
theorem dX12_fullest_111 : decode cX12_fullest 111 = .ok (.iload_n 2, 1) := by decide +kernel
theorem dX12_fullest_112 : decode cX12_fullest 112 = .ok (.iconst 1, 1) := by decide +kernel
theorem dX12_fullest_113 : decode cX12_fullest 113 = .ok (.if_icmp .ne 8, 3) := by decide +kernel
theorem dX12_fullest_116 : decode cX12_fullest 116 = .ok (.iload 4, 2) := by decide +kernel
theorem dX12_fullest_118 : decode cX12_fullest 118 = .ok (.goto 5, 3) := by decide +kernel
theorem dX12_fullest_121 : decode cX12_fullest 121 = .ok (.iload 5, 2) := by decide +kernel
theorem dX12_fullest_123 : decode cX12_fullest 123 = .ok (.ireturn, 1) := by decide +kernel
set_option maxRecDepth 100000 in
theorem u_X12_fullest_34 {x : sm_Cx} {n : Nat} {F : Int32 → sm_MI → sm_ML → Prop} {T : List sm_Sh} {I : sm_MI} {L : sm_ML} {a1 : Int32} {a2 : Int32} {a3 : Int32} {a4 : Int32} {a5 : Int32} {a6 : Int32} {u7 : Option Value} (hB : sm_Bs T) (hx : sm_Ok x mX12_fullest (n + 1) (sm_KI T F))
    (h : (a1 < a6 → sm_CV n mX12_takeBack T I L [.ref 76] (fun I1 L1 => (¬ a2 = 0 → (¬ a2 = 1 → F a5 I1 L1) ∧ (a2 = 1 → F a4 I1 L1)) ∧ (a2 = 0 → F a3 I1 L1))) ∧ (¬ a1 < a6 → sm_CV n mX12_calmNight T I L [.ref 76] (fun I2 L2 => sm_V x 0 0 T I2 L2 47 [some (.ref 76), some (.int a1), some (.int a2), some (.int a3), some (.int a4), some (.int a5), some (.int a6), some (.int 0)] []))) :
    sm_V x 0 0 T I L 34 [some (.ref 76), some (.int a1), some (.int a2), some (.int a3), some (.int a4), some (.int a5), some (.int a6), u7] [] :=
  sm_iload (z := a6) hx dX12_fullest_34 rfl (sm_iload_n (z := a1) hx dX12_fullest_36 rfl (sm_icmpgt (a := a6) (b := a1) hx dX12_fullest_37 (tgt := 99) (by decide) (fun q3 => sm_aload_n (z := 76) hx dX12_fullest_99 rfl (sm_callVV (args := []) (st := []) hx dX12_fullest_100 lv_X12_391_12 rfl rfl (t_76 hB) rfl rfl (h.1 q3) (fun I1 L1 hI1 => sm_iload_n (z := a2) hx dX12_fullest_103 rfl (sm_ifne (a := a2) hx dX12_fullest_104 (tgt := 111) (by decide) (fun q2 => sm_iload_n (z := a2) hx dX12_fullest_111 rfl (sm_iconst (v := 1) hx dX12_fullest_112 sm_kc_1 (sm_icmpne (a := a2) (b := 1) hx dX12_fullest_113 (tgt := 121) (by decide) (fun q1 => sm_iload (z := a5) hx dX12_fullest_121 rfl (sm_iretI hx dX12_fullest_123 rfl ((hI1.1 q2).1 q1))) (fun q1 => sm_iload (z := a4) hx dX12_fullest_116 rfl (sm_goto hx dX12_fullest_118 (tgt := 123) (by decide) (sm_iretI hx dX12_fullest_123 rfl ((hI1.1 q2).2 q1))))))) (fun q2 => sm_iload_n (z := a3) hx dX12_fullest_107 rfl (sm_goto hx dX12_fullest_108 (tgt := 123) (by decide) (sm_iretI hx dX12_fullest_123 rfl (hI1.2 q2)))))))) (fun q3 => sm_aload_n (z := 76) hx dX12_fullest_40 rfl (sm_callVV (args := []) (st := []) hx dX12_fullest_41 lv_X12_382_12 rfl rfl (t_76 hB) rfl rfl (h.2 q3) (fun I2 L2 hI2 => sm_iconst (v := 0) hx dX12_fullest_44 sm_kc_0 (sm_istore (ls' := [some (.ref 76), some (.int a1), some (.int a2), some (.int a3), some (.int a4), some (.int a5), some (.int a6), some (.int 0)]) hx dX12_fullest_45 (by decide) rfl (hI2)))))))
set_option maxRecDepth 100000 in
theorem u_X12_fullest_47 {x : sm_Cx} {n : Nat} {F : Int32 → sm_MI → sm_ML → Prop} {T : List sm_Sh} {I : sm_MI} {L : sm_ML} {a1 : Int32} {a2 : Int32} {a3 : Int32} {a4 : Int32} {a5 : Int32} {a6 : Int32} {a7 : Int32} (hB : sm_Bs T) (hx : sm_Ok x mX12_fullest (n + 1) (sm_KI T F))
    (h : ((I 76 26) ≤ a7 → sm_V x 0 0 T I L 34 [some (.ref 76), some (.int a1), some (.int a2), some (.int a3), some (.int a4), some (.int a5), some (.int (a6 + 1)), some (.int a7)] []) ∧ (¬ (I 76 26) ≤ a7 → sm_CI n mX12_thingsIn T I L [.ref 76, .int a7] (fun r2 I1 L1 => sm_CI n mJ6_bitCount_0f7a4 T I1 L1 [.int r2] (fun r4 I3 L3 => (r4 ≤ a3 → sm_V x 0 0 T I3 L3 47 [some (.ref 76), some (.int a1), some (.int a2), some (.int a3), some (.int a4), some (.int a5), some (.int a6), some (.int (a7 + 1))] []) ∧ (¬ r4 ≤ a3 → sm_CI n mX12_thingsIn T I3 L3 [.ref 76, .int a7] (fun r6 I5 L5 => sm_CI n mJ6_bitCount_0f7a4 T I5 L5 [.int r6] (fun r8 I7 L7 => sm_V x 0 0 T I7 L7 47 [some (.ref 76), some (.int a1), some (.int a2), some (.int r8), some (.int a6), some (.int a7), some (.int a6), some (.int (a7 + 1))] []))))))) :
    sm_V x 0 0 T I L 47 [some (.ref 76), some (.int a1), some (.int a2), some (.int a3), some (.int a4), some (.int a5), some (.int a6), some (.int a7)] [] :=
  sm_iload (z := a7) hx dX12_fullest_47 rfl (sm_aload_n (z := 76) hx dX12_fullest_49 rfl (sm_getI hx dX12_fullest_50 fl_X12_275_12 (t_76 hB) rfl (sm_icmpge (a := a7) (b := (I 76 26)) hx dX12_fullest_53 (tgt := 93) (by decide) (fun q5 => sm_iinc (ls' := [some (.ref 76), some (.int a1), some (.int a2), some (.int a3), some (.int a4), some (.int a5), some (.int (a6 + 1)), some (.int a7)]) (z := a6) (v := (a6 + 1)) hx dX12_fullest_93 rfl (sm_kii_1 _) (by decide) rfl (sm_goto hx dX12_fullest_96 (tgt := 34) (by decide) ((h.1 q5)))) (fun q5 => sm_aload_n (z := 76) hx dX12_fullest_56 rfl (sm_iload (z := a7) hx dX12_fullest_57 rfl (sm_callVI (args := [.int a7]) (st := []) hx dX12_fullest_59 lv_X12_324_12 rfl rfl (t_76 hB) rfl rfl (h.2 q5) (fun r2 I1 L1 hI1 => sm_callSI (args := [.int r2]) (st := []) hx dX12_fullest_62 ls_X12_337 rfl rfl rfl hI1 (fun r4 I3 L3 hI3 => sm_iload_n (z := a3) hx dX12_fullest_65 rfl (sm_icmple (a := r4) (b := a3) hx dX12_fullest_66 (tgt := 87) (by decide) (fun q4 => sm_iinc (ls' := [some (.ref 76), some (.int a1), some (.int a2), some (.int a3), some (.int a4), some (.int a5), some (.int a6), some (.int (a7 + 1))]) (z := a7) (v := (a7 + 1)) hx dX12_fullest_87 rfl (sm_kii_1 _) (by decide) rfl (sm_goto hx dX12_fullest_90 (tgt := 47) (by decide) ((hI3.1 q4)))) (fun q4 => sm_aload_n (z := 76) hx dX12_fullest_69 rfl (sm_iload (z := a7) hx dX12_fullest_70 rfl (sm_callVI (args := [.int a7]) (st := []) hx dX12_fullest_72 lv_X12_324_12 rfl rfl (t_76 hB) rfl rfl (hI3.2 q4) (fun r6 I5 L5 hI5 => sm_callSI (args := [.int r6]) (st := []) hx dX12_fullest_75 ls_X12_337 rfl rfl rfl hI5 (fun r8 I7 L7 hI7 => sm_istore_n (ls' := [some (.ref 76), some (.int a1), some (.int a2), some (.int r8), some (.int a4), some (.int a5), some (.int a6), some (.int a7)]) hx dX12_fullest_78 (by decide) rfl (sm_iload (z := a6) hx dX12_fullest_79 rfl (sm_istore (ls' := [some (.ref 76), some (.int a1), some (.int a2), some (.int r8), some (.int a6), some (.int a5), some (.int a6), some (.int a7)]) hx dX12_fullest_81 (by decide) rfl (sm_iload (z := a7) hx dX12_fullest_83 rfl (sm_istore (ls' := [some (.ref 76), some (.int a1), some (.int a2), some (.int r8), some (.int a6), some (.int a7), some (.int a6), some (.int a7)]) hx dX12_fullest_85 (by decide) rfl (sm_iinc (ls' := [some (.ref 76), some (.int a1), some (.int a2), some (.int r8), some (.int a6), some (.int a7), some (.int a6), some (.int (a7 + 1))]) (z := a7) (v := (a7 + 1)) hx dX12_fullest_87 rfl (sm_kii_1 _) (by decide) rfl (sm_goto hx dX12_fullest_90 (tgt := 47) (by decide) (hI7)))))))))))))))))))))
set_option maxRecDepth 100000 in
theorem c_X12_fullest {n : Nat} {F : Int32 → sm_MI → sm_ML → Prop} {T : List sm_Sh} {I : sm_MI} {L : sm_ML} {a1 : Int32} {a2 : Int32} (hB : sm_Bs T)
    (h : ∀ x : sm_Cx, sm_Ok x mX12_fullest (n + 1) (sm_KI T F) → sm_CZ n mX12_areNights T I L [.ref 76, .int a1] (fun r2 I1 L1 => (r2 = false → F (-1) I1 L1) ∧ (r2 = true → sm_CZ n mX12_in T I1 L1 [.int a2, .int 0, .int 2] (fun r4 I3 L3 => (r4 = true → sm_CV n mX12_putAside T I3 L3 [.ref 76] (fun I5 L5 => sm_V x 0 0 T I5 L5 34 [some (.ref 76), some (.int a1), some (.int a2), some (.int 0), some (.int (-1)), some (.int (-1)), some (.int 1), none] [])) ∧ (r4 = false → F (-1) I3 L3))))) :
    sm_CI (n + 1) mX12_fullest T I L [.ref 76, .int a1, .int a2] F :=
  sm_CI.of (by decide +kernel) rfl (fun x hx => show sm_V x 0 0 T I L 0 [some (.ref 76), some (.int a1), some (.int a2), none, none, none, none, none] [] from
  sm_aload_n (z := 76) hx dX12_fullest_0 rfl (sm_iload_n (z := a1) hx dX12_fullest_1 rfl (sm_callVZ (args := [.int a1]) (st := []) hx dX12_fullest_2 lv_X12_366_12 rfl rfl (t_76 hB) rfl rfl (h x hx) (fun r2 I1 L1 hI1 => sm_ifeqZ (b := r2) hx dX12_fullest_5 (tgt := 17) (by decide) (fun q7 => sm_iconst (v := (-1)) hx dX12_fullest_17 sm_kc_m1 (sm_iretI hx dX12_fullest_18 rfl (hI1.1 q7))) (fun q7 => sm_iload_n (z := a2) hx dX12_fullest_8 rfl (sm_iconst (v := 0) hx dX12_fullest_9 sm_kc_0 (sm_iconst (v := 2) hx dX12_fullest_10 sm_kc_2 (sm_callSZ (args := [.int a2, .int 0, .int 2]) (st := []) hx dX12_fullest_11 ls_X12_227 rfl rfl rfl (hI1.2 q7) (fun r4 I3 L3 hI3 => sm_ifneZ (b := r4) hx dX12_fullest_14 (tgt := 19) (by decide) (fun q6 => sm_aload_n (z := 76) hx dX12_fullest_19 rfl (sm_callVV (args := []) (st := []) hx dX12_fullest_20 lv_X12_385_12 rfl rfl (t_76 hB) rfl rfl (hI3.1 q6) (fun I5 L5 hI5 => sm_iconst (v := 0) hx dX12_fullest_23 sm_kc_0 (sm_istore_n (ls' := [some (.ref 76), some (.int a1), some (.int a2), some (.int 0), none, none, none, none]) hx dX12_fullest_24 (by decide) rfl (sm_iconst (v := (-1)) hx dX12_fullest_25 sm_kc_m1 (sm_istore (ls' := [some (.ref 76), some (.int a1), some (.int a2), some (.int 0), some (.int (-1)), none, none, none]) hx dX12_fullest_26 (by decide) rfl (sm_iconst (v := (-1)) hx dX12_fullest_28 sm_kc_m1 (sm_istore (ls' := [some (.ref 76), some (.int a1), some (.int a2), some (.int 0), some (.int (-1)), some (.int (-1)), none, none]) hx dX12_fullest_29 (by decide) rfl (sm_iconst (v := 1) hx dX12_fullest_31 sm_kc_1 (sm_istore (ls' := [some (.ref 76), some (.int a1), some (.int a2), some (.int 0), some (.int (-1)), some (.int (-1)), some (.int 1), none]) hx dX12_fullest_32 (by decide) rfl (hI5))))))))))) (fun q6 => sm_iconst (v := (-1)) hx dX12_fullest_17 sm_kc_m1 (sm_iretI hx dX12_fullest_18 rfl (hI3.2 q6))))))))))))
theorem dX12_astray_0 : decode cX12_astray 0 = .ok (.aload_n 0, 1) := by decide +kernel
theorem dX12_astray_1 : decode cX12_astray 1 = .ok (.getfield 275, 3) := by decide +kernel
theorem dX12_astray_4 : decode cX12_astray 4 = .ok (.ifCond .eq 13, 3) := by decide +kernel
theorem dX12_astray_7 : decode cX12_astray 7 = .ok (.iload_n 1, 1) := by decide +kernel
theorem dX12_astray_8 : decode cX12_astray 8 = .ok (.iconst 0, 1) := by decide +kernel
theorem dX12_astray_9 : decode cX12_astray 9 = .ok (.bipush 60, 2) := by decide +kernel
theorem dX12_astray_11 : decode cX12_astray 11 = .ok (.invokestatic 227, 3) := by decide +kernel
theorem dX12_astray_14 : decode cX12_astray 14 = .ok (.ifCond .ne 5, 3) := by decide +kernel
theorem dX12_astray_17 : decode cX12_astray 17 = .ok (.iconst (-1), 1) := by decide +kernel
theorem dX12_astray_18 : decode cX12_astray 18 = .ok (.ireturn, 1) := by decide +kernel
theorem dX12_astray_19 : decode cX12_astray 19 = .ok (.aload_n 0, 1) := by decide +kernel
theorem dX12_astray_20 : decode cX12_astray 20 = .ok (.invokevirtual 385, 3) := by decide +kernel
theorem dX12_astray_23 : decode cX12_astray 23 = .ok (.aload_n 0, 1) := by decide +kernel
theorem dX12_astray_24 : decode cX12_astray 24 = .ok (.iload_n 1, 1) := by decide +kernel
theorem dX12_astray_25 : decode cX12_astray 25 = .ok (.invokevirtual 388, 3) := by decide +kernel
theorem dX12_astray_28 : decode cX12_astray 28 = .ok (.iconst 0, 1) := by decide +kernel
theorem dX12_astray_29 : decode cX12_astray 29 = .ok (.istore_n 2, 1) := by decide +kernel
theorem dX12_astray_30 : decode cX12_astray 30 = .ok (.iconst 0, 1) := by decide +kernel
theorem dX12_astray_31 : decode cX12_astray 31 = .ok (.istore_n 3, 1) := by decide +kernel
theorem dX12_astray_32 : decode cX12_astray 32 = .ok (.iload_n 3, 1) := by decide +kernel
theorem dX12_astray_33 : decode cX12_astray 33 = .ok (.aload_n 0, 1) := by decide +kernel
theorem dX12_astray_34 : decode cX12_astray 34 = .ok (.getfield 281, 3) := by decide +kernel
theorem dX12_astray_37 : decode cX12_astray 37 = .ok (.if_icmp .ge 34, 3) := by decide +kernel
theorem dX12_astray_40 : decode cX12_astray 40 = .ok (.iload_n 2, 1) := by decide +kernel
theorem dX12_astray_41 : decode cX12_astray 41 = .ok (.aload_n 0, 1) := by decide +kernel
theorem dX12_astray_42 : decode cX12_astray 42 = .ok (.getfield 55, 3) := by decide +kernel
theorem dX12_astray_45 : decode cX12_astray 45 = .ok (.iload_n 3, 1) := by decide +kernel
theorem dX12_astray_46 : decode cX12_astray 46 = .ok (.iaload, 1) := by decide +kernel
theorem dX12_astray_47 : decode cX12_astray 47 = .ok (.aload_n 0, 1) := by decide +kernel
theorem dX12_astray_48 : decode cX12_astray 48 = .ok (.getfield 49, 3) := by decide +kernel
theorem dX12_astray_51 : decode cX12_astray 51 = .ok (.iload_n 3, 1) := by decide +kernel
theorem dX12_astray_52 : decode cX12_astray 52 = .ok (.iaload, 1) := by decide +kernel
theorem dX12_astray_53 : decode cX12_astray 53 = .ok (.if_icmp .eq 9, 3) := by decide +kernel
theorem dX12_astray_56 : decode cX12_astray 56 = .ok (.iconst 1, 1) := by decide +kernel
theorem dX12_astray_57 : decode cX12_astray 57 = .ok (.iload_n 3, 1) := by decide +kernel
theorem dX12_astray_58 : decode cX12_astray 58 = .ok (.ishl, 1) := by decide +kernel
theorem dX12_astray_59 : decode cX12_astray 59 = .ok (.goto 4, 3) := by decide +kernel
theorem dX12_astray_62 : decode cX12_astray 62 = .ok (.iconst 0, 1) := by decide +kernel
theorem dX12_astray_63 : decode cX12_astray 63 = .ok (.ior, 1) := by decide +kernel
theorem dX12_astray_64 : decode cX12_astray 64 = .ok (.istore_n 2, 1) := by decide +kernel
theorem dX12_astray_65 : decode cX12_astray 65 = .ok (.iinc 3 1, 3) := by decide +kernel
theorem dX12_astray_68 : decode cX12_astray 68 = .ok (.goto (-36), 3) := by decide +kernel
theorem dX12_astray_71 : decode cX12_astray 71 = .ok (.aload_n 0, 1) := by decide +kernel
theorem dX12_astray_72 : decode cX12_astray 72 = .ok (.invokevirtual 391, 3) := by decide +kernel
theorem dX12_astray_75 : decode cX12_astray 75 = .ok (.iload_n 2, 1) := by decide +kernel
theorem dX12_astray_76 : decode cX12_astray 76 = .ok (.ireturn, 1) := by decide +kernel
set_option maxRecDepth 100000 in
theorem u_X12_astray_32 {x : sm_Cx} {n : Nat} {F : Int32 → sm_MI → sm_ML → Prop} {T : List sm_Sh} {I : sm_MI} {L : sm_ML} {a1 : Int32} {a2 : Int32} {a3 : Int32} (hB : sm_Bs T) (hx : sm_Ok x mX12_astray (n + 1) (sm_KI T F))
    (h : ((I 76 28) ≤ a3 → sm_CV n mX12_takeBack T I L [.ref 76] (fun I1 L1 => F a2 I1 L1)) ∧ (¬ (I 76 28) ≤ a3 → vp_in a3 8 ∧ (vp_in a3 8 ∧ (((I 92 (Int32.toNatClampNeg (a3))) = (I 90 (Int32.toNatClampNeg (a3))) → sm_V x 0 0 T I L 32 [some (.ref 76), some (.int a1), some (.int (a2 ||| 0)), some (.int (a3 + 1))] []) ∧ (¬ (I 92 (Int32.toNatClampNeg (a3))) = (I 90 (Int32.toNatClampNeg (a3))) → sm_V x 0 0 T I L 32 [some (.ref 76), some (.int a1), some (.int (a2 ||| (1 <<< (a3 &&& 31)))), some (.int (a3 + 1))] []))))) :
    sm_V x 0 0 T I L 32 [some (.ref 76), some (.int a1), some (.int a2), some (.int a3)] [] :=
  sm_iload_n (z := a3) hx dX12_astray_32 rfl (sm_aload_n (z := 76) hx dX12_astray_33 rfl (sm_getI hx dX12_astray_34 fl_X12_281_12 (t_76 hB) rfl (sm_icmpge (a := a3) (b := (I 76 28)) hx dX12_astray_37 (tgt := 71) (by decide) (fun q2 => sm_aload_n (z := 76) hx dX12_astray_71 rfl (sm_callVV (args := []) (st := []) hx dX12_astray_72 lv_X12_391_12 rfl rfl (t_76 hB) rfl rfl (h.1 q2) (fun I1 L1 hI1 => sm_iload_n (z := a2) hx dX12_astray_75 rfl (sm_iretI hx dX12_astray_76 rfl hI1)))) (fun q2 => sm_iload_n (z := a2) hx dX12_astray_40 rfl (sm_aload_n (z := 76) hx dX12_astray_41 rfl (sm_getR hx dX12_astray_42 fl_X12_55_12 (t_76 hB) rfl (sm_iload_n (z := a3) hx dX12_astray_45 rfl (sm_iald (i := a3) hx dX12_astray_46 (t_92 hB) (h.2 q2).1 (sm_aload_n (z := 76) hx dX12_astray_47 rfl (sm_getR hx dX12_astray_48 fl_X12_49_12 (t_76 hB) rfl (sm_iload_n (z := a3) hx dX12_astray_51 rfl (sm_iald (i := a3) hx dX12_astray_52 (t_90 hB) (h.2 q2).2.1 (sm_icmpeq (a := (I 92 (Int32.toNatClampNeg (a3)))) (b := (I 90 (Int32.toNatClampNeg (a3)))) hx dX12_astray_53 (tgt := 62) (by decide) (fun q1 => sm_iconst (v := 0) hx dX12_astray_62 sm_kc_0 (sm_ior (a := a2) (b := 0) hx dX12_astray_63 (sm_istore_n (ls' := [some (.ref 76), some (.int a1), some (.int (a2 ||| 0)), some (.int a3)]) hx dX12_astray_64 (by decide) rfl (sm_iinc (ls' := [some (.ref 76), some (.int a1), some (.int (a2 ||| 0)), some (.int (a3 + 1))]) (z := a3) (v := (a3 + 1)) hx dX12_astray_65 rfl (sm_kii_1 _) (by decide) rfl (sm_goto hx dX12_astray_68 (tgt := 32) (by decide) (((h.2 q2).2.2.1 q1))))))) (fun q1 => sm_iconst (v := 1) hx dX12_astray_56 sm_kc_1 (sm_iload_n (z := a3) hx dX12_astray_57 rfl (sm_ishl (a := 1) (b := a3) hx dX12_astray_58 (sm_goto hx dX12_astray_59 (tgt := 63) (by decide) (sm_ior (a := a2) (b := (1 <<< (a3 &&& 31))) hx dX12_astray_63 (sm_istore_n (ls' := [some (.ref 76), some (.int a1), some (.int (a2 ||| (1 <<< (a3 &&& 31)))), some (.int a3)]) hx dX12_astray_64 (by decide) rfl (sm_iinc (ls' := [some (.ref 76), some (.int a1), some (.int (a2 ||| (1 <<< (a3 &&& 31)))), some (.int (a3 + 1))]) (z := a3) (v := (a3 + 1)) hx dX12_astray_65 rfl (sm_kii_1 _) (by decide) rfl (sm_goto hx dX12_astray_68 (tgt := 32) (by decide) (((h.2 q2).2.2.2 q1)))))))))))))))))))))))
set_option maxRecDepth 100000 in
theorem c_X12_astray {n : Nat} {F : Int32 → sm_MI → sm_ML → Prop} {T : List sm_Sh} {I : sm_MI} {L : sm_ML} {a1 : Int32} (hB : sm_Bs T)
    (h : ∀ x : sm_Cx, sm_Ok x mX12_astray (n + 1) (sm_KI T F) → ((I 76 26) = 0 → F (-1) I L) ∧ (¬ (I 76 26) = 0 → sm_CZ n mX12_in T I L [.int a1, .int 0, .int 60] (fun r2 I1 L1 => (r2 = true → sm_CV n mX12_putAside T I1 L1 [.ref 76] (fun I3 L3 => sm_CV n mX12_calmNights T I3 L3 [.ref 76, .int a1] (fun I4 L4 => sm_V x 0 0 T I4 L4 32 [some (.ref 76), some (.int a1), some (.int 0), some (.int 0)] []))) ∧ (r2 = false → F (-1) I1 L1)))) :
    sm_CI (n + 1) mX12_astray T I L [.ref 76, .int a1] F :=
  sm_CI.of (by decide +kernel) rfl (fun x hx => show sm_V x 0 0 T I L 0 [some (.ref 76), some (.int a1), none, none] [] from
  sm_aload_n (z := 76) hx dX12_astray_0 rfl (sm_getI hx dX12_astray_1 fl_X12_275_12 (t_76 hB) rfl (sm_ifeq (a := (I 76 26)) hx dX12_astray_4 (tgt := 17) (by decide) (fun q4 => sm_iconst (v := (-1)) hx dX12_astray_17 sm_kc_m1 (sm_iretI hx dX12_astray_18 rfl ((h x hx).1 q4))) (fun q4 => sm_iload_n (z := a1) hx dX12_astray_7 rfl (sm_iconst (v := 0) hx dX12_astray_8 sm_kc_0 (sm_bipush (v := 60) hx dX12_astray_9 sm_kb_60 (sm_callSZ (args := [.int a1, .int 0, .int 60]) (st := []) hx dX12_astray_11 ls_X12_227 rfl rfl rfl ((h x hx).2 q4) (fun r2 I1 L1 hI1 => sm_ifneZ (b := r2) hx dX12_astray_14 (tgt := 19) (by decide) (fun q3 => sm_aload_n (z := 76) hx dX12_astray_19 rfl (sm_callVV (args := []) (st := []) hx dX12_astray_20 lv_X12_385_12 rfl rfl (t_76 hB) rfl rfl (hI1.1 q3) (fun I3 L3 hI3 => sm_aload_n (z := 76) hx dX12_astray_23 rfl (sm_iload_n (z := a1) hx dX12_astray_24 rfl (sm_callVV (args := [.int a1]) (st := []) hx dX12_astray_25 lv_X12_388_12 rfl rfl (t_76 hB) rfl rfl hI3 (fun I4 L4 hI4 => sm_iconst (v := 0) hx dX12_astray_28 sm_kc_0 (sm_istore_n (ls' := [some (.ref 76), some (.int a1), some (.int 0), none]) hx dX12_astray_29 (by decide) rfl (sm_iconst (v := 0) hx dX12_astray_30 sm_kc_0 (sm_istore_n (ls' := [some (.ref 76), some (.int a1), some (.int 0), some (.int 0)]) hx dX12_astray_31 (by decide) rfl (hI4)))))))))) (fun q3 => sm_iconst (v := (-1)) hx dX12_astray_17 sm_kc_m1 (sm_iretI hx dX12_astray_18 rfl (hI1.2 q3)))))))))))
theorem dX12_image_0 : decode cX12_image 0 = .ok (.aload_n 0, 1) := by decide +kernel
theorem dX12_image_1 : decode cX12_image 1 = .ok (.getfield 275, 3) := by decide +kernel
theorem dX12_image_4 : decode cX12_image 4 = .ok (.ifCond .ne 5, 3) := by decide +kernel
theorem dX12_image_7 : decode cX12_image 7 = .ok (.iconst (-1), 1) := by decide +kernel
theorem dX12_image_8 : decode cX12_image 8 = .ok (.ireturn, 1) := by decide +kernel
theorem dX12_image_9 : decode cX12_image 9 = .ok (.iconst 0, 1) := by decide +kernel
theorem dX12_image_10 : decode cX12_image 10 = .ok (.istore_n 1, 1) := by decide +kernel
theorem dX12_image_11 : decode cX12_image 11 = .ok (.iload_n 1, 1) := by decide +kernel
theorem dX12_image_12 : decode cX12_image 12 = .ok (.bipush 8, 2) := by decide +kernel
theorem dX12_image_14 : decode cX12_image 14 = .ok (.if_icmp .ge 21, 3) := by decide +kernel
theorem dX12_image_17 : decode cX12_image 17 = .ok (.aload_n 0, 1) := by decide +kernel
theorem dX12_image_18 : decode cX12_image 18 = .ok (.getfield 109, 3) := by decide +kernel
theorem dX12_image_21 : decode cX12_image 21 = .ok (.iload_n 1, 1) := by decide +kernel
theorem dX12_image_22 : decode cX12_image 22 = .ok (.aload_n 0, 1) := by decide +kernel
theorem dX12_image_23 : decode cX12_image 23 = .ok (.getfield 55, 3) := by decide +kernel
theorem dX12_image_26 : decode cX12_image 26 = .ok (.iload_n 1, 1) := by decide +kernel
theorem dX12_image_27 : decode cX12_image 27 = .ok (.iaload, 1) := by decide +kernel
theorem dX12_image_28 : decode cX12_image 28 = .ok (.iastore, 1) := by decide +kernel
theorem dX12_image_29 : decode cX12_image 29 = .ok (.iinc 1 1, 3) := by decide +kernel
theorem dX12_image_32 : decode cX12_image 32 = .ok (.goto (-21), 3) := by decide +kernel
theorem dX12_image_35 : decode cX12_image 35 = .ok (.aload_n 0, 1) := by decide +kernel
theorem dX12_image_36 : decode cX12_image 36 = .ok (.aload_n 0, 1) := by decide +kernel
theorem dX12_image_37 : decode cX12_image 37 = .ok (.getfield 290, 3) := by decide +kernel
theorem dX12_image_40 : decode cX12_image 40 = .ok (.putfield 440, 3) := by decide +kernel
theorem dX12_image_43 : decode cX12_image 43 = .ok (.aload_n 0, 1) := by decide +kernel
theorem dX12_image_44 : decode cX12_image 44 = .ok (.aload_n 0, 1) := by decide +kernel
theorem dX12_image_45 : decode cX12_image 45 = .ok (.getfield 293, 3) := by decide +kernel
theorem dX12_image_48 : decode cX12_image 48 = .ok (.putfield 443, 3) := by decide +kernel
theorem dX12_image_51 : decode cX12_image 51 = .ok (.aload_n 0, 1) := by decide +kernel
theorem dX12_image_52 : decode cX12_image 52 = .ok (.aload_n 0, 1) := by decide +kernel
theorem dX12_image_53 : decode cX12_image 53 = .ok (.getfield 330, 3) := by decide +kernel
theorem dX12_image_56 : decode cX12_image 56 = .ok (.putfield 446, 3) := by decide +kernel
theorem dX12_image_59 : decode cX12_image 59 = .ok (.aload_n 0, 1) := by decide +kernel
theorem dX12_image_60 : decode cX12_image 60 = .ok (.iconst 1, 1) := by decide +kernel
theorem dX12_image_61 : decode cX12_image 61 = .ok (.putfield 302, 3) := by decide +kernel
theorem dX12_image_64 : decode cX12_image 64 = .ok (.aload_n 0, 1) := by decide +kernel
theorem dX12_image_65 : decode cX12_image 65 = .ok (.getfield 293, 3) := by decide +kernel
theorem dX12_image_68 : decode cX12_image 68 = .ok (.ireturn, 1) := by decide +kernel
set_option maxRecDepth 100000 in
theorem u_X12_image_11 {x : sm_Cx} {n : Nat} {F : Int32 → sm_MI → sm_ML → Prop} {T : List sm_Sh} {I : sm_MI} {L : sm_ML} {a1 : Int32} (hB : sm_Bs T) (hx : sm_Ok x mX12_image n (sm_KI T F))
    (h : (8 ≤ a1 → ∀ I1 : sm_MI, I1 = (sm_uI I 76 57 (I 76 33)) → ∀ I2 : sm_MI, I2 = (sm_uI (sm_uI I1 76 58 (I1 76 34)) 76 60 (sm_z true)) → F (I2 76 34) I2 (sm_uL L 76 59 (L 76 36))) ∧ (¬ 8 ≤ a1 → vp_in a1 8 ∧ (vp_in a1 8 ∧ (sm_V x 0 0 T (sm_uI I 108 (Int32.toNatClampNeg (a1)) (I 92 (Int32.toNatClampNeg (a1)))) L 11 [some (.ref 76), some (.int (a1 + 1))] [])))) :
    sm_V x 0 0 T I L 11 [some (.ref 76), some (.int a1)] [] :=
  sm_iload_n (z := a1) hx dX12_image_11 rfl (sm_bipush (v := 8) hx dX12_image_12 sm_kb_8 (sm_icmpge (a := a1) (b := 8) hx dX12_image_14 (tgt := 35) (by decide) (fun q1 => sm_aload_n (z := 76) hx dX12_image_35 rfl (sm_aload_n (z := 76) hx dX12_image_36 rfl (sm_getI hx dX12_image_37 fl_X12_290_12 (t_76 hB) rfl (sm_putI hx dX12_image_40 fl_X12_440_12 (t_76 hB) rfl (sm_aload_n (z := 76) hx dX12_image_43 rfl (sm_aload_n (z := 76) hx dX12_image_44 rfl (sm_getI hx dX12_image_45 fl_X12_293_12 (t_76 hB) rfl (sm_putI hx dX12_image_48 fl_X12_443_12 (t_76 hB) rfl (sm_aload_n (z := 76) hx dX12_image_51 rfl (sm_aload_n (z := 76) hx dX12_image_52 rfl (sm_getL hx dX12_image_53 fl_X12_330_12 (t_76 hB) rfl (sm_putL hx dX12_image_56 fl_X12_446_12 (t_76 hB) rfl (sm_aload_n (z := 76) hx dX12_image_59 rfl (sm_iconst (v := 1) hx dX12_image_60 sm_kc_1 (sm_putZ (b := true) hx dX12_image_61 fl_X12_302_12 (t_76 hB) rfl (sm_aload_n (z := 76) hx dX12_image_64 rfl (sm_getI hx dX12_image_65 fl_X12_293_12 (t_76 hB) rfl (sm_iretI hx dX12_image_68 rfl (((h.1 q1) _ rfl) _ rfl))))))))))))))))))) (fun q1 => sm_aload_n (z := 76) hx dX12_image_17 rfl (sm_getR hx dX12_image_18 fl_X12_109_12 (t_76 hB) rfl (sm_iload_n (z := a1) hx dX12_image_21 rfl (sm_aload_n (z := 76) hx dX12_image_22 rfl (sm_getR hx dX12_image_23 fl_X12_55_12 (t_76 hB) rfl (sm_iload_n (z := a1) hx dX12_image_26 rfl (sm_iald (i := a1) hx dX12_image_27 (t_92 hB) (h.2 q1).1 (sm_iast (i := a1) (v := (I 92 (Int32.toNatClampNeg (a1)))) hx dX12_image_28 (t_108 hB) (h.2 q1).2.1 (sm_iinc (ls' := [some (.ref 76), some (.int (a1 + 1))]) (z := a1) (v := (a1 + 1)) hx dX12_image_29 rfl (sm_kii_1 _) (by decide) rfl (sm_goto hx dX12_image_32 (tgt := 11) (by decide) ((h.2 q1).2.2)))))))))))))
set_option maxRecDepth 100000 in
theorem c_X12_image {n : Nat} {F : Int32 → sm_MI → sm_ML → Prop} {T : List sm_Sh} {I : sm_MI} {L : sm_ML}  (hB : sm_Bs T)
    (h : ∀ x : sm_Cx, sm_Ok x mX12_image n (sm_KI T F) → (¬ (I 76 26) = 0 → sm_V x 0 0 T I L 11 [some (.ref 76), some (.int 0)] []) ∧ ((I 76 26) = 0 → F (-1) I L)) :
    sm_CI n mX12_image T I L [.ref 76] F :=
  sm_CI.of (by decide +kernel) rfl (fun x hx => show sm_V x 0 0 T I L 0 [some (.ref 76), none] [] from
  sm_aload_n (z := 76) hx dX12_image_0 rfl (sm_getI hx dX12_image_1 fl_X12_275_12 (t_76 hB) rfl (sm_ifne (a := (I 76 26)) hx dX12_image_4 (tgt := 9) (by decide) (fun q2 => sm_iconst (v := 0) hx dX12_image_9 sm_kc_0 (sm_istore_n (ls' := [some (.ref 76), some (.int 0)]) hx dX12_image_10 (by decide) rfl (((h x hx).1 q2)))) (fun q2 => sm_iconst (v := (-1)) hx dX12_image_7 sm_kc_m1 (sm_iretI hx dX12_image_8 rfl ((h x hx).2 q2))))))
theorem dX12_back_0 : decode cX12_back 0 = .ok (.aload_n 0, 1) := by decide +kernel
theorem dX12_back_1 : decode cX12_back 1 = .ok (.getfield 302, 3) := by decide +kernel
theorem dX12_back_4 : decode cX12_back 4 = .ok (.ifCond .ne 5, 3) := by decide +kernel
theorem dX12_back_7 : decode cX12_back 7 = .ok (.iconst (-1), 1) := by decide +kernel
theorem dX12_back_8 : decode cX12_back 8 = .ok (.ireturn, 1) := by decide +kernel
theorem dX12_back_9 : decode cX12_back 9 = .ok (.iconst 0, 1) := by decide +kernel
theorem dX12_back_10 : decode cX12_back 10 = .ok (.istore_n 1, 1) := by decide +kernel
theorem dX12_back_11 : decode cX12_back 11 = .ok (.iload_n 1, 1) := by decide +kernel
theorem dX12_back_12 : decode cX12_back 12 = .ok (.bipush 8, 2) := by decide +kernel
theorem dX12_back_14 : decode cX12_back 14 = .ok (.if_icmp .ge 21, 3) := by decide +kernel
theorem dX12_back_17 : decode cX12_back 17 = .ok (.aload_n 0, 1) := by decide +kernel
theorem dX12_back_18 : decode cX12_back 18 = .ok (.getfield 55, 3) := by decide +kernel
theorem dX12_back_21 : decode cX12_back 21 = .ok (.iload_n 1, 1) := by decide +kernel
theorem dX12_back_22 : decode cX12_back 22 = .ok (.aload_n 0, 1) := by decide +kernel
theorem dX12_back_23 : decode cX12_back 23 = .ok (.getfield 109, 3) := by decide +kernel
theorem dX12_back_26 : decode cX12_back 26 = .ok (.iload_n 1, 1) := by decide +kernel
theorem dX12_back_27 : decode cX12_back 27 = .ok (.iaload, 1) := by decide +kernel
theorem dX12_back_28 : decode cX12_back 28 = .ok (.iastore, 1) := by decide +kernel
theorem dX12_back_29 : decode cX12_back 29 = .ok (.iinc 1 1, 3) := by decide +kernel
theorem dX12_back_32 : decode cX12_back 32 = .ok (.goto (-21), 3) := by decide +kernel
theorem dX12_back_35 : decode cX12_back 35 = .ok (.aload_n 0, 1) := by decide +kernel
theorem dX12_back_36 : decode cX12_back 36 = .ok (.aload_n 0, 1) := by decide +kernel
theorem dX12_back_37 : decode cX12_back 37 = .ok (.getfield 440, 3) := by decide +kernel
theorem dX12_back_40 : decode cX12_back 40 = .ok (.putfield 290, 3) := by decide +kernel
theorem dX12_back_43 : decode cX12_back 43 = .ok (.aload_n 0, 1) := by decide +kernel
theorem dX12_back_44 : decode cX12_back 44 = .ok (.aload_n 0, 1) := by decide +kernel
theorem dX12_back_45 : decode cX12_back 45 = .ok (.getfield 443, 3) := by decide +kernel
theorem dX12_back_48 : decode cX12_back 48 = .ok (.putfield 293, 3) := by decide +kernel
theorem dX12_back_51 : decode cX12_back 51 = .ok (.aload_n 0, 1) := by decide +kernel
theorem dX12_back_52 : decode cX12_back 52 = .ok (.aload_n 0, 1) := by decide +kernel
theorem dX12_back_53 : decode cX12_back 53 = .ok (.getfield 446, 3) := by decide +kernel
theorem dX12_back_56 : decode cX12_back 56 = .ok (.putfield 330, 3) := by decide +kernel
theorem dX12_back_59 : decode cX12_back 59 = .ok (.aload_n 0, 1) := by decide +kernel
theorem dX12_back_60 : decode cX12_back 60 = .ok (.iconst 0, 1) := by decide +kernel
theorem dX12_back_61 : decode cX12_back 61 = .ok (.putfield 296, 3) := by decide +kernel
theorem dX12_back_64 : decode cX12_back 64 = .ok (.aload_n 0, 1) := by decide +kernel
theorem dX12_back_65 : decode cX12_back 65 = .ok (.getfield 293, 3) := by decide +kernel
theorem dX12_back_68 : decode cX12_back 68 = .ok (.ireturn, 1) := by decide +kernel
set_option maxRecDepth 100000 in
theorem u_X12_back_11 {x : sm_Cx} {n : Nat} {F : Int32 → sm_MI → sm_ML → Prop} {T : List sm_Sh} {I : sm_MI} {L : sm_ML} {a1 : Int32} (hB : sm_Bs T) (hx : sm_Ok x mX12_back n (sm_KI T F))
    (h : (8 ≤ a1 → ∀ I1 : sm_MI, I1 = (sm_uI I 76 33 (I 76 57)) → ∀ I2 : sm_MI, I2 = (sm_uI (sm_uI I1 76 34 (I1 76 58)) 76 42 0) → F (I2 76 34) I2 (sm_uL L 76 36 (L 76 59))) ∧ (¬ 8 ≤ a1 → vp_in a1 8 ∧ (vp_in a1 8 ∧ (sm_V x 0 0 T (sm_uI I 92 (Int32.toNatClampNeg (a1)) (I 108 (Int32.toNatClampNeg (a1)))) L 11 [some (.ref 76), some (.int (a1 + 1))] [])))) :
    sm_V x 0 0 T I L 11 [some (.ref 76), some (.int a1)] [] :=
  sm_iload_n (z := a1) hx dX12_back_11 rfl (sm_bipush (v := 8) hx dX12_back_12 sm_kb_8 (sm_icmpge (a := a1) (b := 8) hx dX12_back_14 (tgt := 35) (by decide) (fun q1 => sm_aload_n (z := 76) hx dX12_back_35 rfl (sm_aload_n (z := 76) hx dX12_back_36 rfl (sm_getI hx dX12_back_37 fl_X12_440_12 (t_76 hB) rfl (sm_putI hx dX12_back_40 fl_X12_290_12 (t_76 hB) rfl (sm_aload_n (z := 76) hx dX12_back_43 rfl (sm_aload_n (z := 76) hx dX12_back_44 rfl (sm_getI hx dX12_back_45 fl_X12_443_12 (t_76 hB) rfl (sm_putI hx dX12_back_48 fl_X12_293_12 (t_76 hB) rfl (sm_aload_n (z := 76) hx dX12_back_51 rfl (sm_aload_n (z := 76) hx dX12_back_52 rfl (sm_getL hx dX12_back_53 fl_X12_446_12 (t_76 hB) rfl (sm_putL hx dX12_back_56 fl_X12_330_12 (t_76 hB) rfl (sm_aload_n (z := 76) hx dX12_back_59 rfl (sm_iconst (v := 0) hx dX12_back_60 sm_kc_0 (sm_putI hx dX12_back_61 fl_X12_296_12 (t_76 hB) rfl (sm_aload_n (z := 76) hx dX12_back_64 rfl (sm_getI hx dX12_back_65 fl_X12_293_12 (t_76 hB) rfl (sm_iretI hx dX12_back_68 rfl (((h.1 q1) _ rfl) _ rfl))))))))))))))))))) (fun q1 => sm_aload_n (z := 76) hx dX12_back_17 rfl (sm_getR hx dX12_back_18 fl_X12_55_12 (t_76 hB) rfl (sm_iload_n (z := a1) hx dX12_back_21 rfl (sm_aload_n (z := 76) hx dX12_back_22 rfl (sm_getR hx dX12_back_23 fl_X12_109_12 (t_76 hB) rfl (sm_iload_n (z := a1) hx dX12_back_26 rfl (sm_iald (i := a1) hx dX12_back_27 (t_108 hB) (h.2 q1).1 (sm_iast (i := a1) (v := (I 108 (Int32.toNatClampNeg (a1)))) hx dX12_back_28 (t_92 hB) (h.2 q1).2.1 (sm_iinc (ls' := [some (.ref 76), some (.int (a1 + 1))]) (z := a1) (v := (a1 + 1)) hx dX12_back_29 rfl (sm_kii_1 _) (by decide) rfl (sm_goto hx dX12_back_32 (tgt := 11) (by decide) ((h.2 q1).2.2)))))))))))))
set_option maxRecDepth 100000 in
theorem c_X12_back {n : Nat} {F : Int32 → sm_MI → sm_ML → Prop} {T : List sm_Sh} {I : sm_MI} {L : sm_ML}  (hB : sm_Bs T)
    (h : ∀ x : sm_Cx, sm_Ok x mX12_back n (sm_KI T F) → (¬ (I 76 60) = 0 → sm_V x 0 0 T I L 11 [some (.ref 76), some (.int 0)] []) ∧ ((I 76 60) = 0 → F (-1) I L)) :
    sm_CI n mX12_back T I L [.ref 76] F :=
  sm_CI.of (by decide +kernel) rfl (fun x hx => show sm_V x 0 0 T I L 0 [some (.ref 76), none] [] from
  sm_aload_n (z := 76) hx dX12_back_0 rfl (sm_getI hx dX12_back_1 fl_X12_302_12 (t_76 hB) rfl (sm_ifne (a := (I 76 60)) hx dX12_back_4 (tgt := 9) (by decide) (fun q2 => sm_iconst (v := 0) hx dX12_back_9 sm_kc_0 (sm_istore_n (ls' := [some (.ref 76), some (.int 0)]) hx dX12_back_10 (by decide) rfl (((h x hx).1 q2)))) (fun q2 => sm_iconst (v := (-1)) hx dX12_back_7 sm_kc_m1 (sm_iretI hx dX12_back_8 rfl ((h x hx).2 q2))))))
theorem dX12_count_0 : decode cX12_count 0 = .ok (.iload_n 1, 1) := by decide +kernel
theorem dX12_count_1 : decode cX12_count 1 = .ok (.tableswitch 105 0 9 #[55, 60, 65, 70, 75, 80, 85, 90, 95, 100], 55) := by decide +kernel
theorem dX12_count_56 : decode cX12_count 56 = .ok (.aload_n 0, 1) := by decide +kernel
theorem dX12_count_57 : decode cX12_count 57 = .ok (.getfield 275, 3) := by decide +kernel
theorem dX12_count_60 : decode cX12_count 60 = .ok (.ireturn, 1) := by decide +kernel
theorem dX12_count_61 : decode cX12_count 61 = .ok (.aload_n 0, 1) := by decide +kernel
theorem dX12_count_62 : decode cX12_count 62 = .ok (.getfield 278, 3) := by decide +kernel
theorem dX12_count_65 : decode cX12_count 65 = .ok (.ireturn, 1) := by decide +kernel
theorem dX12_count_66 : decode cX12_count 66 = .ok (.aload_n 0, 1) := by decide +kernel
theorem dX12_count_67 : decode cX12_count 67 = .ok (.getfield 281, 3) := by decide +kernel
theorem dX12_count_70 : decode cX12_count 70 = .ok (.ireturn, 1) := by decide +kernel
theorem dX12_count_71 : decode cX12_count 71 = .ok (.aload_n 0, 1) := by decide +kernel
theorem dX12_count_72 : decode cX12_count 72 = .ok (.getfield 309, 3) := by decide +kernel
theorem dX12_count_75 : decode cX12_count 75 = .ok (.ireturn, 1) := by decide +kernel
theorem dX12_count_76 : decode cX12_count 76 = .ok (.aload_n 0, 1) := by decide +kernel
theorem dX12_count_77 : decode cX12_count 77 = .ok (.getfield 119, 3) := by decide +kernel
theorem dX12_count_80 : decode cX12_count 80 = .ok (.ireturn, 1) := by decide +kernel
theorem dX12_count_81 : decode cX12_count 81 = .ok (.aload_n 0, 1) := by decide +kernel
theorem dX12_count_82 : decode cX12_count 82 = .ok (.getfield 293, 3) := by decide +kernel
theorem dX12_count_85 : decode cX12_count 85 = .ok (.ireturn, 1) := by decide +kernel
theorem dX12_count_86 : decode cX12_count 86 = .ok (.aload_n 0, 1) := by decide +kernel
theorem dX12_count_87 : decode cX12_count 87 = .ok (.getfield 284, 3) := by decide +kernel
theorem dX12_count_90 : decode cX12_count 90 = .ok (.ireturn, 1) := by decide +kernel
theorem dX12_count_91 : decode cX12_count 91 = .ok (.aload_n 0, 1) := by decide +kernel
theorem dX12_count_92 : decode cX12_count 92 = .ok (.getfield 299, 3) := by decide +kernel
theorem dX12_count_95 : decode cX12_count 95 = .ok (.ireturn, 1) := by decide +kernel
theorem dX12_count_96 : decode cX12_count 96 = .ok (.aload_n 0, 1) := by decide +kernel
theorem dX12_count_97 : decode cX12_count 97 = .ok (.getfield 296, 3) := by decide +kernel
theorem dX12_count_100 : decode cX12_count 100 = .ok (.ireturn, 1) := by decide +kernel
theorem dX12_count_101 : decode cX12_count 101 = .ok (.aload_n 0, 1) := by decide +kernel
theorem dX12_count_102 : decode cX12_count 102 = .ok (.getfield 290, 3) := by decide +kernel
theorem dX12_count_105 : decode cX12_count 105 = .ok (.ireturn, 1) := by decide +kernel
theorem dX12_count_106 : decode cX12_count 106 = .ok (.ldc_w 394, 3) := by decide +kernel
theorem dX12_count_109 : decode cX12_count 109 = .ok (.ireturn, 1) := by decide +kernel
set_option maxRecDepth 100000 in
theorem c_X12_count {n : Nat} {F : Int32 → sm_MI → sm_ML → Prop} {T : List sm_Sh} {I : sm_MI} {L : sm_ML} {a1 : Int32} (hB : sm_Bs T)
    (h : (a1 = 0 → F (I 76 26) I L) ∧ (a1 = 1 → F (I 76 27) I L) ∧ (a1 = 2 → F (I 76 28) I L) ∧ (a1 = 3 → F (I 76 13) I L) ∧ (a1 = 4 → F (I 76 2) I L) ∧ (a1 = 5 → F (I 76 34) I L) ∧ (a1 = 6 → F (I 76 29) I L) ∧ (a1 = 7 → F (I 76 51) I L) ∧ (a1 = 8 → F (I 76 42) I L) ∧ (a1 = 9 → F (I 76 33) I L) ∧ (¬ a1 = 0 ∧ ¬ a1 = 1 ∧ ¬ a1 = 2 ∧ ¬ a1 = 3 ∧ ¬ a1 = 4 ∧ ¬ a1 = 5 ∧ ¬ a1 = 6 ∧ ¬ a1 = 7 ∧ ¬ a1 = 8 ∧ ¬ a1 = 9 → F (-1000000) I L)) :
    sm_CI n mX12_count T I L [.ref 76, .int a1] F :=
  sm_CI.of (by decide +kernel) rfl (fun x hx => show sm_V x 0 0 T I L 0 [some (.ref 76), some (.int a1)] [] from
  sm_iload_n (z := a1) hx dX12_count_0 rfl (sm_tsw (a := a1) hx dX12_count_1 (by decide) (fun i hi q1 => match i, hi, q1 with | 0, _, q1 => ⟨55, 56, rfl, by decide, sm_aload_n (z := 76) hx dX12_count_56 rfl (sm_getI hx dX12_count_57 fl_X12_275_12 (t_76 hB) rfl (sm_iretI hx dX12_count_60 rfl (h.1 (sm_ti q1 (by decide)))))⟩ | 1, _, q1 => ⟨60, 61, rfl, by decide, sm_aload_n (z := 76) hx dX12_count_61 rfl (sm_getI hx dX12_count_62 fl_X12_278_12 (t_76 hB) rfl (sm_iretI hx dX12_count_65 rfl (h.2.1 (sm_ti q1 (by decide)))))⟩ | 2, _, q1 => ⟨65, 66, rfl, by decide, sm_aload_n (z := 76) hx dX12_count_66 rfl (sm_getI hx dX12_count_67 fl_X12_281_12 (t_76 hB) rfl (sm_iretI hx dX12_count_70 rfl (h.2.2.1 (sm_ti q1 (by decide)))))⟩ | 3, _, q1 => ⟨70, 71, rfl, by decide, sm_aload_n (z := 76) hx dX12_count_71 rfl (sm_getI hx dX12_count_72 fl_X12_309_12 (t_76 hB) rfl (sm_iretI hx dX12_count_75 rfl (h.2.2.2.1 (sm_ti q1 (by decide)))))⟩ | 4, _, q1 => ⟨75, 76, rfl, by decide, sm_aload_n (z := 76) hx dX12_count_76 rfl (sm_getI hx dX12_count_77 fl_X12_119_12 (t_76 hB) rfl (sm_iretI hx dX12_count_80 rfl (h.2.2.2.2.1 (sm_ti q1 (by decide)))))⟩ | 5, _, q1 => ⟨80, 81, rfl, by decide, sm_aload_n (z := 76) hx dX12_count_81 rfl (sm_getI hx dX12_count_82 fl_X12_293_12 (t_76 hB) rfl (sm_iretI hx dX12_count_85 rfl (h.2.2.2.2.2.1 (sm_ti q1 (by decide)))))⟩ | 6, _, q1 => ⟨85, 86, rfl, by decide, sm_aload_n (z := 76) hx dX12_count_86 rfl (sm_getI hx dX12_count_87 fl_X12_284_12 (t_76 hB) rfl (sm_iretI hx dX12_count_90 rfl (h.2.2.2.2.2.2.1 (sm_ti q1 (by decide)))))⟩ | 7, _, q1 => ⟨90, 91, rfl, by decide, sm_aload_n (z := 76) hx dX12_count_91 rfl (sm_getI hx dX12_count_92 fl_X12_299_12 (t_76 hB) rfl (sm_iretI hx dX12_count_95 rfl (h.2.2.2.2.2.2.2.1 (sm_ti q1 (by decide)))))⟩ | 8, _, q1 => ⟨95, 96, rfl, by decide, sm_aload_n (z := 76) hx dX12_count_96 rfl (sm_getI hx dX12_count_97 fl_X12_296_12 (t_76 hB) rfl (sm_iretI hx dX12_count_100 rfl (h.2.2.2.2.2.2.2.2.1 (sm_ti q1 (by decide)))))⟩ | 9, _, q1 => ⟨100, 101, rfl, by decide, sm_aload_n (z := 76) hx dX12_count_101 rfl (sm_getI hx dX12_count_102 fl_X12_290_12 (t_76 hB) rfl (sm_iretI hx dX12_count_105 rfl (h.2.2.2.2.2.2.2.2.2.1 (sm_ti q1 (by decide)))))⟩ | i + 10, hi, _ => absurd hi (Nat.not_lt.mpr (Nat.le_add_left 10 i))) (fun hhq1 => ⟨106, by decide, sm_ldcw (v := (-1000000)) hx dX12_count_106 k_X12_394 (sm_iretI hx dX12_count_109 rfl (h.2.2.2.2.2.2.2.2.2.2 ⟨fun e => hhq1 0 (by decide) (by rw [e]; decide), fun e => hhq1 1 (by decide) (by rw [e]; decide), fun e => hhq1 2 (by decide) (by rw [e]; decide), fun e => hhq1 3 (by decide) (by rw [e]; decide), fun e => hhq1 4 (by decide) (by rw [e]; decide), fun e => hhq1 5 (by decide) (by rw [e]; decide), fun e => hhq1 6 (by decide) (by rw [e]; decide), fun e => hhq1 7 (by decide) (by rw [e]; decide), fun e => hhq1 8 (by decide) (by rw [e]; decide), fun e => hhq1 9 (by decide) (by rw [e]; decide)⟩))⟩)))
