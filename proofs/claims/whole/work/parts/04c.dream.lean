/-! METHODS (dream), laid by program (wip/gen): what each instruction is, and between cut points what the walk asks. -/
theorem dX0_begin_0 : decode cX0_begin 0 = .ok (.aload_n 0, 1) := by decide +kernel
theorem dX0_begin_1 : decode cX0_begin 1 = .ok (.aload_n 1, 1) := by decide +kernel
theorem dX0_begin_2 : decode cX0_begin 2 = .ok (.invokevirtual 81, 3) := by decide +kernel
theorem dX0_begin_5 : decode cX0_begin 5 = .ok (.aload_n 0, 1) := by decide +kernel
theorem dX0_begin_6 : decode cX0_begin 6 = .ok (.getfield 16, 3) := by decide +kernel
theorem dX0_begin_9 : decode cX0_begin 9 = .ok (.iconst (-1), 1) := by decide +kernel
theorem dX0_begin_10 : decode cX0_begin 10 = .ok (.invokevirtual 85, 3) := by decide +kernel
theorem dX0_begin_13 : decode cX0_begin 13 = .ok (.aload_n 0, 1) := by decide +kernel
theorem dX0_begin_14 : decode cX0_begin 14 = .ok (.getfield 20, 3) := by decide +kernel
theorem dX0_begin_17 : decode cX0_begin 17 = .ok (.iconst 0, 1) := by decide +kernel
theorem dX0_begin_18 : decode cX0_begin 18 = .ok (.invokevirtual 85, 3) := by decide +kernel
theorem dX0_begin_21 : decode cX0_begin 21 = .ok (.aload_n 0, 1) := by decide +kernel
theorem dX0_begin_22 : decode cX0_begin 22 = .ok (.getfield 23, 3) := by decide +kernel
theorem dX0_begin_25 : decode cX0_begin 25 = .ok (.iconst 0, 1) := by decide +kernel
theorem dX0_begin_26 : decode cX0_begin 26 = .ok (.invokevirtual 85, 3) := by decide +kernel
theorem dX0_begin_29 : decode cX0_begin 29 = .ok (.aload_n 0, 1) := by decide +kernel
theorem dX0_begin_30 : decode cX0_begin 30 = .ok (.iconst 0, 1) := by decide +kernel
theorem dX0_begin_31 : decode cX0_begin 31 = .ok (.putfield 26, 3) := by decide +kernel
theorem dX0_begin_34 : decode cX0_begin 34 = .ok (.aload_n 0, 1) := by decide +kernel
theorem dX0_begin_35 : decode cX0_begin 35 = .ok (.iconst (-1), 1) := by decide +kernel
theorem dX0_begin_36 : decode cX0_begin 36 = .ok (.putfield 30, 3) := by decide +kernel
theorem dX0_begin_39 : decode cX0_begin 39 = .ok (.aload_n 0, 1) := by decide +kernel
theorem dX0_begin_40 : decode cX0_begin 40 = .ok (.iconst (-1), 1) := by decide +kernel
theorem dX0_begin_41 : decode cX0_begin 41 = .ok (.putfield 33, 3) := by decide +kernel
theorem dX0_begin_44 : decode cX0_begin 44 = .ok (.return_, 1) := by decide +kernel
set_option maxRecDepth 100000 in
theorem c_X0_begin {n : Nat} {F : sm_MI → sm_ML → Prop} {T : List sm_Sh} {I : sm_MI} {L : sm_ML}  (hB : sm_Bs T)
    (h : sm_CV n mX7_copy T I L [.ref 53, .ref 35] (fun I1 L1 => sm_CV n mX3_fill T I1 L1 [.ref 54, .int (-1)] (fun I2 L2 => sm_CV n mX3_fill T I2 L2 [.ref 56, .int 0] (fun I3 L3 => sm_CV n mX3_fill T I3 L3 [.ref 58, .int 0] (fun I4 L4 => F (sm_uI (sm_uI (sm_uI I4 53 9 0) 53 10 (-1)) 53 11 (-1)) L4))))) :
    sm_CV (n + 1) mX0_begin T I L [.ref 53, .ref 35] F :=
  sm_CV.of (by decide +kernel) rfl (fun x hx => show sm_V x 0 0 T I L 0 [some (.ref 53), some (.ref 35)] [] from
  sm_aload_n (z := 53) hx dX0_begin_0 rfl (sm_aload_n (z := 35) hx dX0_begin_1 rfl (sm_callUV (args := [.ref 35]) (st := []) hx dX0_begin_2 lu_X0_81_1 rfl rfl (t_53 hB) rfl rfl h (fun I1 L1 hI1 => sm_aload_n (z := 53) hx dX0_begin_5 rfl (sm_getR hx dX0_begin_6 fl_X0_16_1 (t_53 hB) rfl (sm_iconst (v := (-1)) hx dX0_begin_9 sm_kc_m1 (sm_callVV (args := [.int (-1)]) (st := []) hx dX0_begin_10 lv_X0_85_3 rfl rfl (t_54 hB) rfl rfl hI1 (fun I2 L2 hI2 => sm_aload_n (z := 53) hx dX0_begin_13 rfl (sm_getR hx dX0_begin_14 fl_X0_20_1 (t_53 hB) rfl (sm_iconst (v := 0) hx dX0_begin_17 sm_kc_0 (sm_callVV (args := [.int 0]) (st := []) hx dX0_begin_18 lv_X0_85_3 rfl rfl (t_56 hB) rfl rfl hI2 (fun I3 L3 hI3 => sm_aload_n (z := 53) hx dX0_begin_21 rfl (sm_getR hx dX0_begin_22 fl_X0_23_1 (t_53 hB) rfl (sm_iconst (v := 0) hx dX0_begin_25 sm_kc_0 (sm_callVV (args := [.int 0]) (st := []) hx dX0_begin_26 lv_X0_85_3 rfl rfl (t_58 hB) rfl rfl hI3 (fun I4 L4 hI4 => sm_aload_n (z := 53) hx dX0_begin_29 rfl (sm_iconst (v := 0) hx dX0_begin_30 sm_kc_0 (sm_putI hx dX0_begin_31 fl_X0_26_1 (t_53 hB) rfl (sm_aload_n (z := 53) hx dX0_begin_34 rfl (sm_iconst (v := (-1)) hx dX0_begin_35 sm_kc_m1 (sm_putI hx dX0_begin_36 fl_X0_30_1 (t_53 hB) rfl (sm_aload_n (z := 53) hx dX0_begin_39 rfl (sm_iconst (v := (-1)) hx dX0_begin_40 sm_kc_m1 (sm_putI hx dX0_begin_41 fl_X0_33_1 (t_53 hB) rfl (sm_vretV hx dX0_begin_44 rfl hI4)))))))))))))))))))))))))
theorem dX0_forgetWorths_0 : decode cX0_forgetWorths 0 = .ok (.aload_n 0, 1) := by decide +kernel
theorem dX0_forgetWorths_1 : decode cX0_forgetWorths 1 = .ok (.getfield 70, 3) := by decide +kernel
theorem dX0_forgetWorths_4 : decode cX0_forgetWorths 4 = .ok (.iconst (-1), 1) := by decide +kernel
theorem dX0_forgetWorths_5 : decode cX0_forgetWorths 5 = .ok (.invokevirtual 85, 3) := by decide +kernel
theorem dX0_forgetWorths_8 : decode cX0_forgetWorths 8 = .ok (.return_, 1) := by decide +kernel
set_option maxRecDepth 100000 in
theorem c_X0_forgetWorths {n : Nat} {F : sm_MI → sm_ML → Prop} {T : List sm_Sh} {I : sm_MI} {L : sm_ML}  (hB : sm_Bs T)
    (h : sm_CV n mX3_fill T I L [.ref 66, .int (-1)] (fun I1 L1 => F I1 L1)) :
    sm_CV (n + 1) mX0_forgetWorths T I L [.ref 53] F :=
  sm_CV.of (by decide +kernel) rfl (fun x hx => show sm_V x 0 0 T I L 0 [some (.ref 53)] [] from
  sm_aload_n (z := 53) hx dX0_forgetWorths_0 rfl (sm_getR hx dX0_forgetWorths_1 fl_X0_70_1 (t_53 hB) rfl (sm_iconst (v := (-1)) hx dX0_forgetWorths_4 sm_kc_m1 (sm_callVV (args := [.int (-1)]) (st := []) hx dX0_forgetWorths_5 lv_X0_85_3 rfl rfl (t_66 hB) rfl rfl h (fun I1 L1 hI1 => sm_vretV hx dX0_forgetWorths_8 rfl hI1)))))
theorem dX0_goOn_0 : decode cX0_goOn 0 = .ok (.iconst 0, 1) := by decide +kernel
theorem dX0_goOn_1 : decode cX0_goOn 1 = .ok (.istore_n 2, 1) := by decide +kernel
theorem dX0_goOn_2 : decode cX0_goOn 2 = .ok (.iload_n 2, 1) := by decide +kernel
theorem dX0_goOn_3 : decode cX0_goOn 3 = .ok (.iload_n 1, 1) := by decide +kernel
theorem dX0_goOn_4 : decode cX0_goOn 4 = .ok (.if_icmp .ge 13, 3) := by decide +kernel
theorem dX0_goOn_7 : decode cX0_goOn 7 = .ok (.aload_n 0, 1) := by decide +kernel
theorem dX0_goOn_8 : decode cX0_goOn 8 = .ok (.invokevirtual 88, 3) := by decide +kernel
theorem dX0_goOn_11 : decode cX0_goOn 11 = .ok (.iinc 2 1, 3) := by decide +kernel
theorem dX0_goOn_14 : decode cX0_goOn 14 = .ok (.goto (-12), 3) := by decide +kernel
theorem dX0_goOn_17 : decode cX0_goOn 17 = .ok (.return_, 1) := by decide +kernel
set_option maxRecDepth 100000 in
theorem u_X0_goOn_2 {x : sm_Cx} {n : Nat} {F : sm_MI → sm_ML → Prop} {T : List sm_Sh} {I : sm_MI} {L : sm_ML} {a1 : Int32} {a2 : Int32} (hB : sm_Bs T) (hx : sm_Ok x mX0_goOn (n + 1) (sm_KV T F))
    (h : (a1 ≤ a2 → F I L) ∧ (¬ a1 ≤ a2 → sm_CV n mX0_goOneNight T I L [.ref 53] (fun I1 L1 => sm_V x 0 0 T I1 L1 2 [some (.ref 53), some (.int a1), some (.int (a2 + 1))] []))) :
    sm_V x 0 0 T I L 2 [some (.ref 53), some (.int a1), some (.int a2)] [] :=
  sm_iload_n (z := a2) hx dX0_goOn_2 rfl (sm_iload_n (z := a1) hx dX0_goOn_3 rfl (sm_icmpge (a := a2) (b := a1) hx dX0_goOn_4 (tgt := 17) (by decide) (fun q1 => sm_vretV hx dX0_goOn_17 rfl (h.1 q1)) (fun q1 => sm_aload_n (z := 53) hx dX0_goOn_7 rfl (sm_callVV (args := []) (st := []) hx dX0_goOn_8 lv_X0_88_1 rfl rfl (t_53 hB) rfl rfl (h.2 q1) (fun I1 L1 hI1 => sm_iinc (ls' := [some (.ref 53), some (.int a1), some (.int (a2 + 1))]) (z := a2) (v := (a2 + 1)) hx dX0_goOn_11 rfl (sm_kii_1 _) (by decide) rfl (sm_goto hx dX0_goOn_14 (tgt := 2) (by decide) (hI1)))))))
set_option maxRecDepth 100000 in
theorem c_X0_goOn {n : Nat} {F : sm_MI → sm_ML → Prop} {T : List sm_Sh} {I : sm_MI} {L : sm_ML} {a1 : Int32} (hB : sm_Bs T)
    (h : ∀ x : sm_Cx, sm_Ok x mX0_goOn (n + 1) (sm_KV T F) → sm_V x 0 0 T I L 2 [some (.ref 53), some (.int a1), some (.int 0)] []) :
    sm_CV (n + 1) mX0_goOn T I L [.ref 53, .int a1] F :=
  sm_CV.of (by decide +kernel) rfl (fun x hx => show sm_V x 0 0 T I L 0 [some (.ref 53), some (.int a1), none] [] from
  sm_iconst (v := 0) hx dX0_goOn_0 sm_kc_0 (sm_istore_n (ls' := [some (.ref 53), some (.int a1), some (.int 0)]) hx dX0_goOn_1 (by decide) rfl ((h x hx))))
theorem dX0_goOneNight_0 : decode cX0_goOneNight 0 = .ok (.iconst 0, 1) := by decide +kernel
theorem dX0_goOneNight_1 : decode cX0_goOneNight 1 = .ok (.istore_n 1, 1) := by decide +kernel
theorem dX0_goOneNight_2 : decode cX0_goOneNight 2 = .ok (.iload_n 1, 1) := by decide +kernel
theorem dX0_goOneNight_3 : decode cX0_goOneNight 3 = .ok (.aload_n 0, 1) := by decide +kernel
theorem dX0_goOneNight_4 : decode cX0_goOneNight 4 = .ok (.getfield 73, 3) := by decide +kernel
theorem dX0_goOneNight_7 : decode cX0_goOneNight 7 = .ok (.getfield 91, 3) := by decide +kernel
theorem dX0_goOneNight_10 : decode cX0_goOneNight 10 = .ok (.if_icmp .ge 14, 3) := by decide +kernel
theorem dX0_goOneNight_13 : decode cX0_goOneNight 13 = .ok (.aload_n 0, 1) := by decide +kernel
theorem dX0_goOneNight_14 : decode cX0_goOneNight 14 = .ok (.iload_n 1, 1) := by decide +kernel
theorem dX0_goOneNight_15 : decode cX0_goOneNight 15 = .ok (.invokevirtual 96, 3) := by decide +kernel
theorem dX0_goOneNight_18 : decode cX0_goOneNight 18 = .ok (.iinc 1 1, 3) := by decide +kernel
theorem dX0_goOneNight_21 : decode cX0_goOneNight 21 = .ok (.goto (-19), 3) := by decide +kernel
theorem dX0_goOneNight_24 : decode cX0_goOneNight 24 = .ok (.aload_n 0, 1) := by decide +kernel
theorem dX0_goOneNight_25 : decode cX0_goOneNight 25 = .ok (.getfield 33, 3) := by decide +kernel
theorem dX0_goOneNight_28 : decode cX0_goOneNight 28 = .ok (.iconst (-1), 1) := by decide +kernel
theorem dX0_goOneNight_29 : decode cX0_goOneNight 29 = .ok (.if_icmp .eq 34, 3) := by decide +kernel
theorem dX0_goOneNight_32 : decode cX0_goOneNight 32 = .ok (.aload_n 0, 1) := by decide +kernel
theorem dX0_goOneNight_33 : decode cX0_goOneNight 33 = .ok (.aload_n 0, 1) := by decide +kernel
theorem dX0_goOneNight_34 : decode cX0_goOneNight 34 = .ok (.getfield 73, 3) := by decide +kernel
theorem dX0_goOneNight_37 : decode cX0_goOneNight 37 = .ok (.getfield 91, 3) := by decide +kernel
theorem dX0_goOneNight_40 : decode cX0_goOneNight 40 = .ok (.aload_n 0, 1) := by decide +kernel
theorem dX0_goOneNight_41 : decode cX0_goOneNight 41 = .ok (.getfield 33, 3) := by decide +kernel
theorem dX0_goOneNight_44 : decode cX0_goOneNight 44 = .ok (.aload_n 0, 1) := by decide +kernel
theorem dX0_goOneNight_45 : decode cX0_goOneNight 45 = .ok (.getfield 73, 3) := by decide +kernel
theorem dX0_goOneNight_48 : decode cX0_goOneNight 48 = .ok (.aload_n 0, 1) := by decide +kernel
theorem dX0_goOneNight_49 : decode cX0_goOneNight 49 = .ok (.getfield 33, 3) := by decide +kernel
theorem dX0_goOneNight_52 : decode cX0_goOneNight 52 = .ok (.aload_n 0, 1) := by decide +kernel
theorem dX0_goOneNight_53 : decode cX0_goOneNight 53 = .ok (.getfield 36, 3) := by decide +kernel
theorem dX0_goOneNight_56 : decode cX0_goOneNight 56 = .ok (.invokevirtual 99, 3) := by decide +kernel
theorem dX0_goOneNight_59 : decode cX0_goOneNight 59 = .ok (.iconst 0, 1) := by decide +kernel
theorem dX0_goOneNight_60 : decode cX0_goOneNight 60 = .ok (.invokevirtual 103, 3) := by decide +kernel
theorem dX0_goOneNight_63 : decode cX0_goOneNight 63 = .ok (.aload_n 0, 1) := by decide +kernel
theorem dX0_goOneNight_64 : decode cX0_goOneNight 64 = .ok (.dup, 1) := by decide +kernel
theorem dX0_goOneNight_65 : decode cX0_goOneNight 65 = .ok (.getfield 107, 3) := by decide +kernel
theorem dX0_goOneNight_68 : decode cX0_goOneNight 68 = .ok (.iconst 1, 1) := by decide +kernel
theorem dX0_goOneNight_69 : decode cX0_goOneNight 69 = .ok (.iadd, 1) := by decide +kernel
theorem dX0_goOneNight_70 : decode cX0_goOneNight 70 = .ok (.putfield 107, 3) := by decide +kernel
theorem dX0_goOneNight_73 : decode cX0_goOneNight 73 = .ok (.return_, 1) := by decide +kernel
set_option maxRecDepth 100000 in
theorem u_X0_goOneNight_2 {x : sm_Cx} {n : Nat} {F : sm_MI → sm_ML → Prop} {T : List sm_Sh} {I : sm_MI} {L : sm_ML} {a1 : Int32} (hB : sm_Bs T) (hx : sm_Ok x mX0_goOneNight (n + 1) (sm_KV T F))
    (h : ((I 24 1) ≤ a1 → ((I 53 11) = (-1) → F (sm_uI I 53 1 ((I 53 1) + 1)) L) ∧ (¬ (I 53 11) = (-1) → sm_CI n mX8_around T I L [.ref 24, .int (I 53 11), .int (I 53 12)] (fun r2 I1 L1 => sm_CV n mX0_carry T I1 L1 [.ref 53, .int (I 24 1), .int (I 53 11), .int r2, .int (sm_z false)] (fun I3 L3 => F (sm_uI I3 53 1 ((I3 53 1) + 1)) L3)))) ∧ (¬ (I 24 1) ≤ a1 → sm_CV n mX0_walk T I L [.ref 53, .int a1] (fun I4 L4 => sm_V x 0 0 T I4 L4 2 [some (.ref 53), some (.int (a1 + 1))] []))) :
    sm_V x 0 0 T I L 2 [some (.ref 53), some (.int a1)] [] :=
  sm_iload_n (z := a1) hx dX0_goOneNight_2 rfl (sm_aload_n (z := 53) hx dX0_goOneNight_3 rfl (sm_getR hx dX0_goOneNight_4 fl_X0_73_1 (t_53 hB) rfl (sm_getI hx dX0_goOneNight_7 fl_X0_91_8 (t_24 hB) rfl (sm_icmpge (a := a1) (b := (I 24 1)) hx dX0_goOneNight_10 (tgt := 24) (by decide) (fun q2 => sm_aload_n (z := 53) hx dX0_goOneNight_24 rfl (sm_getI hx dX0_goOneNight_25 fl_X0_33_1 (t_53 hB) rfl (sm_iconst (v := (-1)) hx dX0_goOneNight_28 sm_kc_m1 (sm_icmpeq (a := (I 53 11)) (b := (-1)) hx dX0_goOneNight_29 (tgt := 63) (by decide) (fun q1 => sm_aload_n (z := 53) hx dX0_goOneNight_63 rfl (sm_dup hx dX0_goOneNight_64 rfl (sm_getI hx dX0_goOneNight_65 fl_X0_107_1 (t_53 hB) rfl (sm_iconst (v := 1) hx dX0_goOneNight_68 sm_kc_1 (sm_iadd (a := (I 53 1)) (b := 1) hx dX0_goOneNight_69 (sm_putI hx dX0_goOneNight_70 fl_X0_107_1 (t_53 hB) rfl (sm_vretV hx dX0_goOneNight_73 rfl ((h.1 q2).1 q1)))))))) (fun q1 => sm_aload_n (z := 53) hx dX0_goOneNight_32 rfl (sm_aload_n (z := 53) hx dX0_goOneNight_33 rfl (sm_getR hx dX0_goOneNight_34 fl_X0_73_1 (t_53 hB) rfl (sm_getI hx dX0_goOneNight_37 fl_X0_91_8 (t_24 hB) rfl (sm_aload_n (z := 53) hx dX0_goOneNight_40 rfl (sm_getI hx dX0_goOneNight_41 fl_X0_33_1 (t_53 hB) rfl (sm_aload_n (z := 53) hx dX0_goOneNight_44 rfl (sm_getR hx dX0_goOneNight_45 fl_X0_73_1 (t_53 hB) rfl (sm_aload_n (z := 53) hx dX0_goOneNight_48 rfl (sm_getI hx dX0_goOneNight_49 fl_X0_33_1 (t_53 hB) rfl (sm_aload_n (z := 53) hx dX0_goOneNight_52 rfl (sm_getI hx dX0_goOneNight_53 fl_X0_36_1 (t_53 hB) rfl (sm_callVI (args := [.int (I 53 11), .int (I 53 12)]) (st := [.int (I 53 11), .int (I 24 1), .ref 53]) hx dX0_goOneNight_56 lv_X0_99_8 rfl rfl (t_24 hB) rfl rfl ((h.1 q2).2 q1) (fun r2 I1 L1 hI1 => sm_iconst (v := 0) hx dX0_goOneNight_59 sm_kc_0 (sm_callVV (args := [.int (I 24 1), .int (I 53 11), .int r2, .int (sm_z false)]) (st := []) hx dX0_goOneNight_60 lv_X0_103_1 rfl rfl (t_53 hB) rfl rfl hI1 (fun I3 L3 hI3 => sm_aload_n (z := 53) hx dX0_goOneNight_63 rfl (sm_dup hx dX0_goOneNight_64 rfl (sm_getI hx dX0_goOneNight_65 fl_X0_107_1 (t_53 hB) rfl (sm_iconst (v := 1) hx dX0_goOneNight_68 sm_kc_1 (sm_iadd (a := (I3 53 1)) (b := 1) hx dX0_goOneNight_69 (sm_putI hx dX0_goOneNight_70 fl_X0_107_1 (t_53 hB) rfl (sm_vretV hx dX0_goOneNight_73 rfl hI3)))))))))))))))))))))))))) (fun q2 => sm_aload_n (z := 53) hx dX0_goOneNight_13 rfl (sm_iload_n (z := a1) hx dX0_goOneNight_14 rfl (sm_callVV (args := [.int a1]) (st := []) hx dX0_goOneNight_15 lv_X0_96_1 rfl rfl (t_53 hB) rfl rfl (h.2 q2) (fun I4 L4 hI4 => sm_iinc (ls' := [some (.ref 53), some (.int (a1 + 1))]) (z := a1) (v := (a1 + 1)) hx dX0_goOneNight_18 rfl (sm_kii_1 _) (by decide) rfl (sm_goto hx dX0_goOneNight_21 (tgt := 2) (by decide) (hI4))))))))))
set_option maxRecDepth 100000 in
theorem c_X0_goOneNight {n : Nat} {F : sm_MI → sm_ML → Prop} {T : List sm_Sh} {I : sm_MI} {L : sm_ML}  (hB : sm_Bs T)
    (h : ∀ x : sm_Cx, sm_Ok x mX0_goOneNight (n + 1) (sm_KV T F) → sm_V x 0 0 T I L 2 [some (.ref 53), some (.int 0)] []) :
    sm_CV (n + 1) mX0_goOneNight T I L [.ref 53] F :=
  sm_CV.of (by decide +kernel) rfl (fun x hx => show sm_V x 0 0 T I L 0 [some (.ref 53), none] [] from
  sm_iconst (v := 0) hx dX0_goOneNight_0 sm_kc_0 (sm_istore_n (ls' := [some (.ref 53), some (.int 0)]) hx dX0_goOneNight_1 (by decide) rfl ((h x hx))))
theorem dX0_roundKey_0 : decode cX0_roundKey 0 = .ok (.aload_n 0, 1) := by decide +kernel
theorem dX0_roundKey_1 : decode cX0_roundKey 1 = .ok (.getfield 73, 3) := by decide +kernel
theorem dX0_roundKey_4 : decode cX0_roundKey 4 = .ok (.aload_n 0, 1) := by decide +kernel
theorem dX0_roundKey_5 : decode cX0_roundKey 5 = .ok (.getfield 107, 3) := by decide +kernel
theorem dX0_roundKey_8 : decode cX0_roundKey 8 = .ok (.invokevirtual 110, 3) := by decide +kernel
theorem dX0_roundKey_11 : decode cX0_roundKey 11 = .ok (.bipush 24, 2) := by decide +kernel
theorem dX0_roundKey_13 : decode cX0_roundKey 13 = .ok (.ishl, 1) := by decide +kernel
theorem dX0_roundKey_14 : decode cX0_roundKey 14 = .ok (.aload_n 0, 1) := by decide +kernel
theorem dX0_roundKey_15 : decode cX0_roundKey 15 = .ok (.getfield 114, 3) := by decide +kernel
theorem dX0_roundKey_18 : decode cX0_roundKey 18 = .ok (.ior, 1) := by decide +kernel
theorem dX0_roundKey_19 : decode cX0_roundKey 19 = .ok (.ireturn, 1) := by decide +kernel
set_option maxRecDepth 100000 in
theorem c_X0_roundKey {n : Nat} {F : Int32 → sm_MI → sm_ML → Prop} {T : List sm_Sh} {I : sm_MI} {L : sm_ML}  (hB : sm_Bs T)
    (h : sm_CI n mX8_moonStand T I L [.ref 24, .int (I 53 1)] (fun r2 I1 L1 => F ((r2 <<< (24 &&& 31)) ||| (I1 53 0)) I1 L1)) :
    sm_CI (n + 1) mX0_roundKey T I L [.ref 53] F :=
  sm_CI.of (by decide +kernel) rfl (fun x hx => show sm_V x 0 0 T I L 0 [some (.ref 53)] [] from
  sm_aload_n (z := 53) hx dX0_roundKey_0 rfl (sm_getR hx dX0_roundKey_1 fl_X0_73_1 (t_53 hB) rfl (sm_aload_n (z := 53) hx dX0_roundKey_4 rfl (sm_getI hx dX0_roundKey_5 fl_X0_107_1 (t_53 hB) rfl (sm_callVI (args := [.int (I 53 1)]) (st := []) hx dX0_roundKey_8 lv_X0_110_8 rfl rfl (t_24 hB) rfl rfl h (fun r2 I1 L1 hI1 => sm_bipush (v := 24) hx dX0_roundKey_11 sm_kb_24 (sm_ishl (a := r2) (b := 24) hx dX0_roundKey_13 (sm_aload_n (z := 53) hx dX0_roundKey_14 rfl (sm_getI hx dX0_roundKey_15 fl_X0_114_1 (t_53 hB) rfl (sm_ior (a := (r2 <<< (24 &&& 31))) (b := (I1 53 0)) hx dX0_roundKey_18 (sm_iretI hx dX0_roundKey_19 rfl hI1)))))))))))
theorem dX0_walk_0 : decode cX0_walk 0 = .ok (.aload_n 0, 1) := by decide +kernel
theorem dX0_walk_1 : decode cX0_walk 1 = .ok (.getfield 73, 3) := by decide +kernel
theorem dX0_walk_4 : decode cX0_walk 4 = .ok (.getfield 117, 3) := by decide +kernel
theorem dX0_walk_7 : decode cX0_walk 7 = .ok (.iload_n 1, 1) := by decide +kernel
theorem dX0_walk_8 : decode cX0_walk 8 = .ok (.invokevirtual 120, 3) := by decide +kernel
theorem dX0_walk_11 : decode cX0_walk 11 = .ok (.istore_n 2, 1) := by decide +kernel
theorem dX0_walk_12 : decode cX0_walk 12 = .ok (.iload_n 1, 1) := by decide +kernel
theorem dX0_walk_13 : decode cX0_walk 13 = .ok (.aload_n 0, 1) := by decide +kernel
theorem dX0_walk_14 : decode cX0_walk 14 = .ok (.getfield 30, 3) := by decide +kernel
theorem dX0_walk_17 : decode cX0_walk 17 = .ok (.if_icmp .eq 15, 3) := by decide +kernel
theorem dX0_walk_20 : decode cX0_walk 20 = .ok (.iload_n 2, 1) := by decide +kernel
theorem dX0_walk_21 : decode cX0_walk 21 = .ok (.iconst 3, 1) := by decide +kernel
theorem dX0_walk_22 : decode cX0_walk 22 = .ok (.if_icmp .ne 15, 3) := by decide +kernel
theorem dX0_walk_25 : decode cX0_walk 25 = .ok (.aload_n 0, 1) := by decide +kernel
theorem dX0_walk_26 : decode cX0_walk 26 = .ok (.invokevirtual 123, 3) := by decide +kernel
theorem dX0_walk_29 : decode cX0_walk 29 = .ok (.ifCond .eq 8, 3) := by decide +kernel
theorem dX0_walk_32 : decode cX0_walk 32 = .ok (.iconst 0, 1) := by decide +kernel
theorem dX0_walk_33 : decode cX0_walk 33 = .ok (.istore_n 3, 1) := by decide +kernel
theorem dX0_walk_34 : decode cX0_walk 34 = .ok (.goto 26, 3) := by decide +kernel
theorem dX0_walk_37 : decode cX0_walk 37 = .ok (.iload_n 2, 1) := by decide +kernel
theorem dX0_walk_38 : decode cX0_walk 38 = .ok (.iconst 2, 1) := by decide +kernel
theorem dX0_walk_39 : decode cX0_walk 39 = .ok (.if_icmp .ne 15, 3) := by decide +kernel
theorem dX0_walk_42 : decode cX0_walk 42 = .ok (.iload_n 1, 1) := by decide +kernel
theorem dX0_walk_43 : decode cX0_walk 43 = .ok (.ifCond .le 11, 3) := by decide +kernel
theorem dX0_walk_46 : decode cX0_walk 46 = .ok (.aload_n 0, 1) := by decide +kernel
theorem dX0_walk_47 : decode cX0_walk 47 = .ok (.getfield 39, 3) := by decide +kernel
theorem dX0_walk_50 : decode cX0_walk 50 = .ok (.istore_n 3, 1) := by decide +kernel
theorem dX0_walk_51 : decode cX0_walk 51 = .ok (.goto 9, 3) := by decide +kernel
theorem dX0_walk_54 : decode cX0_walk 54 = .ok (.aload_n 0, 1) := by decide +kernel
theorem dX0_walk_55 : decode cX0_walk 55 = .ok (.iload_n 1, 1) := by decide +kernel
theorem dX0_walk_56 : decode cX0_walk 56 = .ok (.invokevirtual 127, 3) := by decide +kernel
theorem dX0_walk_59 : decode cX0_walk 59 = .ok (.istore_n 3, 1) := by decide +kernel
theorem dX0_walk_60 : decode cX0_walk 60 = .ok (.aload_n 0, 1) := by decide +kernel
theorem dX0_walk_61 : decode cX0_walk 61 = .ok (.iload_n 3, 1) := by decide +kernel
theorem dX0_walk_62 : decode cX0_walk 62 = .ok (.putfield 39, 3) := by decide +kernel
theorem dX0_walk_65 : decode cX0_walk 65 = .ok (.aload_n 0, 1) := by decide +kernel
theorem dX0_walk_66 : decode cX0_walk 66 = .ok (.getfield 73, 3) := by decide +kernel
theorem dX0_walk_69 : decode cX0_walk 69 = .ok (.getfield 130, 3) := by decide +kernel
theorem dX0_walk_72 : decode cX0_walk 72 = .ok (.iload_n 1, 1) := by decide +kernel
theorem dX0_walk_73 : decode cX0_walk 73 = .ok (.invokevirtual 120, 3) := by decide +kernel
theorem dX0_walk_76 : decode cX0_walk 76 = .ok (.istore 4, 2) := by decide +kernel
theorem dX0_walk_78 : decode cX0_walk 78 = .ok (.aload_n 0, 1) := by decide +kernel
theorem dX0_walk_79 : decode cX0_walk 79 = .ok (.getfield 73, 3) := by decide +kernel
theorem dX0_walk_82 : decode cX0_walk 82 = .ok (.iload 4, 2) := by decide +kernel
theorem dX0_walk_84 : decode cX0_walk 84 = .ok (.iload_n 3, 1) := by decide +kernel
theorem dX0_walk_85 : decode cX0_walk 85 = .ok (.invokevirtual 99, 3) := by decide +kernel
theorem dX0_walk_88 : decode cX0_walk 88 = .ok (.istore 5, 2) := by decide +kernel
theorem dX0_walk_90 : decode cX0_walk 90 = .ok (.aload_n 0, 1) := by decide +kernel
theorem dX0_walk_91 : decode cX0_walk 91 = .ok (.getfield 73, 3) := by decide +kernel
theorem dX0_walk_94 : decode cX0_walk 94 = .ok (.getfield 133, 3) := by decide +kernel
theorem dX0_walk_97 : decode cX0_walk 97 = .ok (.iload_n 1, 1) := by decide +kernel
theorem dX0_walk_98 : decode cX0_walk 98 = .ok (.invokevirtual 120, 3) := by decide +kernel
theorem dX0_walk_101 : decode cX0_walk 101 = .ok (.iconst 1, 1) := by decide +kernel
theorem dX0_walk_102 : decode cX0_walk 102 = .ok (.if_icmp .ne 7, 3) := by decide +kernel
theorem dX0_walk_105 : decode cX0_walk 105 = .ok (.iconst 1, 1) := by decide +kernel
theorem dX0_walk_106 : decode cX0_walk 106 = .ok (.goto 4, 3) := by decide +kernel
theorem dX0_walk_109 : decode cX0_walk 109 = .ok (.iconst 0, 1) := by decide +kernel
theorem dX0_walk_110 : decode cX0_walk 110 = .ok (.istore 6, 2) := by decide +kernel
theorem dX0_walk_112 : decode cX0_walk 112 = .ok (.iload_n 2, 1) := by decide +kernel
theorem dX0_walk_113 : decode cX0_walk 113 = .ok (.iconst 4, 1) := by decide +kernel
theorem dX0_walk_114 : decode cX0_walk 114 = .ok (.if_icmp .ne 17, 3) := by decide +kernel
theorem dX0_walk_117 : decode cX0_walk 117 = .ok (.aload_n 0, 1) := by decide +kernel
theorem dX0_walk_118 : decode cX0_walk 118 = .ok (.iload_n 1, 1) := by decide +kernel
theorem dX0_walk_119 : decode cX0_walk 119 = .ok (.iload 5, 2) := by decide +kernel
theorem dX0_walk_121 : decode cX0_walk 121 = .ok (.iload 4, 2) := by decide +kernel
theorem dX0_walk_123 : decode cX0_walk 123 = .ok (.iload 6, 2) := by decide +kernel
theorem dX0_walk_125 : decode cX0_walk 125 = .ok (.invokevirtual 103, 3) := by decide +kernel
theorem dX0_walk_128 : decode cX0_walk 128 = .ok (.goto 14, 3) := by decide +kernel
theorem dX0_walk_131 : decode cX0_walk 131 = .ok (.aload_n 0, 1) := by decide +kernel
theorem dX0_walk_132 : decode cX0_walk 132 = .ok (.iload_n 1, 1) := by decide +kernel
theorem dX0_walk_133 : decode cX0_walk 133 = .ok (.iload 4, 2) := by decide +kernel
theorem dX0_walk_135 : decode cX0_walk 135 = .ok (.iload 5, 2) := by decide +kernel
theorem dX0_walk_137 : decode cX0_walk 137 = .ok (.iload 6, 2) := by decide +kernel
theorem dX0_walk_139 : decode cX0_walk 139 = .ok (.invokevirtual 103, 3) := by decide +kernel
theorem dX0_walk_142 : decode cX0_walk 142 = .ok (.return_, 1) := by decide +kernel
set_option maxRecDepth 100000 in
theorem u_X0_walk_60 {x : sm_Cx} {n : Nat} {F : sm_MI → sm_ML → Prop} {T : List sm_Sh} {I : sm_MI} {L : sm_ML} {a1 : Int32} {a2 : Int32} {a3 : Int32} (hB : sm_Bs T) (hx : sm_Ok x mX0_walk (n + 1) (sm_KV T F))
    (h : sm_CI n mX3_at T (sm_uI I 53 13 a3) L [.ref 25, .int a1] (fun r2 I1 L1 => sm_CI n mX8_around T I1 L1 [.ref 24, .int r2, .int a3] (fun r4 I3 L3 => sm_CI n mX3_at T I3 L3 [.ref 31, .int a1] (fun r6 I5 L5 => (¬ r6 = 1 → (¬ a2 = 4 → sm_CV n mX0_carry T I5 L5 [.ref 53, .int a1, .int r2, .int r4, .int (sm_z false)] (fun I7 L7 => F I7 L7)) ∧ (a2 = 4 → sm_CV n mX0_carry T I5 L5 [.ref 53, .int a1, .int r4, .int r2, .int (sm_z false)] (fun I8 L8 => F I8 L8))) ∧ (r6 = 1 → (¬ a2 = 4 → sm_CV n mX0_carry T I5 L5 [.ref 53, .int a1, .int r2, .int r4, .int (sm_z true)] (fun I9 L9 => F I9 L9)) ∧ (a2 = 4 → sm_CV n mX0_carry T I5 L5 [.ref 53, .int a1, .int r4, .int r2, .int (sm_z true)] (fun I10 L10 => F I10 L10))))))) :
    sm_V x 0 0 T I L 60 [some (.ref 53), some (.int a1), some (.int a2), some (.int a3), none, none, none] [] :=
  sm_aload_n (z := 53) hx dX0_walk_60 rfl (sm_iload_n (z := a3) hx dX0_walk_61 rfl (sm_putI hx dX0_walk_62 fl_X0_39_1 (t_53 hB) rfl (sm_aload_n (z := 53) hx dX0_walk_65 rfl (sm_getR hx dX0_walk_66 fl_X0_73_1 (t_53 hB) rfl (sm_getR hx dX0_walk_69 fl_X0_130_8 (t_24 hB) rfl (sm_iload_n (z := a1) hx dX0_walk_72 rfl (sm_callVI (args := [.int a1]) (st := []) hx dX0_walk_73 lv_X0_120_3 rfl rfl (t_25 hB) rfl rfl h (fun r2 I1 L1 hI1 => sm_istore (ls' := [some (.ref 53), some (.int a1), some (.int a2), some (.int a3), some (.int r2), none, none]) hx dX0_walk_76 (by decide) rfl (sm_aload_n (z := 53) hx dX0_walk_78 rfl (sm_getR hx dX0_walk_79 fl_X0_73_1 (t_53 hB) rfl (sm_iload (z := r2) hx dX0_walk_82 rfl (sm_iload_n (z := a3) hx dX0_walk_84 rfl (sm_callVI (args := [.int r2, .int a3]) (st := []) hx dX0_walk_85 lv_X0_99_8 rfl rfl (t_24 hB) rfl rfl hI1 (fun r4 I3 L3 hI3 => sm_istore (ls' := [some (.ref 53), some (.int a1), some (.int a2), some (.int a3), some (.int r2), some (.int r4), none]) hx dX0_walk_88 (by decide) rfl (sm_aload_n (z := 53) hx dX0_walk_90 rfl (sm_getR hx dX0_walk_91 fl_X0_73_1 (t_53 hB) rfl (sm_getR hx dX0_walk_94 fl_X0_133_8 (t_24 hB) rfl (sm_iload_n (z := a1) hx dX0_walk_97 rfl (sm_callVI (args := [.int a1]) (st := []) hx dX0_walk_98 lv_X0_120_3 rfl rfl (t_31 hB) rfl rfl hI3 (fun r6 I5 L5 hI5 => sm_iconst (v := 1) hx dX0_walk_101 sm_kc_1 (sm_icmpne (a := r6) (b := 1) hx dX0_walk_102 (tgt := 109) (by decide) (fun q3 => sm_iconst (v := 0) hx dX0_walk_109 sm_kc_0 (sm_istore (ls' := [some (.ref 53), some (.int a1), some (.int a2), some (.int a3), some (.int r2), some (.int r4), some (.int 0)]) hx dX0_walk_110 (by decide) rfl (sm_iload_n (z := a2) hx dX0_walk_112 rfl (sm_iconst (v := 4) hx dX0_walk_113 sm_kc_4 (sm_icmpne (a := a2) (b := 4) hx dX0_walk_114 (tgt := 131) (by decide) (fun q1 => sm_aload_n (z := 53) hx dX0_walk_131 rfl (sm_iload_n (z := a1) hx dX0_walk_132 rfl (sm_iload (z := r2) hx dX0_walk_133 rfl (sm_iload (z := r4) hx dX0_walk_135 rfl (sm_iload (z := 0) hx dX0_walk_137 rfl (sm_callVV (args := [.int a1, .int r2, .int r4, .int (sm_z false)]) (st := []) hx dX0_walk_139 lv_X0_103_1 rfl rfl (t_53 hB) rfl rfl ((hI5.1 q3).1 q1) (fun I7 L7 hI7 => sm_vretV hx dX0_walk_142 rfl hI7))))))) (fun q1 => sm_aload_n (z := 53) hx dX0_walk_117 rfl (sm_iload_n (z := a1) hx dX0_walk_118 rfl (sm_iload (z := r4) hx dX0_walk_119 rfl (sm_iload (z := r2) hx dX0_walk_121 rfl (sm_iload (z := 0) hx dX0_walk_123 rfl (sm_callVV (args := [.int a1, .int r4, .int r2, .int (sm_z false)]) (st := []) hx dX0_walk_125 lv_X0_103_1 rfl rfl (t_53 hB) rfl rfl ((hI5.1 q3).2 q1) (fun I8 L8 hI8 => sm_goto hx dX0_walk_128 (tgt := 142) (by decide) (sm_vretV hx dX0_walk_142 rfl hI8))))))))))))) (fun q3 => sm_iconst (v := 1) hx dX0_walk_105 sm_kc_1 (sm_goto hx dX0_walk_106 (tgt := 110) (by decide) (sm_istore (ls' := [some (.ref 53), some (.int a1), some (.int a2), some (.int a3), some (.int r2), some (.int r4), some (.int 1)]) hx dX0_walk_110 (by decide) rfl (sm_iload_n (z := a2) hx dX0_walk_112 rfl (sm_iconst (v := 4) hx dX0_walk_113 sm_kc_4 (sm_icmpne (a := a2) (b := 4) hx dX0_walk_114 (tgt := 131) (by decide) (fun q2 => sm_aload_n (z := 53) hx dX0_walk_131 rfl (sm_iload_n (z := a1) hx dX0_walk_132 rfl (sm_iload (z := r2) hx dX0_walk_133 rfl (sm_iload (z := r4) hx dX0_walk_135 rfl (sm_iload (z := 1) hx dX0_walk_137 rfl (sm_callVV (args := [.int a1, .int r2, .int r4, .int (sm_z true)]) (st := []) hx dX0_walk_139 lv_X0_103_1 rfl rfl (t_53 hB) rfl rfl ((hI5.2 q3).1 q2) (fun I9 L9 hI9 => sm_vretV hx dX0_walk_142 rfl hI9))))))) (fun q2 => sm_aload_n (z := 53) hx dX0_walk_117 rfl (sm_iload_n (z := a1) hx dX0_walk_118 rfl (sm_iload (z := r4) hx dX0_walk_119 rfl (sm_iload (z := r2) hx dX0_walk_121 rfl (sm_iload (z := 1) hx dX0_walk_123 rfl (sm_callVV (args := [.int a1, .int r4, .int r2, .int (sm_z true)]) (st := []) hx dX0_walk_125 lv_X0_103_1 rfl rfl (t_53 hB) rfl rfl ((hI5.2 q3).2 q2) (fun I10 L10 hI10 => sm_goto hx dX0_walk_128 (tgt := 142) (by decide) (sm_vretV hx dX0_walk_142 rfl hI10)))))))))))))))))))))))))))))))))))
set_option maxRecDepth 100000 in
theorem c_X0_walk {n : Nat} {F : sm_MI → sm_ML → Prop} {T : List sm_Sh} {I : sm_MI} {L : sm_ML} {a1 : Int32} (hB : sm_Bs T)
    (h : ∀ x : sm_Cx, sm_Ok x mX0_walk (n + 1) (sm_KV T F) → sm_CI n mX3_at T I L [.ref 29, .int a1] (fun r2 I1 L1 => (a1 = (I1 53 10) → sm_V x 0 0 T I1 L1 60 [some (.ref 53), some (.int a1), some (.int r2), some (.int 0), none, none, none] []) ∧ (¬ a1 = (I1 53 10) → (¬ r2 = 3 → (¬ r2 = 2 → sm_CI n mX0_ownStride T I1 L1 [.ref 53, .int a1] (fun r4 I3 L3 => sm_V x 0 0 T I3 L3 60 [some (.ref 53), some (.int a1), some (.int r2), some (.int r4), none, none, none] [])) ∧ (r2 = 2 → (a1 ≤ 0 → sm_CI n mX0_ownStride T I1 L1 [.ref 53, .int a1] (fun r6 I5 L5 => sm_V x 0 0 T I5 L5 60 [some (.ref 53), some (.int a1), some (.int r2), some (.int r6), none, none, none] [])) ∧ (¬ a1 ≤ 0 → sm_V x 0 0 T I1 L1 60 [some (.ref 53), some (.int a1), some (.int r2), some (.int (I1 53 13)), none, none, none] []))) ∧ (r2 = 3 → sm_CZ n mX0_hasFever T I1 L1 [.ref 53] (fun r8 I7 L7 => (r8 = false → (¬ r2 = 2 → sm_CI n mX0_ownStride T I7 L7 [.ref 53, .int a1] (fun r10 I9 L9 => sm_V x 0 0 T I9 L9 60 [some (.ref 53), some (.int a1), some (.int r2), some (.int r10), none, none, none] [])) ∧ (r2 = 2 → (a1 ≤ 0 → sm_CI n mX0_ownStride T I7 L7 [.ref 53, .int a1] (fun r12 I11 L11 => sm_V x 0 0 T I11 L11 60 [some (.ref 53), some (.int a1), some (.int r2), some (.int r12), none, none, none] [])) ∧ (¬ a1 ≤ 0 → sm_V x 0 0 T I7 L7 60 [some (.ref 53), some (.int a1), some (.int r2), some (.int (I7 53 13)), none, none, none] []))) ∧ (r8 = true → sm_V x 0 0 T I7 L7 60 [some (.ref 53), some (.int a1), some (.int r2), some (.int 0), none, none, none] [])))))) :
    sm_CV (n + 1) mX0_walk T I L [.ref 53, .int a1] F :=
  sm_CV.of (by decide +kernel) rfl (fun x hx => show sm_V x 0 0 T I L 0 [some (.ref 53), some (.int a1), none, none, none, none, none] [] from
  sm_aload_n (z := 53) hx dX0_walk_0 rfl (sm_getR hx dX0_walk_1 fl_X0_73_1 (t_53 hB) rfl (sm_getR hx dX0_walk_4 fl_X0_117_8 (t_24 hB) rfl (sm_iload_n (z := a1) hx dX0_walk_7 rfl (sm_callVI (args := [.int a1]) (st := []) hx dX0_walk_8 lv_X0_120_3 rfl rfl (t_29 hB) rfl rfl (h x hx) (fun r2 I1 L1 hI1 => sm_istore_n (ls' := [some (.ref 53), some (.int a1), some (.int r2), none, none, none, none]) hx dX0_walk_11 (by decide) rfl (sm_iload_n (z := a1) hx dX0_walk_12 rfl (sm_aload_n (z := 53) hx dX0_walk_13 rfl (sm_getI hx dX0_walk_14 fl_X0_30_1 (t_53 hB) rfl (sm_icmpeq (a := a1) (b := (I1 53 10)) hx dX0_walk_17 (tgt := 32) (by decide) (fun q10 => sm_iconst (v := 0) hx dX0_walk_32 sm_kc_0 (sm_istore_n (ls' := [some (.ref 53), some (.int a1), some (.int r2), some (.int 0), none, none, none]) hx dX0_walk_33 (by decide) rfl (sm_goto hx dX0_walk_34 (tgt := 60) (by decide) ((hI1.1 q10))))) (fun q10 => sm_iload_n (z := r2) hx dX0_walk_20 rfl (sm_iconst (v := 3) hx dX0_walk_21 sm_kc_3 (sm_icmpne (a := r2) (b := 3) hx dX0_walk_22 (tgt := 37) (by decide) (fun q9 => sm_iload_n (z := r2) hx dX0_walk_37 rfl (sm_iconst (v := 2) hx dX0_walk_38 sm_kc_2 (sm_icmpne (a := r2) (b := 2) hx dX0_walk_39 (tgt := 54) (by decide) (fun q5 => sm_aload_n (z := 53) hx dX0_walk_54 rfl (sm_iload_n (z := a1) hx dX0_walk_55 rfl (sm_callVI (args := [.int a1]) (st := []) hx dX0_walk_56 lv_X0_127_1 rfl rfl (t_53 hB) rfl rfl (((hI1.2 q10).1 q9).1 q5) (fun r4 I3 L3 hI3 => sm_istore_n (ls' := [some (.ref 53), some (.int a1), some (.int r2), some (.int r4), none, none, none]) hx dX0_walk_59 (by decide) rfl (hI3))))) (fun q5 => sm_iload_n (z := a1) hx dX0_walk_42 rfl (sm_ifle (a := a1) hx dX0_walk_43 (tgt := 54) (by decide) (fun q4 => sm_aload_n (z := 53) hx dX0_walk_54 rfl (sm_iload_n (z := a1) hx dX0_walk_55 rfl (sm_callVI (args := [.int a1]) (st := []) hx dX0_walk_56 lv_X0_127_1 rfl rfl (t_53 hB) rfl rfl ((((hI1.2 q10).1 q9).2 q5).1 q4) (fun r6 I5 L5 hI5 => sm_istore_n (ls' := [some (.ref 53), some (.int a1), some (.int r2), some (.int r6), none, none, none]) hx dX0_walk_59 (by decide) rfl (hI5))))) (fun q4 => sm_aload_n (z := 53) hx dX0_walk_46 rfl (sm_getI hx dX0_walk_47 fl_X0_39_1 (t_53 hB) rfl (sm_istore_n (ls' := [some (.ref 53), some (.int a1), some (.int r2), some (.int (I1 53 13)), none, none, none]) hx dX0_walk_50 (by decide) rfl (sm_goto hx dX0_walk_51 (tgt := 60) (by decide) (((((hI1.2 q10).1 q9).2 q5).2 q4))))))))))) (fun q9 => sm_aload_n (z := 53) hx dX0_walk_25 rfl (sm_callVZ (args := []) (st := []) hx dX0_walk_26 lv_X0_123_1 rfl rfl (t_53 hB) rfl rfl ((hI1.2 q10).2 q9) (fun r8 I7 L7 hI7 => sm_ifeqZ (b := r8) hx dX0_walk_29 (tgt := 37) (by decide) (fun q8 => sm_iload_n (z := r2) hx dX0_walk_37 rfl (sm_iconst (v := 2) hx dX0_walk_38 sm_kc_2 (sm_icmpne (a := r2) (b := 2) hx dX0_walk_39 (tgt := 54) (by decide) (fun q7 => sm_aload_n (z := 53) hx dX0_walk_54 rfl (sm_iload_n (z := a1) hx dX0_walk_55 rfl (sm_callVI (args := [.int a1]) (st := []) hx dX0_walk_56 lv_X0_127_1 rfl rfl (t_53 hB) rfl rfl ((hI7.1 q8).1 q7) (fun r10 I9 L9 hI9 => sm_istore_n (ls' := [some (.ref 53), some (.int a1), some (.int r2), some (.int r10), none, none, none]) hx dX0_walk_59 (by decide) rfl (hI9))))) (fun q7 => sm_iload_n (z := a1) hx dX0_walk_42 rfl (sm_ifle (a := a1) hx dX0_walk_43 (tgt := 54) (by decide) (fun q6 => sm_aload_n (z := 53) hx dX0_walk_54 rfl (sm_iload_n (z := a1) hx dX0_walk_55 rfl (sm_callVI (args := [.int a1]) (st := []) hx dX0_walk_56 lv_X0_127_1 rfl rfl (t_53 hB) rfl rfl (((hI7.1 q8).2 q7).1 q6) (fun r12 I11 L11 hI11 => sm_istore_n (ls' := [some (.ref 53), some (.int a1), some (.int r2), some (.int r12), none, none, none]) hx dX0_walk_59 (by decide) rfl (hI11))))) (fun q6 => sm_aload_n (z := 53) hx dX0_walk_46 rfl (sm_getI hx dX0_walk_47 fl_X0_39_1 (t_53 hB) rfl (sm_istore_n (ls' := [some (.ref 53), some (.int a1), some (.int r2), some (.int (I7 53 13)), none, none, none]) hx dX0_walk_50 (by decide) rfl (sm_goto hx dX0_walk_51 (tgt := 60) (by decide) ((((hI7.1 q8).2 q7).2 q6))))))))))) (fun q8 => sm_iconst (v := 0) hx dX0_walk_32 sm_kc_0 (sm_istore_n (ls' := [some (.ref 53), some (.int a1), some (.int r2), some (.int 0), none, none, none]) hx dX0_walk_33 (by decide) rfl (sm_goto hx dX0_walk_34 (tgt := 60) (by decide) ((hI7.2 q8)))))))))))))))))))))
theorem dX0_hasFever_0 : decode cX0_hasFever 0 = .ok (.aload_n 0, 1) := by decide +kernel
theorem dX0_hasFever_1 : decode cX0_hasFever 1 = .ok (.getfield 26, 3) := by decide +kernel
theorem dX0_hasFever_4 : decode cX0_hasFever 4 = .ok (.ifCond .ne 5, 3) := by decide +kernel
theorem dX0_hasFever_7 : decode cX0_hasFever 7 = .ok (.iconst 0, 1) := by decide +kernel
theorem dX0_hasFever_8 : decode cX0_hasFever 8 = .ok (.ireturn, 1) := by decide +kernel
theorem dX0_hasFever_9 : decode cX0_hasFever 9 = .ok (.aload_n 0, 1) := by decide +kernel
theorem dX0_hasFever_10 : decode cX0_hasFever 10 = .ok (.aload_n 0, 1) := by decide +kernel
theorem dX0_hasFever_11 : decode cX0_hasFever 11 = .ok (.getfield 136, 3) := by decide +kernel
theorem dX0_hasFever_14 : decode cX0_hasFever 14 = .ok (.ldc2_w 140, 3) := by decide +kernel
theorem dX0_hasFever_17 : decode cX0_hasFever 17 = .ok (.lmul, 1) := by decide +kernel
theorem dX0_hasFever_18 : decode cX0_hasFever 18 = .ok (.ldc2_w 142, 3) := by decide +kernel
theorem dX0_hasFever_21 : decode cX0_hasFever 21 = .ok (.ladd, 1) := by decide +kernel
theorem dX0_hasFever_22 : decode cX0_hasFever 22 = .ok (.putfield 136, 3) := by decide +kernel
theorem dX0_hasFever_25 : decode cX0_hasFever 25 = .ok (.aload_n 0, 1) := by decide +kernel
theorem dX0_hasFever_26 : decode cX0_hasFever 26 = .ok (.getfield 136, 3) := by decide +kernel
theorem dX0_hasFever_29 : decode cX0_hasFever 29 = .ok (.bipush 33, 2) := by decide +kernel
theorem dX0_hasFever_31 : decode cX0_hasFever 31 = .ok (.lushr, 1) := by decide +kernel
theorem dX0_hasFever_32 : decode cX0_hasFever 32 = .ok (.ldc2_w 144, 3) := by decide +kernel
theorem dX0_hasFever_35 : decode cX0_hasFever 35 = .ok (.lrem, 1) := by decide +kernel
theorem dX0_hasFever_36 : decode cX0_hasFever 36 = .ok (.aload_n 0, 1) := by decide +kernel
theorem dX0_hasFever_37 : decode cX0_hasFever 37 = .ok (.getfield 26, 3) := by decide +kernel
theorem dX0_hasFever_40 : decode cX0_hasFever 40 = .ok (.i2l, 1) := by decide +kernel
theorem dX0_hasFever_41 : decode cX0_hasFever 41 = .ok (.lcmp, 1) := by decide +kernel
theorem dX0_hasFever_42 : decode cX0_hasFever 42 = .ok (.ifCond .ge 7, 3) := by decide +kernel
theorem dX0_hasFever_45 : decode cX0_hasFever 45 = .ok (.iconst 1, 1) := by decide +kernel
theorem dX0_hasFever_46 : decode cX0_hasFever 46 = .ok (.goto 4, 3) := by decide +kernel
theorem dX0_hasFever_49 : decode cX0_hasFever 49 = .ok (.iconst 0, 1) := by decide +kernel
theorem dX0_hasFever_50 : decode cX0_hasFever 50 = .ok (.ireturn, 1) := by decide +kernel
set_option maxRecDepth 100000 in
theorem c_X0_hasFever {n : Nat} {F : Bool → sm_MI → sm_ML → Prop} {T : List sm_Sh} {I : sm_MI} {L : sm_ML}  (hB : sm_Bs T)
    (h : (¬ (I 53 9) = 0 → (0 ≤ (lg_cmp ((Int64.toUInt64 ((sm_uL L 53 3 (((L 53 3) * 6364136223846793005) + 1442695040888963407)) 53 3) >>> ((Int32.toInt64 33).toUInt64 &&& Int64.toUInt64 63)).toInt64 - (Int64.toUInt64 ((sm_uL L 53 3 (((L 53 3) * 6364136223846793005) + 1442695040888963407)) 53 3) >>> ((Int32.toInt64 33).toUInt64 &&& Int64.toUInt64 63)).toInt64 / 100 * 100) (Int32.toInt64 (I 53 9))) → F false I (sm_uL L 53 3 (((L 53 3) * 6364136223846793005) + 1442695040888963407))) ∧ (¬ 0 ≤ (lg_cmp ((Int64.toUInt64 ((sm_uL L 53 3 (((L 53 3) * 6364136223846793005) + 1442695040888963407)) 53 3) >>> ((Int32.toInt64 33).toUInt64 &&& Int64.toUInt64 63)).toInt64 - (Int64.toUInt64 ((sm_uL L 53 3 (((L 53 3) * 6364136223846793005) + 1442695040888963407)) 53 3) >>> ((Int32.toInt64 33).toUInt64 &&& Int64.toUInt64 63)).toInt64 / 100 * 100) (Int32.toInt64 (I 53 9))) → F true I (sm_uL L 53 3 (((L 53 3) * 6364136223846793005) + 1442695040888963407)))) ∧ ((I 53 9) = 0 → F false I L)) :
    sm_CZ n mX0_hasFever T I L [.ref 53] F :=
  sm_CZ.of (by decide +kernel) rfl (fun x hx => show sm_V x 0 0 T I L 0 [some (.ref 53)] [] from
  sm_aload_n (z := 53) hx dX0_hasFever_0 rfl (sm_getI hx dX0_hasFever_1 fl_X0_26_1 (t_53 hB) rfl (sm_ifne (a := (I 53 9)) hx dX0_hasFever_4 (tgt := 9) (by decide) (fun q2 => sm_aload_n (z := 53) hx dX0_hasFever_9 rfl (sm_aload_n (z := 53) hx dX0_hasFever_10 rfl (sm_getL hx dX0_hasFever_11 fl_X0_136_1 (t_53 hB) rfl (sm_ldc2 (v := 6364136223846793005) hx dX0_hasFever_14 k_X0_140 (sm_lmul (a := (L 53 3)) (b := 6364136223846793005) hx dX0_hasFever_17 (sm_ldc2 (v := 1442695040888963407) hx dX0_hasFever_18 k_X0_142 (sm_ladd (a := ((L 53 3) * 6364136223846793005)) (b := 1442695040888963407) hx dX0_hasFever_21 (sm_putL hx dX0_hasFever_22 fl_X0_136_1 (t_53 hB) rfl (sm_aload_n (z := 53) hx dX0_hasFever_25 rfl (sm_getL hx dX0_hasFever_26 fl_X0_136_1 (t_53 hB) rfl (sm_bipush (v := 33) hx dX0_hasFever_29 sm_kb_33 (sm_lushr (a := ((sm_uL L 53 3 (((L 53 3) * 6364136223846793005) + 1442695040888963407)) 53 3)) (b := 33) hx dX0_hasFever_31 (sm_ldc2 (v := 100) hx dX0_hasFever_32 k_X0_144 (sm_lrem (a := (Int64.toUInt64 ((sm_uL L 53 3 (((L 53 3) * 6364136223846793005) + 1442695040888963407)) 53 3) >>> ((Int32.toInt64 33).toUInt64 &&& Int64.toUInt64 63)).toInt64) (b := 100) hx dX0_hasFever_35 (by decide) (sm_aload_n (z := 53) hx dX0_hasFever_36 rfl (sm_getI hx dX0_hasFever_37 fl_X0_26_1 (t_53 hB) rfl (sm_i2l (a := (I 53 9)) hx dX0_hasFever_40 (sm_lcmp (a := ((Int64.toUInt64 ((sm_uL L 53 3 (((L 53 3) * 6364136223846793005) + 1442695040888963407)) 53 3) >>> ((Int32.toInt64 33).toUInt64 &&& Int64.toUInt64 63)).toInt64 - (Int64.toUInt64 ((sm_uL L 53 3 (((L 53 3) * 6364136223846793005) + 1442695040888963407)) 53 3) >>> ((Int32.toInt64 33).toUInt64 &&& Int64.toUInt64 63)).toInt64 / 100 * 100)) (b := (Int32.toInt64 (I 53 9))) hx dX0_hasFever_41 (sm_ifge (a := (lg_cmp ((Int64.toUInt64 ((sm_uL L 53 3 (((L 53 3) * 6364136223846793005) + 1442695040888963407)) 53 3) >>> ((Int32.toInt64 33).toUInt64 &&& Int64.toUInt64 63)).toInt64 - (Int64.toUInt64 ((sm_uL L 53 3 (((L 53 3) * 6364136223846793005) + 1442695040888963407)) 53 3) >>> ((Int32.toInt64 33).toUInt64 &&& Int64.toUInt64 63)).toInt64 / 100 * 100) (Int32.toInt64 (I 53 9)))) hx dX0_hasFever_42 (tgt := 49) (by decide) (fun q1 => sm_iconst (v := 0) hx dX0_hasFever_49 sm_kc_0 (sm_iretZ (z := false) hx dX0_hasFever_50 rfl ((h.1 q2).1 q1))) (fun q1 => sm_iconst (v := 1) hx dX0_hasFever_45 sm_kc_1 (sm_goto hx dX0_hasFever_46 (tgt := 50) (by decide) (sm_iretZ (z := true) hx dX0_hasFever_50 rfl ((h.1 q2).2 q1))))))))))))))))))))))) (fun q2 => sm_iconst (v := 0) hx dX0_hasFever_7 sm_kc_0 (sm_iretZ (z := false) hx dX0_hasFever_8 rfl (h.2 q2))))))
theorem dX0_ownStride_0 : decode cX0_ownStride 0 = .ok (.aload_n 0, 1) := by decide +kernel
theorem dX0_ownStride_1 : decode cX0_ownStride 1 = .ok (.iload_n 1, 1) := by decide +kernel
theorem dX0_ownStride_2 : decode cX0_ownStride 2 = .ok (.invokevirtual 146, 3) := by decide +kernel
theorem dX0_ownStride_5 : decode cX0_ownStride 5 = .ok (.astore_n 2, 1) := by decide +kernel
theorem dX0_ownStride_6 : decode cX0_ownStride 6 = .ok (.aload_n 0, 1) := by decide +kernel
theorem dX0_ownStride_7 : decode cX0_ownStride 7 = .ok (.getfield 16, 3) := by decide +kernel
theorem dX0_ownStride_10 : decode cX0_ownStride 10 = .ok (.iload_n 1, 1) := by decide +kernel
theorem dX0_ownStride_11 : decode cX0_ownStride 11 = .ok (.invokevirtual 120, 3) := by decide +kernel
theorem dX0_ownStride_14 : decode cX0_ownStride 14 = .ok (.iconst (-1), 1) := by decide +kernel
theorem dX0_ownStride_15 : decode cX0_ownStride 15 = .ok (.if_icmp .eq 15, 3) := by decide +kernel
theorem dX0_ownStride_18 : decode cX0_ownStride 18 = .ok (.aload_n 0, 1) := by decide +kernel
theorem dX0_ownStride_19 : decode cX0_ownStride 19 = .ok (.getfield 16, 3) := by decide +kernel
theorem dX0_ownStride_22 : decode cX0_ownStride 22 = .ok (.iload_n 1, 1) := by decide +kernel
theorem dX0_ownStride_23 : decode cX0_ownStride 23 = .ok (.invokevirtual 120, 3) := by decide +kernel
theorem dX0_ownStride_26 : decode cX0_ownStride 26 = .ok (.istore_n 3, 1) := by decide +kernel
theorem dX0_ownStride_27 : decode cX0_ownStride 27 = .ok (.goto 135, 3) := by decide +kernel
theorem dX0_ownStride_30 : decode cX0_ownStride 30 = .ok (.aload_n 2, 1) := by decide +kernel
theorem dX0_ownStride_31 : decode cX0_ownStride 31 = .ok (.ifnonnull 18, 3) := by decide +kernel
theorem dX0_ownStride_34 : decode cX0_ownStride 34 = .ok (.aload_n 0, 1) := by decide +kernel
theorem dX0_ownStride_35 : decode cX0_ownStride 35 = .ok (.getfield 73, 3) := by decide +kernel
theorem dX0_ownStride_38 : decode cX0_ownStride 38 = .ok (.getfield 150, 3) := by decide +kernel
theorem dX0_ownStride_41 : decode cX0_ownStride 41 = .ok (.iload_n 1, 1) := by decide +kernel
theorem dX0_ownStride_42 : decode cX0_ownStride 42 = .ok (.invokevirtual 120, 3) := by decide +kernel
theorem dX0_ownStride_45 : decode cX0_ownStride 45 = .ok (.istore_n 3, 1) := by decide +kernel
theorem dX0_ownStride_46 : decode cX0_ownStride 46 = .ok (.goto 116, 3) := by decide +kernel
theorem dX0_ownStride_49 : decode cX0_ownStride 49 = .ok (.aload_n 0, 1) := by decide +kernel
theorem dX0_ownStride_50 : decode cX0_ownStride 50 = .ok (.getfield 73, 3) := by decide +kernel
theorem dX0_ownStride_53 : decode cX0_ownStride 53 = .ok (.aload_n 0, 1) := by decide +kernel
theorem dX0_ownStride_54 : decode cX0_ownStride 54 = .ok (.getfield 114, 3) := by decide +kernel
theorem dX0_ownStride_57 : decode cX0_ownStride 57 = .ok (.aload_n 0, 1) := by decide +kernel
theorem dX0_ownStride_58 : decode cX0_ownStride 58 = .ok (.getfield 73, 3) := by decide +kernel
theorem dX0_ownStride_61 : decode cX0_ownStride 61 = .ok (.getfield 130, 3) := by decide +kernel
theorem dX0_ownStride_64 : decode cX0_ownStride 64 = .ok (.iload_n 1, 1) := by decide +kernel
theorem dX0_ownStride_65 : decode cX0_ownStride 65 = .ok (.invokevirtual 120, 3) := by decide +kernel
theorem dX0_ownStride_68 : decode cX0_ownStride 68 = .ok (.invokevirtual 153, 3) := by decide +kernel
theorem dX0_ownStride_71 : decode cX0_ownStride 71 = .ok (.invokestatic 156, 3) := by decide +kernel
theorem dX0_ownStride_74 : decode cX0_ownStride 74 = .ok (.istore 4, 2) := by decide +kernel
theorem dX0_ownStride_76 : decode cX0_ownStride 76 = .ok (.aload_n 0, 1) := by decide +kernel
theorem dX0_ownStride_77 : decode cX0_ownStride 77 = .ok (.getfield 107, 3) := by decide +kernel
theorem dX0_ownStride_80 : decode cX0_ownStride 80 = .ok (.bipush 64, 2) := by decide +kernel
theorem dX0_ownStride_82 : decode cX0_ownStride 82 = .ok (.irem, 1) := by decide +kernel
theorem dX0_ownStride_83 : decode cX0_ownStride 83 = .ok (.iconst 5, 1) := by decide +kernel
theorem dX0_ownStride_84 : decode cX0_ownStride 84 = .ok (.imul, 1) := by decide +kernel
theorem dX0_ownStride_85 : decode cX0_ownStride 85 = .ok (.iload_n 1, 1) := by decide +kernel
theorem dX0_ownStride_86 : decode cX0_ownStride 86 = .ok (.iadd, 1) := by decide +kernel
theorem dX0_ownStride_87 : decode cX0_ownStride 87 = .ok (.bipush 9, 2) := by decide +kernel
theorem dX0_ownStride_89 : decode cX0_ownStride 89 = .ok (.imul, 1) := by decide +kernel
theorem dX0_ownStride_90 : decode cX0_ownStride 90 = .ok (.iload 4, 2) := by decide +kernel
theorem dX0_ownStride_92 : decode cX0_ownStride 92 = .ok (.iadd, 1) := by decide +kernel
theorem dX0_ownStride_93 : decode cX0_ownStride 93 = .ok (.istore 5, 2) := by decide +kernel
theorem dX0_ownStride_95 : decode cX0_ownStride 95 = .ok (.aload_n 0, 1) := by decide +kernel
theorem dX0_ownStride_96 : decode cX0_ownStride 96 = .ok (.getfield 70, 3) := by decide +kernel
theorem dX0_ownStride_99 : decode cX0_ownStride 99 = .ok (.iload 5, 2) := by decide +kernel
theorem dX0_ownStride_101 : decode cX0_ownStride 101 = .ok (.invokevirtual 120, 3) := by decide +kernel
theorem dX0_ownStride_104 : decode cX0_ownStride 104 = .ok (.aload_n 0, 1) := by decide +kernel
theorem dX0_ownStride_105 : decode cX0_ownStride 105 = .ok (.getfield 107, 3) := by decide +kernel
theorem dX0_ownStride_108 : decode cX0_ownStride 108 = .ok (.if_icmp .eq 44, 3) := by decide +kernel
theorem dX0_ownStride_111 : decode cX0_ownStride 111 = .ok (.aload_n 0, 1) := by decide +kernel
theorem dX0_ownStride_112 : decode cX0_ownStride 112 = .ok (.iload_n 1, 1) := by decide +kernel
theorem dX0_ownStride_113 : decode cX0_ownStride 113 = .ok (.iload 4, 2) := by decide +kernel
theorem dX0_ownStride_115 : decode cX0_ownStride 115 = .ok (.invokevirtual 161, 3) := by decide +kernel
theorem dX0_ownStride_118 : decode cX0_ownStride 118 = .ok (.aload_n 0, 1) := by decide +kernel
theorem dX0_ownStride_119 : decode cX0_ownStride 119 = .ok (.getfield 67, 3) := by decide +kernel
theorem dX0_ownStride_122 : decode cX0_ownStride 122 = .ok (.iload 5, 2) := by decide +kernel
theorem dX0_ownStride_124 : decode cX0_ownStride 124 = .ok (.aload_n 2, 1) := by decide +kernel
theorem dX0_ownStride_125 : decode cX0_ownStride 125 = .ok (.aload_n 0, 1) := by decide +kernel
theorem dX0_ownStride_126 : decode cX0_ownStride 126 = .ok (.getfield 61, 3) := by decide +kernel
theorem dX0_ownStride_129 : decode cX0_ownStride 129 = .ok (.aload_n 0, 1) := by decide +kernel
theorem dX0_ownStride_130 : decode cX0_ownStride 130 = .ok (.getfield 64, 3) := by decide +kernel
theorem dX0_ownStride_133 : decode cX0_ownStride 133 = .ok (.invokevirtual 165, 3) := by decide +kernel
theorem dX0_ownStride_136 : decode cX0_ownStride 136 = .ok (.invokevirtual 169, 3) := by decide +kernel
theorem dX0_ownStride_139 : decode cX0_ownStride 139 = .ok (.aload_n 0, 1) := by decide +kernel
theorem dX0_ownStride_140 : decode cX0_ownStride 140 = .ok (.getfield 70, 3) := by decide +kernel
theorem dX0_ownStride_143 : decode cX0_ownStride 143 = .ok (.iload 5, 2) := by decide +kernel
theorem dX0_ownStride_145 : decode cX0_ownStride 145 = .ok (.aload_n 0, 1) := by decide +kernel
theorem dX0_ownStride_146 : decode cX0_ownStride 146 = .ok (.getfield 107, 3) := by decide +kernel
theorem dX0_ownStride_149 : decode cX0_ownStride 149 = .ok (.invokevirtual 169, 3) := by decide +kernel
theorem dX0_ownStride_152 : decode cX0_ownStride 152 = .ok (.aload_n 0, 1) := by decide +kernel
theorem dX0_ownStride_153 : decode cX0_ownStride 153 = .ok (.getfield 67, 3) := by decide +kernel
theorem dX0_ownStride_156 : decode cX0_ownStride 156 = .ok (.iload 5, 2) := by decide +kernel
theorem dX0_ownStride_158 : decode cX0_ownStride 158 = .ok (.invokevirtual 120, 3) := by decide +kernel
theorem dX0_ownStride_161 : decode cX0_ownStride 161 = .ok (.istore_n 3, 1) := by decide +kernel
theorem dX0_ownStride_162 : decode cX0_ownStride 162 = .ok (.aload_n 0, 1) := by decide +kernel
theorem dX0_ownStride_163 : decode cX0_ownStride 163 = .ok (.getfield 73, 3) := by decide +kernel
theorem dX0_ownStride_166 : decode cX0_ownStride 166 = .ok (.getfield 117, 3) := by decide +kernel
theorem dX0_ownStride_169 : decode cX0_ownStride 169 = .ok (.iload_n 1, 1) := by decide +kernel
theorem dX0_ownStride_170 : decode cX0_ownStride 170 = .ok (.invokevirtual 120, 3) := by decide +kernel
theorem dX0_ownStride_173 : decode cX0_ownStride 173 = .ok (.iconst 1, 1) := by decide +kernel
theorem dX0_ownStride_174 : decode cX0_ownStride 174 = .ok (.if_icmp .ne 22, 3) := by decide +kernel
theorem dX0_ownStride_177 : decode cX0_ownStride 177 = .ok (.aload_n 0, 1) := by decide +kernel
theorem dX0_ownStride_178 : decode cX0_ownStride 178 = .ok (.getfield 73, 3) := by decide +kernel
theorem dX0_ownStride_181 : decode cX0_ownStride 181 = .ok (.aload_n 0, 1) := by decide +kernel
theorem dX0_ownStride_182 : decode cX0_ownStride 182 = .ok (.getfield 107, 3) := by decide +kernel
theorem dX0_ownStride_185 : decode cX0_ownStride 185 = .ok (.invokevirtual 172, 3) := by decide +kernel
theorem dX0_ownStride_188 : decode cX0_ownStride 188 = .ok (.ifCond .eq 8, 3) := by decide +kernel
theorem dX0_ownStride_191 : decode cX0_ownStride 191 = .ok (.iload_n 3, 1) := by decide +kernel
theorem dX0_ownStride_192 : decode cX0_ownStride 192 = .ok (.ineg, 1) := by decide +kernel
theorem dX0_ownStride_193 : decode cX0_ownStride 193 = .ok (.goto 4, 3) := by decide +kernel
theorem dX0_ownStride_196 : decode cX0_ownStride 196 = .ok (.iload_n 3, 1) := by decide +kernel
theorem dX0_ownStride_197 : decode cX0_ownStride 197 = .ok (.ireturn, 1) := by decide +kernel
set_option maxRecDepth 100000 in
theorem u_X0_ownStride_162 {x : sm_Cx} {n : Nat} {F : Int32 → sm_MI → sm_ML → Prop} {T : List sm_Sh} {I : sm_MI} {L : sm_ML} {a1 : Int32} {u2 : Option Value} {a3 : Int32} {u4 : Option Value} {u5 : Option Value} (hB : sm_Bs T) (hx : sm_Ok x mX0_ownStride (n + 1) (sm_KI T F))
    (h : sm_CI n mX3_at T I L [.ref 29, .int a1] (fun r2 I1 L1 => (¬ r2 = 1 → F a3 I1 L1) ∧ (r2 = 1 → sm_CZ n mX8_isFull T I1 L1 [.ref 24, .int (I1 53 1)] (fun r4 I3 L3 => (r4 = false → F a3 I3 L3) ∧ (r4 = true → F (-a3) I3 L3))))) :
    sm_V x 0 0 T I L 162 [some (.ref 53), some (.int a1), u2, some (.int a3), u4, u5] [] :=
  sm_aload_n (z := 53) hx dX0_ownStride_162 rfl (sm_getR hx dX0_ownStride_163 fl_X0_73_1 (t_53 hB) rfl (sm_getR hx dX0_ownStride_166 fl_X0_117_8 (t_24 hB) rfl (sm_iload_n (z := a1) hx dX0_ownStride_169 rfl (sm_callVI (args := [.int a1]) (st := []) hx dX0_ownStride_170 lv_X0_120_3 rfl rfl (t_29 hB) rfl rfl h (fun r2 I1 L1 hI1 => sm_iconst (v := 1) hx dX0_ownStride_173 sm_kc_1 (sm_icmpne (a := r2) (b := 1) hx dX0_ownStride_174 (tgt := 196) (by decide) (fun q2 => sm_iload_n (z := a3) hx dX0_ownStride_196 rfl (sm_iretI hx dX0_ownStride_197 rfl (hI1.1 q2))) (fun q2 => sm_aload_n (z := 53) hx dX0_ownStride_177 rfl (sm_getR hx dX0_ownStride_178 fl_X0_73_1 (t_53 hB) rfl (sm_aload_n (z := 53) hx dX0_ownStride_181 rfl (sm_getI hx dX0_ownStride_182 fl_X0_107_1 (t_53 hB) rfl (sm_callVZ (args := [.int (I1 53 1)]) (st := []) hx dX0_ownStride_185 lv_X0_172_8 rfl rfl (t_24 hB) rfl rfl (hI1.2 q2) (fun r4 I3 L3 hI3 => sm_ifeqZ (b := r4) hx dX0_ownStride_188 (tgt := 196) (by decide) (fun q1 => sm_iload_n (z := a3) hx dX0_ownStride_196 rfl (sm_iretI hx dX0_ownStride_197 rfl (hI3.1 q1))) (fun q1 => sm_iload_n (z := a3) hx dX0_ownStride_191 rfl (sm_ineg (a := a3) hx dX0_ownStride_192 (sm_goto hx dX0_ownStride_193 (tgt := 197) (by decide) (sm_iretI hx dX0_ownStride_197 rfl (hI3.2 q1)))))))))))))))))
set_option maxRecDepth 100000 in
theorem c_X0_ownStride {n : Nat} {F : Int32 → sm_MI → sm_ML → Prop} {T : List sm_Sh} {I : sm_MI} {L : sm_ML} {a1 : Int32} (hB : sm_Bs T)
    (h : ∀ x : sm_Cx, sm_Ok x mX0_ownStride (n + 1) (sm_KI T F) → sm_CR n mX0_ruleOf T I L [.ref 53, .int a1] (fun r2 I1 L1 => (r2 = none → sm_CI n mX3_at T I1 L1 [.ref 54, .int a1] (fun r5 I4 L4 => (r5 = (-1) → sm_CI n mX3_at T I4 L4 [.ref 27, .int a1] (fun r7 I6 L6 => sm_V x 0 0 T I6 L6 162 [some (.ref 53), some (.int a1), some (.null), some (.int r7), none, none] [])) ∧ (¬ r5 = (-1) → sm_CI n mX3_at T I4 L4 [.ref 54, .int a1] (fun r9 I8 L8 => sm_V x 0 0 T I8 L8 162 [some (.ref 53), some (.int a1), some (.null), some (.int r9), none, none] [])))) ∧ (∀ k3 : Nat, r2 = some k3 → sm_CI n mX3_at T I1 L1 [.ref 54, .int a1] (fun r11 I10 L10 => (r11 = (-1) → sm_CI n mX3_at T I10 L10 [.ref 25, .int a1] (fun r13 I12 L12 => sm_CI n mX8_thingsIn T I12 L12 [.ref 24, .int (I10 53 0), .int r13] (fun r15 I14 L14 => sm_CI n mJ6_bitCount_0f7a4 T I14 L14 [.int r15] (fun r17 I16 L16 => ∀ v18 : Int32, v18 = ((((((I16 53 1) - (I16 53 1) / 64 * 64) * 5) + a1) * 9) + r17) → sm_CI n mX3_at T I16 L16 [.ref 66, .int v18] (fun r20 I19 L19 => (r20 = (I19 53 1) → sm_CI n mX3_at T I19 L19 [.ref 64, .int v18] (fun r22 I21 L21 => sm_V x 0 0 T I21 L21 162 [some (.ref 53), some (.int a1), some (.ref k3), some (.int r22), some (.int r17), some (.int v18)] [])) ∧ (¬ r20 = (I19 53 1) → sm_CV n mX0_tellLetters T I19 L19 [.ref 53, .int a1, .int r17] (fun I23 L23 => ∃ w24 w25 : Nat, T[k3]? = some (.inr (4, [.ref w24, .ref w25])) ∧ (sm_CI n mX4_worth T I23 L23 [.ref k3, .ref 60, .ref 62] (fun r27 I26 L26 => sm_CV n mX3_set T I26 L26 [.ref 64, .int v18, .int r27] (fun I28 L28 => sm_CV n mX3_set T I28 L28 [.ref 66, .int v18, .int (I28 53 1)] (fun I29 L29 => sm_CI n mX3_at T I29 L29 [.ref 64, .int v18] (fun r31 I30 L30 => sm_V x 0 0 T I30 L30 162 [some (.ref 53), some (.int a1), some (.ref k3), some (.int r31), some (.int r17), some (.int v18)] [])))))))))))) ∧ (¬ r11 = (-1) → sm_CI n mX3_at T I10 L10 [.ref 54, .int a1] (fun r33 I32 L32 => sm_V x 0 0 T I32 L32 162 [some (.ref 53), some (.int a1), some (.ref k3), some (.int r33), none, none] [])))))) :
    sm_CI (n + 1) mX0_ownStride T I L [.ref 53, .int a1] F :=
  sm_CI.of (by decide +kernel) rfl (fun x hx => show sm_V x 0 0 T I L 0 [some (.ref 53), some (.int a1), none, none, none, none] [] from
  sm_aload_n (z := 53) hx dX0_ownStride_0 rfl (sm_iload_n (z := a1) hx dX0_ownStride_1 rfl (sm_callVR (args := [.int a1]) (st := []) hx dX0_ownStride_2 lv_X0_146_1 rfl rfl (t_53 hB) rfl rfl (h x hx) (fun r2 I1 L1 hI1 => sm_rfc r2 (fun q6 => sm_astore_nN (ls' := [some (.ref 53), some (.int a1), some (.null), none, none, none]) hx dX0_ownStride_5 (by decide) rfl (sm_aload_n (z := 53) hx dX0_ownStride_6 rfl (sm_getR hx dX0_ownStride_7 fl_X0_16_1 (t_53 hB) rfl (sm_iload_n (z := a1) hx dX0_ownStride_10 rfl (sm_callVI (args := [.int a1]) (st := []) hx dX0_ownStride_11 lv_X0_120_3 rfl rfl (t_54 hB) rfl rfl (hI1.1 q6) (fun r5 I4 L4 hI4 => sm_iconst (v := (-1)) hx dX0_ownStride_14 sm_kc_m1 (sm_icmpeq (a := r5) (b := (-1)) hx dX0_ownStride_15 (tgt := 30) (by decide) (fun q3 => sm_aload_nN hx dX0_ownStride_30 rfl (sm_ifnonnullN hx dX0_ownStride_31 (sm_aload_n (z := 53) hx dX0_ownStride_34 rfl (sm_getR hx dX0_ownStride_35 fl_X0_73_1 (t_53 hB) rfl (sm_getR hx dX0_ownStride_38 fl_X0_150_8 (t_24 hB) rfl (sm_iload_n (z := a1) hx dX0_ownStride_41 rfl (sm_callVI (args := [.int a1]) (st := []) hx dX0_ownStride_42 lv_X0_120_3 rfl rfl (t_27 hB) rfl rfl (hI4.1 q3) (fun r7 I6 L6 hI6 => sm_istore_n (ls' := [some (.ref 53), some (.int a1), some (.null), some (.int r7), none, none]) hx dX0_ownStride_45 (by decide) rfl (sm_goto hx dX0_ownStride_46 (tgt := 162) (by decide) (hI6)))))))))) (fun q3 => sm_aload_n (z := 53) hx dX0_ownStride_18 rfl (sm_getR hx dX0_ownStride_19 fl_X0_16_1 (t_53 hB) rfl (sm_iload_n (z := a1) hx dX0_ownStride_22 rfl (sm_callVI (args := [.int a1]) (st := []) hx dX0_ownStride_23 lv_X0_120_3 rfl rfl (t_54 hB) rfl rfl (hI4.2 q3) (fun r9 I8 L8 hI8 => sm_istore_n (ls' := [some (.ref 53), some (.int a1), some (.null), some (.int r9), none, none]) hx dX0_ownStride_26 (by decide) rfl (sm_goto hx dX0_ownStride_27 (tgt := 162) (by decide) (hI8)))))))))))))) (fun k3 q6 => sm_astore_n (ls' := [some (.ref 53), some (.int a1), some (.ref k3), none, none, none]) hx dX0_ownStride_5 (by decide) rfl (sm_aload_n (z := 53) hx dX0_ownStride_6 rfl (sm_getR hx dX0_ownStride_7 fl_X0_16_1 (t_53 hB) rfl (sm_iload_n (z := a1) hx dX0_ownStride_10 rfl (sm_callVI (args := [.int a1]) (st := []) hx dX0_ownStride_11 lv_X0_120_3 rfl rfl (t_54 hB) rfl rfl (hI1.2 k3 q6) (fun r11 I10 L10 hI10 => sm_iconst (v := (-1)) hx dX0_ownStride_14 sm_kc_m1 (sm_icmpeq (a := r11) (b := (-1)) hx dX0_ownStride_15 (tgt := 30) (by decide) (fun q5 => sm_aload_n (z := k3) hx dX0_ownStride_30 rfl (sm_ifnonnull hx dX0_ownStride_31 (tgt := 49) (by decide) (sm_aload_n (z := 53) hx dX0_ownStride_49 rfl (sm_getR hx dX0_ownStride_50 fl_X0_73_1 (t_53 hB) rfl (sm_aload_n (z := 53) hx dX0_ownStride_53 rfl (sm_getI hx dX0_ownStride_54 fl_X0_114_1 (t_53 hB) rfl (sm_aload_n (z := 53) hx dX0_ownStride_57 rfl (sm_getR hx dX0_ownStride_58 fl_X0_73_1 (t_53 hB) rfl (sm_getR hx dX0_ownStride_61 fl_X0_130_8 (t_24 hB) rfl (sm_iload_n (z := a1) hx dX0_ownStride_64 rfl (sm_callVI (args := [.int a1]) (st := [.int (I10 53 0), .ref 24]) hx dX0_ownStride_65 lv_X0_120_3 rfl rfl (t_25 hB) rfl rfl (hI10.1 q5) (fun r13 I12 L12 hI12 => sm_callVI (args := [.int (I10 53 0), .int r13]) (st := []) hx dX0_ownStride_68 lv_X0_153_8 rfl rfl (t_24 hB) rfl rfl hI12 (fun r15 I14 L14 hI14 => sm_callSI (args := [.int r15]) (st := []) hx dX0_ownStride_71 ls_X0_156 rfl rfl rfl hI14 (fun r17 I16 L16 hI16 => sm_istore (ls' := [some (.ref 53), some (.int a1), some (.ref k3), none, some (.int r17), none]) hx dX0_ownStride_74 (by decide) rfl (sm_aload_n (z := 53) hx dX0_ownStride_76 rfl (sm_getI hx dX0_ownStride_77 fl_X0_107_1 (t_53 hB) rfl (sm_bipush (v := 64) hx dX0_ownStride_80 sm_kb_64 (sm_irem (a := (I16 53 1)) (b := 64) hx dX0_ownStride_82 (by decide) (sm_iconst (v := 5) hx dX0_ownStride_83 sm_kc_5 (sm_imul (a := ((I16 53 1) - (I16 53 1) / 64 * 64)) (b := 5) hx dX0_ownStride_84 (sm_iload_n (z := a1) hx dX0_ownStride_85 rfl (sm_iadd (a := (((I16 53 1) - (I16 53 1) / 64 * 64) * 5)) (b := a1) hx dX0_ownStride_86 (sm_bipush (v := 9) hx dX0_ownStride_87 sm_kb_9 (sm_imul (a := ((((I16 53 1) - (I16 53 1) / 64 * 64) * 5) + a1)) (b := 9) hx dX0_ownStride_89 (sm_iload (z := r17) hx dX0_ownStride_90 rfl (sm_iadd (a := (((((I16 53 1) - (I16 53 1) / 64 * 64) * 5) + a1) * 9)) (b := r17) hx dX0_ownStride_92 (sm_istore (ls' := [some (.ref 53), some (.int a1), some (.ref k3), none, some (.int r17), some (.int ((((((I16 53 1) - (I16 53 1) / 64 * 64) * 5) + a1) * 9) + r17))]) hx dX0_ownStride_93 (by decide) rfl (sm_aload_n (z := 53) hx dX0_ownStride_95 rfl (sm_getR hx dX0_ownStride_96 fl_X0_70_1 (t_53 hB) rfl (sm_iload (z := ((((((I16 53 1) - (I16 53 1) / 64 * 64) * 5) + a1) * 9) + r17)) hx dX0_ownStride_99 rfl (sm_callVI (args := [.int ((((((I16 53 1) - (I16 53 1) / 64 * 64) * 5) + a1) * 9) + r17)]) (st := []) hx dX0_ownStride_101 lv_X0_120_3 rfl rfl (t_66 hB) rfl rfl (hI16 _ rfl) (fun r20 I19 L19 hI19 => sm_aload_n (z := 53) hx dX0_ownStride_104 rfl (sm_getI hx dX0_ownStride_105 fl_X0_107_1 (t_53 hB) rfl (sm_icmpeq (a := r20) (b := (I19 53 1)) hx dX0_ownStride_108 (tgt := 152) (by decide) (fun q4 => sm_aload_n (z := 53) hx dX0_ownStride_152 rfl (sm_getR hx dX0_ownStride_153 fl_X0_67_1 (t_53 hB) rfl (sm_iload (z := ((((((I16 53 1) - (I16 53 1) / 64 * 64) * 5) + a1) * 9) + r17)) hx dX0_ownStride_156 rfl (sm_callVI (args := [.int ((((((I16 53 1) - (I16 53 1) / 64 * 64) * 5) + a1) * 9) + r17)]) (st := []) hx dX0_ownStride_158 lv_X0_120_3 rfl rfl (t_64 hB) rfl rfl (hI19.1 q4) (fun r22 I21 L21 hI21 => sm_istore_n (ls' := [some (.ref 53), some (.int a1), some (.ref k3), some (.int r22), some (.int r17), some (.int ((((((I16 53 1) - (I16 53 1) / 64 * 64) * 5) + a1) * 9) + r17))]) hx dX0_ownStride_161 (by decide) rfl (hI21)))))) (fun q4 => sm_aload_n (z := 53) hx dX0_ownStride_111 rfl (sm_iload_n (z := a1) hx dX0_ownStride_112 rfl (sm_iload (z := r17) hx dX0_ownStride_113 rfl (sm_callVV (args := [.int a1, .int r17]) (st := []) hx dX0_ownStride_115 lv_X0_161_1 rfl rfl (t_53 hB) rfl rfl (hI19.2 q4) (fun I23 L23 hI23 => sm_aload_n (z := 53) hx dX0_ownStride_118 rfl (sm_getR hx dX0_ownStride_119 fl_X0_67_1 (t_53 hB) rfl (sm_iload (z := ((((((I16 53 1) - (I16 53 1) / 64 * 64) * 5) + a1) * 9) + r17)) hx dX0_ownStride_122 rfl (sm_aload_n (z := k3) hx dX0_ownStride_124 rfl (sm_aload_n (z := 53) hx dX0_ownStride_125 rfl (sm_getR hx dX0_ownStride_126 fl_X0_61_1 (t_53 hB) rfl (sm_aload_n (z := 53) hx dX0_ownStride_129 rfl (sm_getR hx dX0_ownStride_130 fl_X0_64_1 (t_53 hB) rfl ((match hI23 with | ⟨w24, w25, hf133, hg133⟩ => sm_callVI (args := [.ref 60, .ref 62]) (st := [.int ((((((I16 53 1) - (I16 53 1) / 64 * 64) * 5) + a1) * 9) + r17), .ref 64]) hx dX0_ownStride_133 lv_X0_165_4 rfl rfl hf133 rfl rfl hg133 (fun r27 I26 L26 hI26 => sm_callVV (args := [.int ((((((I16 53 1) - (I16 53 1) / 64 * 64) * 5) + a1) * 9) + r17), .int r27]) (st := []) hx dX0_ownStride_136 lv_X0_169_3 rfl rfl (t_64 hB) rfl rfl hI26 (fun I28 L28 hI28 => sm_aload_n (z := 53) hx dX0_ownStride_139 rfl (sm_getR hx dX0_ownStride_140 fl_X0_70_1 (t_53 hB) rfl (sm_iload (z := ((((((I16 53 1) - (I16 53 1) / 64 * 64) * 5) + a1) * 9) + r17)) hx dX0_ownStride_143 rfl (sm_aload_n (z := 53) hx dX0_ownStride_145 rfl (sm_getI hx dX0_ownStride_146 fl_X0_107_1 (t_53 hB) rfl (sm_callVV (args := [.int ((((((I16 53 1) - (I16 53 1) / 64 * 64) * 5) + a1) * 9) + r17), .int (I28 53 1)]) (st := []) hx dX0_ownStride_149 lv_X0_169_3 rfl rfl (t_66 hB) rfl rfl hI28 (fun I29 L29 hI29 => sm_aload_n (z := 53) hx dX0_ownStride_152 rfl (sm_getR hx dX0_ownStride_153 fl_X0_67_1 (t_53 hB) rfl (sm_iload (z := ((((((I16 53 1) - (I16 53 1) / 64 * 64) * 5) + a1) * 9) + r17)) hx dX0_ownStride_156 rfl (sm_callVI (args := [.int ((((((I16 53 1) - (I16 53 1) / 64 * 64) * 5) + a1) * 9) + r17)]) (st := []) hx dX0_ownStride_158 lv_X0_120_3 rfl rfl (t_64 hB) rfl rfl hI29 (fun r31 I30 L30 hI30 => sm_istore_n (ls' := [some (.ref 53), some (.int a1), some (.ref k3), some (.int r31), some (.int r17), some (.int ((((((I16 53 1) - (I16 53 1) / 64 * 64) * 5) + a1) * 9) + r17))]) hx dX0_ownStride_161 (by decide) rfl (hI30))))))))))))))))))))))))))))))))))))))))))))))))))))))))))))) (fun q5 => sm_aload_n (z := 53) hx dX0_ownStride_18 rfl (sm_getR hx dX0_ownStride_19 fl_X0_16_1 (t_53 hB) rfl (sm_iload_n (z := a1) hx dX0_ownStride_22 rfl (sm_callVI (args := [.int a1]) (st := []) hx dX0_ownStride_23 lv_X0_120_3 rfl rfl (t_54 hB) rfl rfl (hI10.2 q5) (fun r33 I32 L32 hI32 => sm_istore_n (ls' := [some (.ref 53), some (.int a1), some (.ref k3), some (.int r33), none, none]) hx dX0_ownStride_26 (by decide) rfl (sm_goto hx dX0_ownStride_27 (tgt := 162) (by decide) (hI32))))))))))))))))))
theorem dX0_ruleOf_0 : decode cX0_ruleOf 0 = .ok (.aload_n 0, 1) := by decide +kernel
theorem dX0_ruleOf_1 : decode cX0_ruleOf 1 = .ok (.getfield 73, 3) := by decide +kernel
theorem dX0_ruleOf_4 : decode cX0_ruleOf 4 = .ok (.getfield 176, 3) := by decide +kernel
theorem dX0_ruleOf_7 : decode cX0_ruleOf 7 = .ok (.iload_n 1, 1) := by decide +kernel
theorem dX0_ruleOf_8 : decode cX0_ruleOf 8 = .ok (.invokevirtual 120, 3) := by decide +kernel
theorem dX0_ruleOf_11 : decode cX0_ruleOf 11 = .ok (.istore_n 2, 1) := by decide +kernel
theorem dX0_ruleOf_12 : decode cX0_ruleOf 12 = .ok (.iload_n 2, 1) := by decide +kernel
theorem dX0_ruleOf_13 : decode cX0_ruleOf 13 = .ok (.ifCond .lt 28, 3) := by decide +kernel
theorem dX0_ruleOf_16 : decode cX0_ruleOf 16 = .ok (.iload_n 2, 1) := by decide +kernel
theorem dX0_ruleOf_17 : decode cX0_ruleOf 17 = .ok (.aload_n 0, 1) := by decide +kernel
theorem dX0_ruleOf_18 : decode cX0_ruleOf 18 = .ok (.getfield 77, 3) := by decide +kernel
theorem dX0_ruleOf_21 : decode cX0_ruleOf 21 = .ok (.invokevirtual 179, 3) := by decide +kernel
theorem dX0_ruleOf_24 : decode cX0_ruleOf 24 = .ok (.if_icmp .ge 17, 3) := by decide +kernel
theorem dX0_ruleOf_27 : decode cX0_ruleOf 27 = .ok (.aload_n 0, 1) := by decide +kernel
theorem dX0_ruleOf_28 : decode cX0_ruleOf 28 = .ok (.getfield 77, 3) := by decide +kernel
theorem dX0_ruleOf_31 : decode cX0_ruleOf 31 = .ok (.iload_n 2, 1) := by decide +kernel
theorem dX0_ruleOf_32 : decode cX0_ruleOf 32 = .ok (.invokevirtual 184, 3) := by decide +kernel
theorem dX0_ruleOf_35 : decode cX0_ruleOf 35 = .ok (.checkcast 51, 3) := by decide +kernel
theorem dX0_ruleOf_38 : decode cX0_ruleOf 38 = .ok (.goto 4, 3) := by decide +kernel
theorem dX0_ruleOf_41 : decode cX0_ruleOf 41 = .ok (.aconst_null, 1) := by decide +kernel
theorem dX0_ruleOf_42 : decode cX0_ruleOf 42 = .ok (.areturn, 1) := by decide +kernel
set_option maxRecDepth 100000 in
theorem c_X0_ruleOf {n : Nat} {F : Option Nat → sm_MI → sm_ML → Prop} {T : List sm_Sh} {I : sm_MI} {L : sm_ML} {a1 : Int32} (hB : sm_Bs T) {e0 : Nat} (h23 : T[23]? = some (.inr (0, [.int 0, .ref e0, .int 0])))
    (h : sm_CI n mX3_at T I L [.ref 33, .int a1] (fun r2 I1 L1 => (r2 < 0 → F none I1 L1) ∧ (¬ r2 < 0 → sm_CI n mJx4a65c_size_8abf5 T I1 L1 [.ref 23] (fun r4 I3 L3 => (r4 ≤ r2 → F none I3 L3) ∧ (¬ r4 ≤ r2 → sm_CR n mJx4a65c_get_915e3 T I3 L3 [.ref 23, .int r2] (fun r6 I5 L5 => (r6 = none → F none I5 L5) ∧ (∀ k7 : Nat, r6 = some k7 → ∃ f8 : List Value, T[k7]? = some (.inr (4, f8)) ∧ (F (some k7) I5 L5)))))))) :
    sm_CR (n + 1) mX0_ruleOf T I L [.ref 53, .int a1] F :=
  sm_CR.of (by decide +kernel) rfl (fun x hx => show sm_V x 0 0 T I L 0 [some (.ref 53), some (.int a1), none] [] from
  sm_aload_n (z := 53) hx dX0_ruleOf_0 rfl (sm_getR hx dX0_ruleOf_1 fl_X0_73_1 (t_53 hB) rfl (sm_getR hx dX0_ruleOf_4 fl_X0_176_8 (t_24 hB) rfl (sm_iload_n (z := a1) hx dX0_ruleOf_7 rfl (sm_callVI (args := [.int a1]) (st := []) hx dX0_ruleOf_8 lv_X0_120_3 rfl rfl (t_33 hB) rfl rfl h (fun r2 I1 L1 hI1 => sm_istore_n (ls' := [some (.ref 53), some (.int a1), some (.int r2)]) hx dX0_ruleOf_11 (by decide) rfl (sm_iload_n (z := r2) hx dX0_ruleOf_12 rfl (sm_iflt (a := r2) hx dX0_ruleOf_13 (tgt := 41) (by decide) (fun q3 => sm_null hx dX0_ruleOf_41 (sm_aretRN hx dX0_ruleOf_42 ⟨_, rfl, Or.inl ⟨_, rfl⟩⟩ (hI1.1 q3))) (fun q3 => sm_iload_n (z := r2) hx dX0_ruleOf_16 rfl (sm_aload_n (z := 53) hx dX0_ruleOf_17 rfl (sm_getR hx dX0_ruleOf_18 fl_X0_77_1 (t_53 hB) rfl (sm_callVI (args := []) (st := [.int r2]) hx dX0_ruleOf_21 lv_X0_179_0 rfl rfl h23 rfl rfl (hI1.2 q3) (fun r4 I3 L3 hI3 => sm_icmpge (a := r2) (b := r4) hx dX0_ruleOf_24 (tgt := 41) (by decide) (fun q2 => sm_null hx dX0_ruleOf_41 (sm_aretRN hx dX0_ruleOf_42 ⟨_, rfl, Or.inl ⟨_, rfl⟩⟩ (hI3.1 q2))) (fun q2 => sm_aload_n (z := 53) hx dX0_ruleOf_27 rfl (sm_getR hx dX0_ruleOf_28 fl_X0_77_1 (t_53 hB) rfl (sm_iload_n (z := r2) hx dX0_ruleOf_31 rfl (sm_callVR (args := [.int r2]) (st := []) hx dX0_ruleOf_32 lv_X0_184_0 rfl rfl h23 rfl rfl (hI3.2 q2) (fun r6 I5 L5 hI5 => sm_rfc r6 (fun q1 => sm_castN hx dX0_ruleOf_35 (sm_goto hx dX0_ruleOf_38 (tgt := 42) (by decide) (sm_aretRN hx dX0_ruleOf_42 ⟨_, rfl, Or.inl ⟨_, rfl⟩⟩ (hI5.1 q1)))) (fun k7 q1 => (match (hI5.2 k7 q1) with | ⟨_, hf35, hg35⟩ => sm_castS hx dX0_ruleOf_35 kc_X0_51 hf35 rfl (sm_goto hx dX0_ruleOf_38 (tgt := 42) (by decide) (sm_aretR hx dX0_ruleOf_42 ⟨_, rfl, Or.inl ⟨_, rfl⟩⟩ hg35))))))))))))))))))))))
theorem dX0_tellLetters_0 : decode cX0_tellLetters 0 = .ok (.aload_n 0, 1) := by decide +kernel
theorem dX0_tellLetters_1 : decode cX0_tellLetters 1 = .ok (.getfield 61, 3) := by decide +kernel
theorem dX0_tellLetters_4 : decode cX0_tellLetters 4 = .ok (.iconst 0, 1) := by decide +kernel
theorem dX0_tellLetters_5 : decode cX0_tellLetters 5 = .ok (.aload_n 0, 1) := by decide +kernel
theorem dX0_tellLetters_6 : decode cX0_tellLetters 6 = .ok (.getfield 107, 3) := by decide +kernel
theorem dX0_tellLetters_9 : decode cX0_tellLetters 9 = .ok (.invokevirtual 169, 3) := by decide +kernel
theorem dX0_tellLetters_12 : decode cX0_tellLetters 12 = .ok (.aload_n 0, 1) := by decide +kernel
theorem dX0_tellLetters_13 : decode cX0_tellLetters 13 = .ok (.getfield 61, 3) := by decide +kernel
theorem dX0_tellLetters_16 : decode cX0_tellLetters 16 = .ok (.iconst 1, 1) := by decide +kernel
theorem dX0_tellLetters_17 : decode cX0_tellLetters 17 = .ok (.aload_n 0, 1) := by decide +kernel
theorem dX0_tellLetters_18 : decode cX0_tellLetters 18 = .ok (.getfield 73, 3) := by decide +kernel
theorem dX0_tellLetters_21 : decode cX0_tellLetters 21 = .ok (.getfield 130, 3) := by decide +kernel
theorem dX0_tellLetters_24 : decode cX0_tellLetters 24 = .ok (.iload_n 1, 1) := by decide +kernel
theorem dX0_tellLetters_25 : decode cX0_tellLetters 25 = .ok (.invokevirtual 120, 3) := by decide +kernel
theorem dX0_tellLetters_28 : decode cX0_tellLetters 28 = .ok (.invokevirtual 169, 3) := by decide +kernel
theorem dX0_tellLetters_31 : decode cX0_tellLetters 31 = .ok (.aload_n 0, 1) := by decide +kernel
theorem dX0_tellLetters_32 : decode cX0_tellLetters 32 = .ok (.getfield 61, 3) := by decide +kernel
theorem dX0_tellLetters_35 : decode cX0_tellLetters 35 = .ok (.iconst 2, 1) := by decide +kernel
theorem dX0_tellLetters_36 : decode cX0_tellLetters 36 = .ok (.aload_n 0, 1) := by decide +kernel
theorem dX0_tellLetters_37 : decode cX0_tellLetters 37 = .ok (.getfield 73, 3) := by decide +kernel
theorem dX0_tellLetters_40 : decode cX0_tellLetters 40 = .ok (.getfield 150, 3) := by decide +kernel
theorem dX0_tellLetters_43 : decode cX0_tellLetters 43 = .ok (.iload_n 1, 1) := by decide +kernel
theorem dX0_tellLetters_44 : decode cX0_tellLetters 44 = .ok (.invokevirtual 120, 3) := by decide +kernel
theorem dX0_tellLetters_47 : decode cX0_tellLetters 47 = .ok (.invokevirtual 169, 3) := by decide +kernel
theorem dX0_tellLetters_50 : decode cX0_tellLetters 50 = .ok (.aload_n 0, 1) := by decide +kernel
theorem dX0_tellLetters_51 : decode cX0_tellLetters 51 = .ok (.getfield 61, 3) := by decide +kernel
theorem dX0_tellLetters_54 : decode cX0_tellLetters 54 = .ok (.iconst 3, 1) := by decide +kernel
theorem dX0_tellLetters_55 : decode cX0_tellLetters 55 = .ok (.iload_n 2, 1) := by decide +kernel
theorem dX0_tellLetters_56 : decode cX0_tellLetters 56 = .ok (.invokevirtual 169, 3) := by decide +kernel
theorem dX0_tellLetters_59 : decode cX0_tellLetters 59 = .ok (.aload_n 0, 1) := by decide +kernel
theorem dX0_tellLetters_60 : decode cX0_tellLetters 60 = .ok (.getfield 61, 3) := by decide +kernel
theorem dX0_tellLetters_63 : decode cX0_tellLetters 63 = .ok (.iconst 4, 1) := by decide +kernel
theorem dX0_tellLetters_64 : decode cX0_tellLetters 64 = .ok (.aload_n 0, 1) := by decide +kernel
theorem dX0_tellLetters_65 : decode cX0_tellLetters 65 = .ok (.getfield 73, 3) := by decide +kernel
theorem dX0_tellLetters_68 : decode cX0_tellLetters 68 = .ok (.aload_n 0, 1) := by decide +kernel
theorem dX0_tellLetters_69 : decode cX0_tellLetters 69 = .ok (.getfield 107, 3) := by decide +kernel
theorem dX0_tellLetters_72 : decode cX0_tellLetters 72 = .ok (.invokevirtual 172, 3) := by decide +kernel
theorem dX0_tellLetters_75 : decode cX0_tellLetters 75 = .ok (.ifCond .eq 7, 3) := by decide +kernel
theorem dX0_tellLetters_78 : decode cX0_tellLetters 78 = .ok (.iconst 1, 1) := by decide +kernel
theorem dX0_tellLetters_79 : decode cX0_tellLetters 79 = .ok (.goto 4, 3) := by decide +kernel
theorem dX0_tellLetters_82 : decode cX0_tellLetters 82 = .ok (.iconst 0, 1) := by decide +kernel
theorem dX0_tellLetters_83 : decode cX0_tellLetters 83 = .ok (.invokevirtual 169, 3) := by decide +kernel
theorem dX0_tellLetters_86 : decode cX0_tellLetters 86 = .ok (.aload_n 0, 1) := by decide +kernel
theorem dX0_tellLetters_87 : decode cX0_tellLetters 87 = .ok (.getfield 61, 3) := by decide +kernel
theorem dX0_tellLetters_90 : decode cX0_tellLetters 90 = .ok (.iconst 5, 1) := by decide +kernel
theorem dX0_tellLetters_91 : decode cX0_tellLetters 91 = .ok (.iload_n 1, 1) := by decide +kernel
theorem dX0_tellLetters_92 : decode cX0_tellLetters 92 = .ok (.invokevirtual 169, 3) := by decide +kernel
theorem dX0_tellLetters_95 : decode cX0_tellLetters 95 = .ok (.return_, 1) := by decide +kernel
set_option maxRecDepth 100000 in
theorem c_X0_tellLetters {n : Nat} {F : sm_MI → sm_ML → Prop} {T : List sm_Sh} {I : sm_MI} {L : sm_ML} {a1 : Int32} {a2 : Int32} (hB : sm_Bs T)
    (h : sm_CV n mX3_set T I L [.ref 60, .int 0, .int (I 53 1)] (fun I1 L1 => sm_CI n mX3_at T I1 L1 [.ref 25, .int a1] (fun r3 I2 L2 => sm_CV n mX3_set T I2 L2 [.ref 60, .int 1, .int r3] (fun I4 L4 => sm_CI n mX3_at T I4 L4 [.ref 27, .int a1] (fun r6 I5 L5 => sm_CV n mX3_set T I5 L5 [.ref 60, .int 2, .int r6] (fun I7 L7 => sm_CV n mX3_set T I7 L7 [.ref 60, .int 3, .int a2] (fun I8 L8 => sm_CZ n mX8_isFull T I8 L8 [.ref 24, .int (I8 53 1)] (fun r10 I9 L9 => (r10 = false → sm_CV n mX3_set T I9 L9 [.ref 60, .int 4, .int 0] (fun I11 L11 => sm_CV n mX3_set T I11 L11 [.ref 60, .int 5, .int a1] (fun I12 L12 => F I12 L12))) ∧ (r10 = true → sm_CV n mX3_set T I9 L9 [.ref 60, .int 4, .int 1] (fun I13 L13 => sm_CV n mX3_set T I13 L13 [.ref 60, .int 5, .int a1] (fun I14 L14 => F I14 L14))))))))))) :
    sm_CV (n + 1) mX0_tellLetters T I L [.ref 53, .int a1, .int a2] F :=
  sm_CV.of (by decide +kernel) rfl (fun x hx => show sm_V x 0 0 T I L 0 [some (.ref 53), some (.int a1), some (.int a2)] [] from
  sm_aload_n (z := 53) hx dX0_tellLetters_0 rfl (sm_getR hx dX0_tellLetters_1 fl_X0_61_1 (t_53 hB) rfl (sm_iconst (v := 0) hx dX0_tellLetters_4 sm_kc_0 (sm_aload_n (z := 53) hx dX0_tellLetters_5 rfl (sm_getI hx dX0_tellLetters_6 fl_X0_107_1 (t_53 hB) rfl (sm_callVV (args := [.int 0, .int (I 53 1)]) (st := []) hx dX0_tellLetters_9 lv_X0_169_3 rfl rfl (t_60 hB) rfl rfl h (fun I1 L1 hI1 => sm_aload_n (z := 53) hx dX0_tellLetters_12 rfl (sm_getR hx dX0_tellLetters_13 fl_X0_61_1 (t_53 hB) rfl (sm_iconst (v := 1) hx dX0_tellLetters_16 sm_kc_1 (sm_aload_n (z := 53) hx dX0_tellLetters_17 rfl (sm_getR hx dX0_tellLetters_18 fl_X0_73_1 (t_53 hB) rfl (sm_getR hx dX0_tellLetters_21 fl_X0_130_8 (t_24 hB) rfl (sm_iload_n (z := a1) hx dX0_tellLetters_24 rfl (sm_callVI (args := [.int a1]) (st := [.int 1, .ref 60]) hx dX0_tellLetters_25 lv_X0_120_3 rfl rfl (t_25 hB) rfl rfl hI1 (fun r3 I2 L2 hI2 => sm_callVV (args := [.int 1, .int r3]) (st := []) hx dX0_tellLetters_28 lv_X0_169_3 rfl rfl (t_60 hB) rfl rfl hI2 (fun I4 L4 hI4 => sm_aload_n (z := 53) hx dX0_tellLetters_31 rfl (sm_getR hx dX0_tellLetters_32 fl_X0_61_1 (t_53 hB) rfl (sm_iconst (v := 2) hx dX0_tellLetters_35 sm_kc_2 (sm_aload_n (z := 53) hx dX0_tellLetters_36 rfl (sm_getR hx dX0_tellLetters_37 fl_X0_73_1 (t_53 hB) rfl (sm_getR hx dX0_tellLetters_40 fl_X0_150_8 (t_24 hB) rfl (sm_iload_n (z := a1) hx dX0_tellLetters_43 rfl (sm_callVI (args := [.int a1]) (st := [.int 2, .ref 60]) hx dX0_tellLetters_44 lv_X0_120_3 rfl rfl (t_27 hB) rfl rfl hI4 (fun r6 I5 L5 hI5 => sm_callVV (args := [.int 2, .int r6]) (st := []) hx dX0_tellLetters_47 lv_X0_169_3 rfl rfl (t_60 hB) rfl rfl hI5 (fun I7 L7 hI7 => sm_aload_n (z := 53) hx dX0_tellLetters_50 rfl (sm_getR hx dX0_tellLetters_51 fl_X0_61_1 (t_53 hB) rfl (sm_iconst (v := 3) hx dX0_tellLetters_54 sm_kc_3 (sm_iload_n (z := a2) hx dX0_tellLetters_55 rfl (sm_callVV (args := [.int 3, .int a2]) (st := []) hx dX0_tellLetters_56 lv_X0_169_3 rfl rfl (t_60 hB) rfl rfl hI7 (fun I8 L8 hI8 => sm_aload_n (z := 53) hx dX0_tellLetters_59 rfl (sm_getR hx dX0_tellLetters_60 fl_X0_61_1 (t_53 hB) rfl (sm_iconst (v := 4) hx dX0_tellLetters_63 sm_kc_4 (sm_aload_n (z := 53) hx dX0_tellLetters_64 rfl (sm_getR hx dX0_tellLetters_65 fl_X0_73_1 (t_53 hB) rfl (sm_aload_n (z := 53) hx dX0_tellLetters_68 rfl (sm_getI hx dX0_tellLetters_69 fl_X0_107_1 (t_53 hB) rfl (sm_callVZ (args := [.int (I8 53 1)]) (st := [.int 4, .ref 60]) hx dX0_tellLetters_72 lv_X0_172_8 rfl rfl (t_24 hB) rfl rfl hI8 (fun r10 I9 L9 hI9 => sm_ifeqZ (b := r10) hx dX0_tellLetters_75 (tgt := 82) (by decide) (fun q1 => sm_iconst (v := 0) hx dX0_tellLetters_82 sm_kc_0 (sm_callVV (args := [.int 4, .int 0]) (st := []) hx dX0_tellLetters_83 lv_X0_169_3 rfl rfl (t_60 hB) rfl rfl (hI9.1 q1) (fun I11 L11 hI11 => sm_aload_n (z := 53) hx dX0_tellLetters_86 rfl (sm_getR hx dX0_tellLetters_87 fl_X0_61_1 (t_53 hB) rfl (sm_iconst (v := 5) hx dX0_tellLetters_90 sm_kc_5 (sm_iload_n (z := a1) hx dX0_tellLetters_91 rfl (sm_callVV (args := [.int 5, .int a1]) (st := []) hx dX0_tellLetters_92 lv_X0_169_3 rfl rfl (t_60 hB) rfl rfl hI11 (fun I12 L12 hI12 => sm_vretV hx dX0_tellLetters_95 rfl hI12)))))))) (fun q1 => sm_iconst (v := 1) hx dX0_tellLetters_78 sm_kc_1 (sm_goto hx dX0_tellLetters_79 (tgt := 83) (by decide) (sm_callVV (args := [.int 4, .int 1]) (st := []) hx dX0_tellLetters_83 lv_X0_169_3 rfl rfl (t_60 hB) rfl rfl (hI9.2 q1) (fun I13 L13 hI13 => sm_aload_n (z := 53) hx dX0_tellLetters_86 rfl (sm_getR hx dX0_tellLetters_87 fl_X0_61_1 (t_53 hB) rfl (sm_iconst (v := 5) hx dX0_tellLetters_90 sm_kc_5 (sm_iload_n (z := a1) hx dX0_tellLetters_91 rfl (sm_callVV (args := [.int 5, .int a1]) (st := []) hx dX0_tellLetters_92 lv_X0_169_3 rfl rfl (t_60 hB) rfl rfl hI13 (fun I14 L14 hI14 => sm_vretV hx dX0_tellLetters_95 rfl hI14)))))))))))))))))))))))))))))))))))))))))))))))
theorem dX0_carry_0 : decode cX0_carry 0 = .ok (.aload_n 0, 1) := by decide +kernel
theorem dX0_carry_1 : decode cX0_carry 1 = .ok (.getfield 73, 3) := by decide +kernel
theorem dX0_carry_4 : decode cX0_carry 4 = .ok (.aload_n 0, 1) := by decide +kernel
theorem dX0_carry_5 : decode cX0_carry 5 = .ok (.getfield 114, 3) := by decide +kernel
theorem dX0_carry_8 : decode cX0_carry 8 = .ok (.iload_n 2, 1) := by decide +kernel
theorem dX0_carry_9 : decode cX0_carry 9 = .ok (.invokevirtual 153, 3) := by decide +kernel
theorem dX0_carry_12 : decode cX0_carry 12 = .ok (.istore 5, 2) := by decide +kernel
theorem dX0_carry_14 : decode cX0_carry 14 = .ok (.iload 5, 2) := by decide +kernel
theorem dX0_carry_16 : decode cX0_carry 16 = .ok (.ifCond .eq 32, 3) := by decide +kernel
theorem dX0_carry_19 : decode cX0_carry 19 = .ok (.iload_n 2, 1) := by decide +kernel
theorem dX0_carry_20 : decode cX0_carry 20 = .ok (.iload_n 3, 1) := by decide +kernel
theorem dX0_carry_21 : decode cX0_carry 21 = .ok (.if_icmp .eq 27, 3) := by decide +kernel
theorem dX0_carry_24 : decode cX0_carry 24 = .ok (.aload_n 0, 1) := by decide +kernel
theorem dX0_carry_25 : decode cX0_carry 25 = .ok (.getfield 188, 3) := by decide +kernel
theorem dX0_carry_28 : decode cX0_carry 28 = .ok (.iload_n 2, 1) := by decide +kernel
theorem dX0_carry_29 : decode cX0_carry 29 = .ok (.invokestatic 191, 3) := by decide +kernel
theorem dX0_carry_32 : decode cX0_carry 32 = .ok (.iconst 1, 1) := by decide +kernel
theorem dX0_carry_33 : decode cX0_carry 33 = .ok (.if_icmp .eq 15, 3) := by decide +kernel
theorem dX0_carry_36 : decode cX0_carry 36 = .ok (.aload_n 0, 1) := by decide +kernel
theorem dX0_carry_37 : decode cX0_carry 37 = .ok (.getfield 188, 3) := by decide +kernel
theorem dX0_carry_40 : decode cX0_carry 40 = .ok (.iload_n 3, 1) := by decide +kernel
theorem dX0_carry_41 : decode cX0_carry 41 = .ok (.invokestatic 191, 3) := by decide +kernel
theorem dX0_carry_44 : decode cX0_carry 44 = .ok (.iconst 1, 1) := by decide +kernel
theorem dX0_carry_45 : decode cX0_carry 45 = .ok (.if_icmp .ne 4, 3) := by decide +kernel
theorem dX0_carry_48 : decode cX0_carry 48 = .ok (.return_, 1) := by decide +kernel
theorem dX0_carry_49 : decode cX0_carry 49 = .ok (.iload 5, 2) := by decide +kernel
theorem dX0_carry_51 : decode cX0_carry 51 = .ok (.invokestatic 194, 3) := by decide +kernel
theorem dX0_carry_54 : decode cX0_carry 54 = .ok (.istore 6, 2) := by decide +kernel
theorem dX0_carry_56 : decode cX0_carry 56 = .ok (.iload 4, 2) := by decide +kernel
theorem dX0_carry_58 : decode cX0_carry 58 = .ok (.ifCond .eq 14, 3) := by decide +kernel
theorem dX0_carry_61 : decode cX0_carry 61 = .ok (.bipush 31, 2) := by decide +kernel
theorem dX0_carry_63 : decode cX0_carry 63 = .ok (.iload 5, 2) := by decide +kernel
theorem dX0_carry_65 : decode cX0_carry 65 = .ok (.invokestatic 197, 3) := by decide +kernel
theorem dX0_carry_68 : decode cX0_carry 68 = .ok (.isub, 1) := by decide +kernel
theorem dX0_carry_69 : decode cX0_carry 69 = .ok (.goto 5, 3) := by decide +kernel
theorem dX0_carry_72 : decode cX0_carry 72 = .ok (.iload 6, 2) := by decide +kernel
theorem dX0_carry_74 : decode cX0_carry 74 = .ok (.istore 7, 2) := by decide +kernel
theorem dX0_carry_76 : decode cX0_carry 76 = .ok (.aload_n 0, 1) := by decide +kernel
theorem dX0_carry_77 : decode cX0_carry 77 = .ok (.aload_n 0, 1) := by decide +kernel
theorem dX0_carry_78 : decode cX0_carry 78 = .ok (.getfield 114, 3) := by decide +kernel
theorem dX0_carry_81 : decode cX0_carry 81 = .ok (.iload 7, 2) := by decide +kernel
theorem dX0_carry_83 : decode cX0_carry 83 = .ok (.iload_n 3, 1) := by decide +kernel
theorem dX0_carry_84 : decode cX0_carry 84 = .ok (.invokestatic 200, 3) := by decide +kernel
theorem dX0_carry_87 : decode cX0_carry 87 = .ok (.putfield 114, 3) := by decide +kernel
theorem dX0_carry_90 : decode cX0_carry 90 = .ok (.aload_n 0, 1) := by decide +kernel
theorem dX0_carry_91 : decode cX0_carry 91 = .ok (.getfield 20, 3) := by decide +kernel
theorem dX0_carry_94 : decode cX0_carry 94 = .ok (.iload_n 1, 1) := by decide +kernel
theorem dX0_carry_95 : decode cX0_carry 95 = .ok (.aload_n 0, 1) := by decide +kernel
theorem dX0_carry_96 : decode cX0_carry 96 = .ok (.getfield 20, 3) := by decide +kernel
theorem dX0_carry_99 : decode cX0_carry 99 = .ok (.iload_n 1, 1) := by decide +kernel
theorem dX0_carry_100 : decode cX0_carry 100 = .ok (.invokevirtual 120, 3) := by decide +kernel
theorem dX0_carry_103 : decode cX0_carry 103 = .ok (.iconst 1, 1) := by decide +kernel
theorem dX0_carry_104 : decode cX0_carry 104 = .ok (.iadd, 1) := by decide +kernel
theorem dX0_carry_105 : decode cX0_carry 105 = .ok (.invokevirtual 169, 3) := by decide +kernel
theorem dX0_carry_108 : decode cX0_carry 108 = .ok (.aload_n 0, 1) := by decide +kernel
theorem dX0_carry_109 : decode cX0_carry 109 = .ok (.getfield 23, 3) := by decide +kernel
theorem dX0_carry_112 : decode cX0_carry 112 = .ok (.iload 7, 2) := by decide +kernel
theorem dX0_carry_114 : decode cX0_carry 114 = .ok (.aload_n 0, 1) := by decide +kernel
theorem dX0_carry_115 : decode cX0_carry 115 = .ok (.getfield 23, 3) := by decide +kernel
theorem dX0_carry_118 : decode cX0_carry 118 = .ok (.iload 7, 2) := by decide +kernel
theorem dX0_carry_120 : decode cX0_carry 120 = .ok (.invokevirtual 120, 3) := by decide +kernel
theorem dX0_carry_123 : decode cX0_carry 123 = .ok (.iconst 1, 1) := by decide +kernel
theorem dX0_carry_124 : decode cX0_carry 124 = .ok (.iload_n 1, 1) := by decide +kernel
theorem dX0_carry_125 : decode cX0_carry 125 = .ok (.ishl, 1) := by decide +kernel
theorem dX0_carry_126 : decode cX0_carry 126 = .ok (.ior, 1) := by decide +kernel
theorem dX0_carry_127 : decode cX0_carry 127 = .ok (.invokevirtual 169, 3) := by decide +kernel
theorem dX0_carry_130 : decode cX0_carry 130 = .ok (.return_, 1) := by decide +kernel
set_option maxRecDepth 100000 in
theorem c_X0_carry {n : Nat} {F : sm_MI → sm_ML → Prop} {T : List sm_Sh} {I : sm_MI} {L : sm_ML} {a1 : Int32} {a2 : Int32} {a3 : Int32} {b4 : Bool} (hB : sm_Bs T)
    (h : sm_CI n mX8_thingsIn T I L [.ref 24, .int (I 53 0), .int a2] (fun r2 I1 L1 => (r2 = 0 → F I1 L1) ∧ (¬ r2 = 0 → (a2 = a3 → F I1 L1) ∧ (¬ a2 = a3 → sm_CI n mX11_bitOf T I1 L1 [.int (I1 53 2), .int a2] (fun r4 I3 L3 => (r4 = 1 → F I3 L3) ∧ (¬ r4 = 1 → sm_CI n mX11_bitOf T I3 L3 [.int (I3 53 2), .int a3] (fun r6 I5 L5 => (¬ r6 = 1 → sm_CI n mJ6_numberOfTrailingZeros_0f7a4 T I5 L5 [.int r2] (fun r8 I7 L7 => (b4 = false → sm_CI n mX11_placed T I7 L7 [.int (I7 53 0), .int r8, .int a3] (fun r10 I9 L9 => sm_CI n mX3_at T (sm_uI I9 53 0 r10) L9 [.ref 56, .int a1] (fun r12 I11 L11 => sm_CV n mX3_set T I11 L11 [.ref 56, .int a1, .int (r12 + 1)] (fun I13 L13 => sm_CI n mX3_at T I13 L13 [.ref 58, .int r8] (fun r15 I14 L14 => sm_CV n mX3_set T I14 L14 [.ref 58, .int r8, .int (r15 ||| (1 <<< (a1 &&& 31)))] (fun I16 L16 => F I16 L16)))))) ∧ (b4 = true → sm_CI n mJ6_numberOfLeadingZeros_0f7a4 T I7 L7 [.int r2] (fun r18 I17 L17 => sm_CI n mX11_placed T I17 L17 [.int (I17 53 0), .int (31 - r18), .int a3] (fun r20 I19 L19 => sm_CI n mX3_at T (sm_uI I19 53 0 r20) L19 [.ref 56, .int a1] (fun r22 I21 L21 => sm_CV n mX3_set T I21 L21 [.ref 56, .int a1, .int (r22 + 1)] (fun I23 L23 => sm_CI n mX3_at T I23 L23 [.ref 58, .int (31 - r18)] (fun r25 I24 L24 => sm_CV n mX3_set T I24 L24 [.ref 58, .int (31 - r18), .int (r25 ||| (1 <<< (a1 &&& 31)))] (fun I26 L26 => F I26 L26))))))))) ∧ (r6 = 1 → F I5 L5)))))))) :
    sm_CV (n + 1) mX0_carry T I L [.ref 53, .int a1, .int a2, .int a3, .int (sm_z b4)] F :=
  sm_CV.of (by decide +kernel) rfl (fun x hx => show sm_V x 0 0 T I L 0 [some (.ref 53), some (.int a1), some (.int a2), some (.int a3), some (.int (sm_z b4)), none, none, none] [] from
  sm_aload_n (z := 53) hx dX0_carry_0 rfl (sm_getR hx dX0_carry_1 fl_X0_73_1 (t_53 hB) rfl (sm_aload_n (z := 53) hx dX0_carry_4 rfl (sm_getI hx dX0_carry_5 fl_X0_114_1 (t_53 hB) rfl (sm_iload_n (z := a2) hx dX0_carry_8 rfl (sm_callVI (args := [.int (I 53 0), .int a2]) (st := []) hx dX0_carry_9 lv_X0_153_8 rfl rfl (t_24 hB) rfl rfl h (fun r2 I1 L1 hI1 => sm_istore (ls' := [some (.ref 53), some (.int a1), some (.int a2), some (.int a3), some (.int (sm_z b4)), some (.int r2), none, none]) hx dX0_carry_12 (by decide) rfl (sm_iload (z := r2) hx dX0_carry_14 rfl (sm_ifeq (a := r2) hx dX0_carry_16 (tgt := 48) (by decide) (fun q5 => sm_vretV hx dX0_carry_48 rfl (hI1.1 q5)) (fun q5 => sm_iload_n (z := a2) hx dX0_carry_19 rfl (sm_iload_n (z := a3) hx dX0_carry_20 rfl (sm_icmpeq (a := a2) (b := a3) hx dX0_carry_21 (tgt := 48) (by decide) (fun q4 => sm_vretV hx dX0_carry_48 rfl ((hI1.2 q5).1 q4)) (fun q4 => sm_aload_n (z := 53) hx dX0_carry_24 rfl (sm_getI hx dX0_carry_25 fl_X0_188_1 (t_53 hB) rfl (sm_iload_n (z := a2) hx dX0_carry_28 rfl (sm_callSI (args := [.int (I1 53 2), .int a2]) (st := []) hx dX0_carry_29 ls_X0_191 rfl rfl rfl ((hI1.2 q5).2 q4) (fun r4 I3 L3 hI3 => sm_iconst (v := 1) hx dX0_carry_32 sm_kc_1 (sm_icmpeq (a := r4) (b := 1) hx dX0_carry_33 (tgt := 48) (by decide) (fun q3 => sm_vretV hx dX0_carry_48 rfl (hI3.1 q3)) (fun q3 => sm_aload_n (z := 53) hx dX0_carry_36 rfl (sm_getI hx dX0_carry_37 fl_X0_188_1 (t_53 hB) rfl (sm_iload_n (z := a3) hx dX0_carry_40 rfl (sm_callSI (args := [.int (I3 53 2), .int a3]) (st := []) hx dX0_carry_41 ls_X0_191 rfl rfl rfl (hI3.2 q3) (fun r6 I5 L5 hI5 => sm_iconst (v := 1) hx dX0_carry_44 sm_kc_1 (sm_icmpne (a := r6) (b := 1) hx dX0_carry_45 (tgt := 49) (by decide) (fun q2 => sm_iload (z := r2) hx dX0_carry_49 rfl (sm_callSI (args := [.int r2]) (st := []) hx dX0_carry_51 ls_X0_194 rfl rfl rfl (hI5.1 q2) (fun r8 I7 L7 hI7 => sm_istore (ls' := [some (.ref 53), some (.int a1), some (.int a2), some (.int a3), some (.int (sm_z b4)), some (.int r2), some (.int r8), none]) hx dX0_carry_54 (by decide) rfl (sm_iload (z := (sm_z b4)) hx dX0_carry_56 rfl (sm_ifeqZ (b := b4) hx dX0_carry_58 (tgt := 72) (by decide) (fun q1 => sm_iload (z := r8) hx dX0_carry_72 rfl (sm_istore (ls' := [some (.ref 53), some (.int a1), some (.int a2), some (.int a3), some (.int (sm_z b4)), some (.int r2), some (.int r8), some (.int r8)]) hx dX0_carry_74 (by decide) rfl (sm_aload_n (z := 53) hx dX0_carry_76 rfl (sm_aload_n (z := 53) hx dX0_carry_77 rfl (sm_getI hx dX0_carry_78 fl_X0_114_1 (t_53 hB) rfl (sm_iload (z := r8) hx dX0_carry_81 rfl (sm_iload_n (z := a3) hx dX0_carry_83 rfl (sm_callSI (args := [.int (I7 53 0), .int r8, .int a3]) (st := [.ref 53]) hx dX0_carry_84 ls_X0_200 rfl rfl rfl (hI7.1 q1) (fun r10 I9 L9 hI9 => sm_putI hx dX0_carry_87 fl_X0_114_1 (t_53 hB) rfl (sm_aload_n (z := 53) hx dX0_carry_90 rfl (sm_getR hx dX0_carry_91 fl_X0_20_1 (t_53 hB) rfl (sm_iload_n (z := a1) hx dX0_carry_94 rfl (sm_aload_n (z := 53) hx dX0_carry_95 rfl (sm_getR hx dX0_carry_96 fl_X0_20_1 (t_53 hB) rfl (sm_iload_n (z := a1) hx dX0_carry_99 rfl (sm_callVI (args := [.int a1]) (st := [.int a1, .ref 56]) hx dX0_carry_100 lv_X0_120_3 rfl rfl (t_56 hB) rfl rfl hI9 (fun r12 I11 L11 hI11 => sm_iconst (v := 1) hx dX0_carry_103 sm_kc_1 (sm_iadd (a := r12) (b := 1) hx dX0_carry_104 (sm_callVV (args := [.int a1, .int (r12 + 1)]) (st := []) hx dX0_carry_105 lv_X0_169_3 rfl rfl (t_56 hB) rfl rfl hI11 (fun I13 L13 hI13 => sm_aload_n (z := 53) hx dX0_carry_108 rfl (sm_getR hx dX0_carry_109 fl_X0_23_1 (t_53 hB) rfl (sm_iload (z := r8) hx dX0_carry_112 rfl (sm_aload_n (z := 53) hx dX0_carry_114 rfl (sm_getR hx dX0_carry_115 fl_X0_23_1 (t_53 hB) rfl (sm_iload (z := r8) hx dX0_carry_118 rfl (sm_callVI (args := [.int r8]) (st := [.int r8, .ref 58]) hx dX0_carry_120 lv_X0_120_3 rfl rfl (t_58 hB) rfl rfl hI13 (fun r15 I14 L14 hI14 => sm_iconst (v := 1) hx dX0_carry_123 sm_kc_1 (sm_iload_n (z := a1) hx dX0_carry_124 rfl (sm_ishl (a := 1) (b := a1) hx dX0_carry_125 (sm_ior (a := r15) (b := (1 <<< (a1 &&& 31))) hx dX0_carry_126 (sm_callVV (args := [.int r8, .int (r15 ||| (1 <<< (a1 &&& 31)))]) (st := []) hx dX0_carry_127 lv_X0_169_3 rfl rfl (t_58 hB) rfl rfl hI14 (fun I16 L16 hI16 => sm_vretV hx dX0_carry_130 rfl hI16)))))))))))))))))))))))))))))))) (fun q1 => sm_bipush (v := 31) hx dX0_carry_61 sm_kb_31 (sm_iload (z := r2) hx dX0_carry_63 rfl (sm_callSI (args := [.int r2]) (st := [.int 31]) hx dX0_carry_65 ls_X0_197 rfl rfl rfl (hI7.2 q1) (fun r18 I17 L17 hI17 => sm_isub (a := 31) (b := r18) hx dX0_carry_68 (sm_goto hx dX0_carry_69 (tgt := 74) (by decide) (sm_istore (ls' := [some (.ref 53), some (.int a1), some (.int a2), some (.int a3), some (.int (sm_z b4)), some (.int r2), some (.int r8), some (.int (31 - r18))]) hx dX0_carry_74 (by decide) rfl (sm_aload_n (z := 53) hx dX0_carry_76 rfl (sm_aload_n (z := 53) hx dX0_carry_77 rfl (sm_getI hx dX0_carry_78 fl_X0_114_1 (t_53 hB) rfl (sm_iload (z := (31 - r18)) hx dX0_carry_81 rfl (sm_iload_n (z := a3) hx dX0_carry_83 rfl (sm_callSI (args := [.int (I17 53 0), .int (31 - r18), .int a3]) (st := [.ref 53]) hx dX0_carry_84 ls_X0_200 rfl rfl rfl hI17 (fun r20 I19 L19 hI19 => sm_putI hx dX0_carry_87 fl_X0_114_1 (t_53 hB) rfl (sm_aload_n (z := 53) hx dX0_carry_90 rfl (sm_getR hx dX0_carry_91 fl_X0_20_1 (t_53 hB) rfl (sm_iload_n (z := a1) hx dX0_carry_94 rfl (sm_aload_n (z := 53) hx dX0_carry_95 rfl (sm_getR hx dX0_carry_96 fl_X0_20_1 (t_53 hB) rfl (sm_iload_n (z := a1) hx dX0_carry_99 rfl (sm_callVI (args := [.int a1]) (st := [.int a1, .ref 56]) hx dX0_carry_100 lv_X0_120_3 rfl rfl (t_56 hB) rfl rfl hI19 (fun r22 I21 L21 hI21 => sm_iconst (v := 1) hx dX0_carry_103 sm_kc_1 (sm_iadd (a := r22) (b := 1) hx dX0_carry_104 (sm_callVV (args := [.int a1, .int (r22 + 1)]) (st := []) hx dX0_carry_105 lv_X0_169_3 rfl rfl (t_56 hB) rfl rfl hI21 (fun I23 L23 hI23 => sm_aload_n (z := 53) hx dX0_carry_108 rfl (sm_getR hx dX0_carry_109 fl_X0_23_1 (t_53 hB) rfl (sm_iload (z := (31 - r18)) hx dX0_carry_112 rfl (sm_aload_n (z := 53) hx dX0_carry_114 rfl (sm_getR hx dX0_carry_115 fl_X0_23_1 (t_53 hB) rfl (sm_iload (z := (31 - r18)) hx dX0_carry_118 rfl (sm_callVI (args := [.int (31 - r18)]) (st := [.int (31 - r18), .ref 58]) hx dX0_carry_120 lv_X0_120_3 rfl rfl (t_58 hB) rfl rfl hI23 (fun r25 I24 L24 hI24 => sm_iconst (v := 1) hx dX0_carry_123 sm_kc_1 (sm_iload_n (z := a1) hx dX0_carry_124 rfl (sm_ishl (a := 1) (b := a1) hx dX0_carry_125 (sm_ior (a := r25) (b := (1 <<< (a1 &&& 31))) hx dX0_carry_126 (sm_callVV (args := [.int (31 - r18), .int (r25 ||| (1 <<< (a1 &&& 31)))]) (st := []) hx dX0_carry_127 lv_X0_169_3 rfl rfl (t_58 hB) rfl rfl hI24 (fun I26 L26 hI26 => sm_vretV hx dX0_carry_130 rfl hI26))))))))))))))))))))))))))))))))))))))))) (fun q2 => sm_vretV hx dX0_carry_48 rfl (hI5.2 q2))))))))))))))))))))))))))
theorem dX0_partsInto_0 : decode cX0_partsInto 0 = .ok (.aload_n 0, 1) := by decide +kernel
theorem dX0_partsInto_1 : decode cX0_partsInto 1 = .ok (.iload_n 1, 1) := by decide +kernel
theorem dX0_partsInto_2 : decode cX0_partsInto 2 = .ok (.putfield 42, 3) := by decide +kernel
theorem dX0_partsInto_5 : decode cX0_partsInto 5 = .ok (.aload_n 0, 1) := by decide +kernel
theorem dX0_partsInto_6 : decode cX0_partsInto 6 = .ok (.iload_n 2, 1) := by decide +kernel
theorem dX0_partsInto_7 : decode cX0_partsInto 7 = .ok (.putfield 45, 3) := by decide +kernel
theorem dX0_partsInto_10 : decode cX0_partsInto 10 = .ok (.aload_n 0, 1) := by decide +kernel
theorem dX0_partsInto_11 : decode cX0_partsInto 11 = .ok (.iload 4, 2) := by decide +kernel
theorem dX0_partsInto_13 : decode cX0_partsInto 13 = .ok (.putfield 48, 3) := by decide +kernel
theorem dX0_partsInto_16 : decode cX0_partsInto 16 = .ok (.aload_n 0, 1) := by decide +kernel
theorem dX0_partsInto_17 : decode cX0_partsInto 17 = .ok (.iconst 0, 1) := by decide +kernel
theorem dX0_partsInto_18 : decode cX0_partsInto 18 = .ok (.iload_n 3, 1) := by decide +kernel
theorem dX0_partsInto_19 : decode cX0_partsInto 19 = .ok (.ldc2_w 204, 3) := by decide +kernel
theorem dX0_partsInto_22 : decode cX0_partsInto 22 = .ok (.iconst 0, 1) := by decide +kernel
theorem dX0_partsInto_23 : decode cX0_partsInto 23 = .ok (.invokevirtual 206, 3) := by decide +kernel
theorem dX0_partsInto_26 : decode cX0_partsInto 26 = .ok (.lreturn, 1) := by decide +kernel
set_option maxRecDepth 100000 in
theorem c_X0_partsInto {n : Nat} {F : Int64 → sm_MI → sm_ML → Prop} {T : List sm_Sh} {I : sm_MI} {L : sm_ML} {a1 : Int32} {a2 : Int32} {a3 : Int32} {a4 : Int32} (hB : sm_Bs T)
    (h : sm_CL n mX0_partsFrom T (sm_uI (sm_uI (sm_uI I 53 14 a1) 53 15 a2) 53 16 a4) L [.ref 53, .int 0, .int a3, .long 1000000000, .int 0] (fun r2 I1 L1 => F r2 I1 L1)) :
    sm_CL (n + 1) mX0_partsInto T I L [.ref 53, .int a1, .int a2, .int a3, .int a4] F :=
  sm_CL.of (by decide +kernel) rfl (fun x hx => show sm_V x 0 0 T I L 0 [some (.ref 53), some (.int a1), some (.int a2), some (.int a3), some (.int a4)] [] from
  sm_aload_n (z := 53) hx dX0_partsInto_0 rfl (sm_iload_n (z := a1) hx dX0_partsInto_1 rfl (sm_putI hx dX0_partsInto_2 fl_X0_42_1 (t_53 hB) rfl (sm_aload_n (z := 53) hx dX0_partsInto_5 rfl (sm_iload_n (z := a2) hx dX0_partsInto_6 rfl (sm_putI hx dX0_partsInto_7 fl_X0_45_1 (t_53 hB) rfl (sm_aload_n (z := 53) hx dX0_partsInto_10 rfl (sm_iload (z := a4) hx dX0_partsInto_11 rfl (sm_putI hx dX0_partsInto_13 fl_X0_48_1 (t_53 hB) rfl (sm_aload_n (z := 53) hx dX0_partsInto_16 rfl (sm_iconst (v := 0) hx dX0_partsInto_17 sm_kc_0 (sm_iload_n (z := a3) hx dX0_partsInto_18 rfl (sm_ldc2 (v := 1000000000) hx dX0_partsInto_19 k_X0_204 (sm_iconst (v := 0) hx dX0_partsInto_22 sm_kc_0 (sm_callVL (args := [.int 0, .int a3, .long 1000000000, .int 0]) (st := []) hx dX0_partsInto_23 lv_X0_206_1 rfl rfl (t_53 hB) rfl rfl h (fun r2 I1 L1 hI1 => sm_lretL hx dX0_partsInto_26 rfl hI1))))))))))))))))
theorem dX0_partsFrom_0 : decode cX0_partsFrom 0 = .ok (.iload_n 1, 1) := by decide +kernel
theorem dX0_partsFrom_1 : decode cX0_partsFrom 1 = .ok (.istore 6, 2) := by decide +kernel
theorem dX0_partsFrom_3 : decode cX0_partsFrom 3 = .ok (.iload_n 2, 1) := by decide +kernel
theorem dX0_partsFrom_4 : decode cX0_partsFrom 4 = .ok (.istore 7, 2) := by decide +kernel
theorem dX0_partsFrom_6 : decode cX0_partsFrom 6 = .ok (.iconst 0, 1) := by decide +kernel
theorem dX0_partsFrom_7 : decode cX0_partsFrom 7 = .ok (.istore 8, 2) := by decide +kernel
theorem dX0_partsFrom_9 : decode cX0_partsFrom 9 = .ok (.iload 8, 2) := by decide +kernel
theorem dX0_partsFrom_11 : decode cX0_partsFrom 11 = .ok (.bipush 40, 2) := by decide +kernel
theorem dX0_partsFrom_13 : decode cX0_partsFrom 13 = .ok (.if_icmp .gt 103, 3) := by decide +kernel
theorem dX0_partsFrom_16 : decode cX0_partsFrom 16 = .ok (.iload 6, 2) := by decide +kernel
theorem dX0_partsFrom_18 : decode cX0_partsFrom 18 = .ok (.aload_n 0, 1) := by decide +kernel
theorem dX0_partsFrom_19 : decode cX0_partsFrom 19 = .ok (.getfield 73, 3) := by decide +kernel
theorem dX0_partsFrom_22 : decode cX0_partsFrom 22 = .ok (.getfield 91, 3) := by decide +kernel
theorem dX0_partsFrom_25 : decode cX0_partsFrom 25 = .ok (.if_icmp .lt 19, 3) := by decide +kernel
theorem dX0_partsFrom_28 : decode cX0_partsFrom 28 = .ok (.iconst 0, 1) := by decide +kernel
theorem dX0_partsFrom_29 : decode cX0_partsFrom 29 = .ok (.istore 6, 2) := by decide +kernel
theorem dX0_partsFrom_31 : decode cX0_partsFrom 31 = .ok (.iinc 7 (-1), 3) := by decide +kernel
theorem dX0_partsFrom_34 : decode cX0_partsFrom 34 = .ok (.aload_n 0, 1) := by decide +kernel
theorem dX0_partsFrom_35 : decode cX0_partsFrom 35 = .ok (.dup, 1) := by decide +kernel
theorem dX0_partsFrom_36 : decode cX0_partsFrom 36 = .ok (.getfield 107, 3) := by decide +kernel
theorem dX0_partsFrom_39 : decode cX0_partsFrom 39 = .ok (.iconst 1, 1) := by decide +kernel
theorem dX0_partsFrom_40 : decode cX0_partsFrom 40 = .ok (.iadd, 1) := by decide +kernel
theorem dX0_partsFrom_41 : decode cX0_partsFrom 41 = .ok (.putfield 107, 3) := by decide +kernel
theorem dX0_partsFrom_44 : decode cX0_partsFrom 44 = .ok (.iload 7, 2) := by decide +kernel
theorem dX0_partsFrom_46 : decode cX0_partsFrom 46 = .ok (.ifCond .gt 27, 3) := by decide +kernel
theorem dX0_partsFrom_49 : decode cX0_partsFrom 49 = .ok (.aload_n 0, 1) := by decide +kernel
theorem dX0_partsFrom_50 : decode cX0_partsFrom 50 = .ok (.getfield 114, 3) := by decide +kernel
theorem dX0_partsFrom_53 : decode cX0_partsFrom 53 = .ok (.aload_n 0, 1) := by decide +kernel
theorem dX0_partsFrom_54 : decode cX0_partsFrom 54 = .ok (.getfield 42, 3) := by decide +kernel
theorem dX0_partsFrom_57 : decode cX0_partsFrom 57 = .ok (.invokestatic 210, 3) := by decide +kernel
theorem dX0_partsFrom_60 : decode cX0_partsFrom 60 = .ok (.aload_n 0, 1) := by decide +kernel
theorem dX0_partsFrom_61 : decode cX0_partsFrom 61 = .ok (.getfield 45, 3) := by decide +kernel
theorem dX0_partsFrom_64 : decode cX0_partsFrom 64 = .ok (.if_icmp .ne 7, 3) := by decide +kernel
theorem dX0_partsFrom_67 : decode cX0_partsFrom 67 = .ok (.lload_n 3, 1) := by decide +kernel
theorem dX0_partsFrom_68 : decode cX0_partsFrom 68 = .ok (.goto 4, 3) := by decide +kernel
theorem dX0_partsFrom_71 : decode cX0_partsFrom 71 = .ok (.lconst 0, 1) := by decide +kernel
theorem dX0_partsFrom_72 : decode cX0_partsFrom 72 = .ok (.lreturn, 1) := by decide +kernel
theorem dX0_partsFrom_73 : decode cX0_partsFrom 73 = .ok (.aload_n 0, 1) := by decide +kernel
theorem dX0_partsFrom_74 : decode cX0_partsFrom 74 = .ok (.getfield 73, 3) := by decide +kernel
theorem dX0_partsFrom_77 : decode cX0_partsFrom 77 = .ok (.getfield 117, 3) := by decide +kernel
theorem dX0_partsFrom_80 : decode cX0_partsFrom 80 = .ok (.iload 6, 2) := by decide +kernel
theorem dX0_partsFrom_82 : decode cX0_partsFrom 82 = .ok (.invokevirtual 120, 3) := by decide +kernel
theorem dX0_partsFrom_85 : decode cX0_partsFrom 85 = .ok (.iconst 3, 1) := by decide +kernel
theorem dX0_partsFrom_86 : decode cX0_partsFrom 86 = .ok (.if_icmp .ne 15, 3) := by decide +kernel
theorem dX0_partsFrom_89 : decode cX0_partsFrom 89 = .ok (.aload_n 0, 1) := by decide +kernel
theorem dX0_partsFrom_90 : decode cX0_partsFrom 90 = .ok (.iload 6, 2) := by decide +kernel
theorem dX0_partsFrom_92 : decode cX0_partsFrom 92 = .ok (.iload 7, 2) := by decide +kernel
theorem dX0_partsFrom_94 : decode cX0_partsFrom 94 = .ok (.lload_n 3, 1) := by decide +kernel
theorem dX0_partsFrom_95 : decode cX0_partsFrom 95 = .ok (.iload 5, 2) := by decide +kernel
theorem dX0_partsFrom_97 : decode cX0_partsFrom 97 = .ok (.invokevirtual 213, 3) := by decide +kernel
theorem dX0_partsFrom_100 : decode cX0_partsFrom 100 = .ok (.lreturn, 1) := by decide +kernel
theorem dX0_partsFrom_101 : decode cX0_partsFrom 101 = .ok (.aload_n 0, 1) := by decide +kernel
theorem dX0_partsFrom_102 : decode cX0_partsFrom 102 = .ok (.iload 6, 2) := by decide +kernel
theorem dX0_partsFrom_104 : decode cX0_partsFrom 104 = .ok (.invokevirtual 96, 3) := by decide +kernel
theorem dX0_partsFrom_107 : decode cX0_partsFrom 107 = .ok (.iinc 6 1, 3) := by decide +kernel
theorem dX0_partsFrom_110 : decode cX0_partsFrom 110 = .ok (.iinc 8 1, 3) := by decide +kernel
theorem dX0_partsFrom_113 : decode cX0_partsFrom 113 = .ok (.goto (-104), 3) := by decide +kernel
theorem dX0_partsFrom_116 : decode cX0_partsFrom 116 = .ok (.lconst 0, 1) := by decide +kernel
theorem dX0_partsFrom_117 : decode cX0_partsFrom 117 = .ok (.lreturn, 1) := by decide +kernel
set_option maxRecDepth 100000 in
theorem u_X0_partsFrom_9 {x : sm_Cx} {n : Nat} {F : Int64 → sm_MI → sm_ML → Prop} {T : List sm_Sh} {I : sm_MI} {L : sm_ML} {a1 : Int32} {a2 : Int32} {l3 : Int64} {a5 : Int32} {a6 : Int32} {a7 : Int32} {a8 : Int32} (hB : sm_Bs T) (hx : sm_Ok x mX0_partsFrom (n + 1) (sm_KL T F))
    (h : (40 < a8 → F 0 I L) ∧ (¬ 40 < a8 → (a6 < (I 24 1) → (0 < a7 → sm_CI n mX3_at T I L [.ref 29, .int a6] (fun r2 I1 L1 => (¬ r2 = 3 → sm_CV n mX0_walk T I1 L1 [.ref 53, .int a6] (fun I3 L3 => sm_V x 0 0 T I3 L3 9 [some (.ref 53), some (.int a1), some (.int a2), some (.long l3), none, some (.int a5), some (.int (a6 + 1)), some (.int a7), some (.int (a8 + 1))] [])) ∧ (r2 = 3 → sm_CL n mX0_splitParts T I1 L1 [.ref 53, .int a6, .int a7, .long l3, .int a5] (fun r5 I4 L4 => F r5 I4 L4)))) ∧ (¬ 0 < a7 → sm_CI n mX11_placeIn T I L [.int (I 53 0), .int (I 53 14)] (fun r7 I6 L6 => (¬ r7 = (I6 53 15) → F 0 I6 L6) ∧ (r7 = (I6 53 15) → F l3 I6 L6)))) ∧ (¬ a6 < (I 24 1) → (0 < (a7 + (-1)) → sm_CI n mX3_at T (sm_uI I 53 1 ((I 53 1) + 1)) L [.ref 29, .int 0] (fun r9 I8 L8 => (¬ r9 = 3 → sm_CV n mX0_walk T I8 L8 [.ref 53, .int 0] (fun I10 L10 => sm_V x 0 0 T I10 L10 9 [some (.ref 53), some (.int a1), some (.int a2), some (.long l3), none, some (.int a5), some (.int (0 + 1)), some (.int (a7 + (-1))), some (.int (a8 + 1))] [])) ∧ (r9 = 3 → sm_CL n mX0_splitParts T I8 L8 [.ref 53, .int 0, .int (a7 + (-1)), .long l3, .int a5] (fun r12 I11 L11 => F r12 I11 L11)))) ∧ (¬ 0 < (a7 + (-1)) → ∀ I13 : sm_MI, I13 = (sm_uI I 53 1 ((I 53 1) + 1)) → sm_CI n mX11_placeIn T I13 L [.int (I13 53 0), .int (I13 53 14)] (fun r15 I14 L14 => (¬ r15 = (I14 53 15) → F 0 I14 L14) ∧ (r15 = (I14 53 15) → F l3 I14 L14)))))) :
    sm_V x 0 0 T I L 9 [some (.ref 53), some (.int a1), some (.int a2), some (.long l3), none, some (.int a5), some (.int a6), some (.int a7), some (.int a8)] [] :=
  sm_iload (z := a8) hx dX0_partsFrom_9 rfl (sm_bipush (v := 40) hx dX0_partsFrom_11 sm_kb_40 (sm_icmpgt (a := a8) (b := 40) hx dX0_partsFrom_13 (tgt := 116) (by decide) (fun q8 => sm_lconst (v := 0) hx dX0_partsFrom_116 rfl (sm_lretL hx dX0_partsFrom_117 rfl (h.1 q8))) (fun q8 => sm_iload (z := a6) hx dX0_partsFrom_16 rfl (sm_aload_n (z := 53) hx dX0_partsFrom_18 rfl (sm_getR hx dX0_partsFrom_19 fl_X0_73_1 (t_53 hB) rfl (sm_getI hx dX0_partsFrom_22 fl_X0_91_8 (t_24 hB) rfl (sm_icmplt (a := a6) (b := (I 24 1)) hx dX0_partsFrom_25 (tgt := 44) (by decide) (fun q7 => sm_iload (z := a7) hx dX0_partsFrom_44 rfl (sm_ifgt (a := a7) hx dX0_partsFrom_46 (tgt := 73) (by decide) (fun q3 => sm_aload_n (z := 53) hx dX0_partsFrom_73 rfl (sm_getR hx dX0_partsFrom_74 fl_X0_73_1 (t_53 hB) rfl (sm_getR hx dX0_partsFrom_77 fl_X0_117_8 (t_24 hB) rfl (sm_iload (z := a6) hx dX0_partsFrom_80 rfl (sm_callVI (args := [.int a6]) (st := []) hx dX0_partsFrom_82 lv_X0_120_3 rfl rfl (t_29 hB) rfl rfl (((h.2 q8).1 q7).1 q3) (fun r2 I1 L1 hI1 => sm_iconst (v := 3) hx dX0_partsFrom_85 sm_kc_3 (sm_icmpne (a := r2) (b := 3) hx dX0_partsFrom_86 (tgt := 101) (by decide) (fun q1 => sm_aload_n (z := 53) hx dX0_partsFrom_101 rfl (sm_iload (z := a6) hx dX0_partsFrom_102 rfl (sm_callVV (args := [.int a6]) (st := []) hx dX0_partsFrom_104 lv_X0_96_1 rfl rfl (t_53 hB) rfl rfl (hI1.1 q1) (fun I3 L3 hI3 => sm_iinc (ls' := [some (.ref 53), some (.int a1), some (.int a2), some (.long l3), none, some (.int a5), some (.int (a6 + 1)), some (.int a7), some (.int a8)]) (z := a6) (v := (a6 + 1)) hx dX0_partsFrom_107 rfl (sm_kii_1 _) (by decide) rfl (sm_iinc (ls' := [some (.ref 53), some (.int a1), some (.int a2), some (.long l3), none, some (.int a5), some (.int (a6 + 1)), some (.int a7), some (.int (a8 + 1))]) (z := a8) (v := (a8 + 1)) hx dX0_partsFrom_110 rfl (sm_kii_1 _) (by decide) rfl (sm_goto hx dX0_partsFrom_113 (tgt := 9) (by decide) (hI3))))))) (fun q1 => sm_aload_n (z := 53) hx dX0_partsFrom_89 rfl (sm_iload (z := a6) hx dX0_partsFrom_90 rfl (sm_iload (z := a7) hx dX0_partsFrom_92 rfl (sm_lload_n (z := l3) hx dX0_partsFrom_94 rfl (sm_iload (z := a5) hx dX0_partsFrom_95 rfl (sm_callVL (args := [.int a6, .int a7, .long l3, .int a5]) (st := []) hx dX0_partsFrom_97 lv_X0_213_1 rfl rfl (t_53 hB) rfl rfl (hI1.2 q1) (fun r5 I4 L4 hI4 => sm_lretL hx dX0_partsFrom_100 rfl hI4)))))))))))))) (fun q3 => sm_aload_n (z := 53) hx dX0_partsFrom_49 rfl (sm_getI hx dX0_partsFrom_50 fl_X0_114_1 (t_53 hB) rfl (sm_aload_n (z := 53) hx dX0_partsFrom_53 rfl (sm_getI hx dX0_partsFrom_54 fl_X0_42_1 (t_53 hB) rfl (sm_callSI (args := [.int (I 53 0), .int (I 53 14)]) (st := []) hx dX0_partsFrom_57 ls_X0_210 rfl rfl rfl (((h.2 q8).1 q7).2 q3) (fun r7 I6 L6 hI6 => sm_aload_n (z := 53) hx dX0_partsFrom_60 rfl (sm_getI hx dX0_partsFrom_61 fl_X0_45_1 (t_53 hB) rfl (sm_icmpne (a := r7) (b := (I6 53 15)) hx dX0_partsFrom_64 (tgt := 71) (by decide) (fun q2 => sm_lconst (v := 0) hx dX0_partsFrom_71 rfl (sm_lretL hx dX0_partsFrom_72 rfl (hI6.1 q2))) (fun q2 => sm_lload_n (z := l3) hx dX0_partsFrom_67 rfl (sm_goto hx dX0_partsFrom_68 (tgt := 72) (by decide) (sm_lretL hx dX0_partsFrom_72 rfl (hI6.2 q2)))))))))))))) (fun q7 => sm_iconst (v := 0) hx dX0_partsFrom_28 sm_kc_0 (sm_istore (ls' := [some (.ref 53), some (.int a1), some (.int a2), some (.long l3), none, some (.int a5), some (.int 0), some (.int a7), some (.int a8)]) hx dX0_partsFrom_29 (by decide) rfl (sm_iinc (ls' := [some (.ref 53), some (.int a1), some (.int a2), some (.long l3), none, some (.int a5), some (.int 0), some (.int (a7 + (-1))), some (.int a8)]) (z := a7) (v := (a7 + (-1))) hx dX0_partsFrom_31 rfl (sm_kii_m1 _) (by decide) rfl (sm_aload_n (z := 53) hx dX0_partsFrom_34 rfl (sm_dup hx dX0_partsFrom_35 rfl (sm_getI hx dX0_partsFrom_36 fl_X0_107_1 (t_53 hB) rfl (sm_iconst (v := 1) hx dX0_partsFrom_39 sm_kc_1 (sm_iadd (a := (I 53 1)) (b := 1) hx dX0_partsFrom_40 (sm_putI hx dX0_partsFrom_41 fl_X0_107_1 (t_53 hB) rfl (sm_iload (z := (a7 + (-1))) hx dX0_partsFrom_44 rfl (sm_ifgt (a := (a7 + (-1))) hx dX0_partsFrom_46 (tgt := 73) (by decide) (fun q6 => sm_aload_n (z := 53) hx dX0_partsFrom_73 rfl (sm_getR hx dX0_partsFrom_74 fl_X0_73_1 (t_53 hB) rfl (sm_getR hx dX0_partsFrom_77 fl_X0_117_8 (t_24 hB) rfl (sm_iload (z := 0) hx dX0_partsFrom_80 rfl (sm_callVI (args := [.int 0]) (st := []) hx dX0_partsFrom_82 lv_X0_120_3 rfl rfl (t_29 hB) rfl rfl (((h.2 q8).2 q7).1 q6) (fun r9 I8 L8 hI8 => sm_iconst (v := 3) hx dX0_partsFrom_85 sm_kc_3 (sm_icmpne (a := r9) (b := 3) hx dX0_partsFrom_86 (tgt := 101) (by decide) (fun q4 => sm_aload_n (z := 53) hx dX0_partsFrom_101 rfl (sm_iload (z := 0) hx dX0_partsFrom_102 rfl (sm_callVV (args := [.int 0]) (st := []) hx dX0_partsFrom_104 lv_X0_96_1 rfl rfl (t_53 hB) rfl rfl (hI8.1 q4) (fun I10 L10 hI10 => sm_iinc (ls' := [some (.ref 53), some (.int a1), some (.int a2), some (.long l3), none, some (.int a5), some (.int (0 + 1)), some (.int (a7 + (-1))), some (.int a8)]) (z := 0) (v := (0 + 1)) hx dX0_partsFrom_107 rfl (sm_kii_1 _) (by decide) rfl (sm_iinc (ls' := [some (.ref 53), some (.int a1), some (.int a2), some (.long l3), none, some (.int a5), some (.int (0 + 1)), some (.int (a7 + (-1))), some (.int (a8 + 1))]) (z := a8) (v := (a8 + 1)) hx dX0_partsFrom_110 rfl (sm_kii_1 _) (by decide) rfl (sm_goto hx dX0_partsFrom_113 (tgt := 9) (by decide) (hI10))))))) (fun q4 => sm_aload_n (z := 53) hx dX0_partsFrom_89 rfl (sm_iload (z := 0) hx dX0_partsFrom_90 rfl (sm_iload (z := (a7 + (-1))) hx dX0_partsFrom_92 rfl (sm_lload_n (z := l3) hx dX0_partsFrom_94 rfl (sm_iload (z := a5) hx dX0_partsFrom_95 rfl (sm_callVL (args := [.int 0, .int (a7 + (-1)), .long l3, .int a5]) (st := []) hx dX0_partsFrom_97 lv_X0_213_1 rfl rfl (t_53 hB) rfl rfl (hI8.2 q4) (fun r12 I11 L11 hI11 => sm_lretL hx dX0_partsFrom_100 rfl hI11)))))))))))))) (fun q6 => sm_aload_n (z := 53) hx dX0_partsFrom_49 rfl (sm_getI hx dX0_partsFrom_50 fl_X0_114_1 (t_53 hB) rfl (sm_aload_n (z := 53) hx dX0_partsFrom_53 rfl (sm_getI hx dX0_partsFrom_54 fl_X0_42_1 (t_53 hB) rfl (sm_callSI (args := [.int ((sm_uI I 53 1 ((I 53 1) + 1)) 53 0), .int ((sm_uI I 53 1 ((I 53 1) + 1)) 53 14)]) (st := []) hx dX0_partsFrom_57 ls_X0_210 rfl rfl rfl ((((h.2 q8).2 q7).2 q6) _ rfl) (fun r15 I14 L14 hI14 => sm_aload_n (z := 53) hx dX0_partsFrom_60 rfl (sm_getI hx dX0_partsFrom_61 fl_X0_45_1 (t_53 hB) rfl (sm_icmpne (a := r15) (b := (I14 53 15)) hx dX0_partsFrom_64 (tgt := 71) (by decide) (fun q5 => sm_lconst (v := 0) hx dX0_partsFrom_71 rfl (sm_lretL hx dX0_partsFrom_72 rfl (hI14.1 q5))) (fun q5 => sm_lload_n (z := l3) hx dX0_partsFrom_67 rfl (sm_goto hx dX0_partsFrom_68 (tgt := 72) (by decide) (sm_lretL hx dX0_partsFrom_72 rfl (hI14.2 q5))))))))))))))))))))))))))))))
set_option maxRecDepth 100000 in
theorem c_X0_partsFrom {n : Nat} {F : Int64 → sm_MI → sm_ML → Prop} {T : List sm_Sh} {I : sm_MI} {L : sm_ML} {a1 : Int32} {a2 : Int32} {l3 : Int64} {a5 : Int32} (hB : sm_Bs T)
    (h : ∀ x : sm_Cx, sm_Ok x mX0_partsFrom (n + 1) (sm_KL T F) → sm_V x 0 0 T I L 9 [some (.ref 53), some (.int a1), some (.int a2), some (.long l3), none, some (.int a5), some (.int a1), some (.int a2), some (.int 0)] []) :
    sm_CL (n + 1) mX0_partsFrom T I L [.ref 53, .int a1, .int a2, .long l3, .int a5] F :=
  sm_CL.of (by decide +kernel) rfl (fun x hx => show sm_V x 0 0 T I L 0 [some (.ref 53), some (.int a1), some (.int a2), some (.long l3), none, some (.int a5), none, none, none] [] from
  sm_iload_n (z := a1) hx dX0_partsFrom_0 rfl (sm_istore (ls' := [some (.ref 53), some (.int a1), some (.int a2), some (.long l3), none, some (.int a5), some (.int a1), none, none]) hx dX0_partsFrom_1 (by decide) rfl (sm_iload_n (z := a2) hx dX0_partsFrom_3 rfl (sm_istore (ls' := [some (.ref 53), some (.int a1), some (.int a2), some (.long l3), none, some (.int a5), some (.int a1), some (.int a2), none]) hx dX0_partsFrom_4 (by decide) rfl (sm_iconst (v := 0) hx dX0_partsFrom_6 sm_kc_0 (sm_istore (ls' := [some (.ref 53), some (.int a1), some (.int a2), some (.long l3), none, some (.int a5), some (.int a1), some (.int a2), some (.int 0)]) hx dX0_partsFrom_7 (by decide) rfl ((h x hx))))))))
theorem dX0_splitParts_0 : decode cX0_splitParts 0 = .ok (.iload 5, 2) := by decide +kernel
theorem dX0_splitParts_2 : decode cX0_splitParts 2 = .ok (.bipush 12, 2) := by decide +kernel
theorem dX0_splitParts_4 : decode cX0_splitParts 4 = .ok (.if_icmp .lt 5, 3) := by decide +kernel
theorem dX0_splitParts_7 : decode cX0_splitParts 7 = .ok (.lconst 0, 1) := by decide +kernel
theorem dX0_splitParts_8 : decode cX0_splitParts 8 = .ok (.lreturn, 1) := by decide +kernel
theorem dX0_splitParts_9 : decode cX0_splitParts 9 = .ok (.aload_n 0, 1) := by decide +kernel
theorem dX0_splitParts_10 : decode cX0_splitParts 10 = .ok (.getfield 114, 3) := by decide +kernel
theorem dX0_splitParts_13 : decode cX0_splitParts 13 = .ok (.istore 6, 2) := by decide +kernel
theorem dX0_splitParts_15 : decode cX0_splitParts 15 = .ok (.aload_n 0, 1) := by decide +kernel
theorem dX0_splitParts_16 : decode cX0_splitParts 16 = .ok (.getfield 107, 3) := by decide +kernel
theorem dX0_splitParts_19 : decode cX0_splitParts 19 = .ok (.istore 7, 2) := by decide +kernel
theorem dX0_splitParts_21 : decode cX0_splitParts 21 = .ok (.lload_n 3, 1) := by decide +kernel
theorem dX0_splitParts_22 : decode cX0_splitParts 22 = .ok (.aload_n 0, 1) := by decide +kernel
theorem dX0_splitParts_23 : decode cX0_splitParts 23 = .ok (.getfield 48, 3) := by decide +kernel
theorem dX0_splitParts_26 : decode cX0_splitParts 26 = .ok (.i2l, 1) := by decide +kernel
theorem dX0_splitParts_27 : decode cX0_splitParts 27 = .ok (.lmul, 1) := by decide +kernel
theorem dX0_splitParts_28 : decode cX0_splitParts 28 = .ok (.ldc2_w 144, 3) := by decide +kernel
theorem dX0_splitParts_31 : decode cX0_splitParts 31 = .ok (.ldiv, 1) := by decide +kernel
theorem dX0_splitParts_32 : decode cX0_splitParts 32 = .ok (.lstore 8, 2) := by decide +kernel
theorem dX0_splitParts_34 : decode cX0_splitParts 34 = .ok (.lconst 0, 1) := by decide +kernel
theorem dX0_splitParts_35 : decode cX0_splitParts 35 = .ok (.lstore 10, 2) := by decide +kernel
theorem dX0_splitParts_37 : decode cX0_splitParts 37 = .ok (.lload 8, 2) := by decide +kernel
theorem dX0_splitParts_39 : decode cX0_splitParts 39 = .ok (.lconst 0, 1) := by decide +kernel
theorem dX0_splitParts_40 : decode cX0_splitParts 40 = .ok (.lcmp, 1) := by decide +kernel
theorem dX0_splitParts_41 : decode cX0_splitParts 41 = .ok (.ifCond .le 36, 3) := by decide +kernel
theorem dX0_splitParts_44 : decode cX0_splitParts 44 = .ok (.aload_n 0, 1) := by decide +kernel
theorem dX0_splitParts_45 : decode cX0_splitParts 45 = .ok (.iconst 0, 1) := by decide +kernel
theorem dX0_splitParts_46 : decode cX0_splitParts 46 = .ok (.putfield 39, 3) := by decide +kernel
theorem dX0_splitParts_49 : decode cX0_splitParts 49 = .ok (.aload_n 0, 1) := by decide +kernel
theorem dX0_splitParts_50 : decode cX0_splitParts 50 = .ok (.iload_n 1, 1) := by decide +kernel
theorem dX0_splitParts_51 : decode cX0_splitParts 51 = .ok (.iconst 1, 1) := by decide +kernel
theorem dX0_splitParts_52 : decode cX0_splitParts 52 = .ok (.iadd, 1) := by decide +kernel
theorem dX0_splitParts_53 : decode cX0_splitParts 53 = .ok (.iload_n 2, 1) := by decide +kernel
theorem dX0_splitParts_54 : decode cX0_splitParts 54 = .ok (.lload 8, 2) := by decide +kernel
theorem dX0_splitParts_56 : decode cX0_splitParts 56 = .ok (.iload 5, 2) := by decide +kernel
theorem dX0_splitParts_58 : decode cX0_splitParts 58 = .ok (.iconst 1, 1) := by decide +kernel
theorem dX0_splitParts_59 : decode cX0_splitParts 59 = .ok (.iadd, 1) := by decide +kernel
theorem dX0_splitParts_60 : decode cX0_splitParts 60 = .ok (.invokevirtual 206, 3) := by decide +kernel
theorem dX0_splitParts_63 : decode cX0_splitParts 63 = .ok (.lstore 10, 2) := by decide +kernel
theorem dX0_splitParts_65 : decode cX0_splitParts 65 = .ok (.aload_n 0, 1) := by decide +kernel
theorem dX0_splitParts_66 : decode cX0_splitParts 66 = .ok (.iload 6, 2) := by decide +kernel
theorem dX0_splitParts_68 : decode cX0_splitParts 68 = .ok (.putfield 114, 3) := by decide +kernel
theorem dX0_splitParts_71 : decode cX0_splitParts 71 = .ok (.aload_n 0, 1) := by decide +kernel
theorem dX0_splitParts_72 : decode cX0_splitParts 72 = .ok (.iload 7, 2) := by decide +kernel
theorem dX0_splitParts_74 : decode cX0_splitParts 74 = .ok (.putfield 107, 3) := by decide +kernel
theorem dX0_splitParts_77 : decode cX0_splitParts 77 = .ok (.lload 8, 2) := by decide +kernel
theorem dX0_splitParts_79 : decode cX0_splitParts 79 = .ok (.lload_n 3, 1) := by decide +kernel
theorem dX0_splitParts_80 : decode cX0_splitParts 80 = .ok (.lcmp, 1) := by decide +kernel
theorem dX0_splitParts_81 : decode cX0_splitParts 81 = .ok (.ifCond .ge 29, 3) := by decide +kernel
theorem dX0_splitParts_84 : decode cX0_splitParts 84 = .ok (.aload_n 0, 1) := by decide +kernel
theorem dX0_splitParts_85 : decode cX0_splitParts 85 = .ok (.iload_n 1, 1) := by decide +kernel
theorem dX0_splitParts_86 : decode cX0_splitParts 86 = .ok (.invokevirtual 96, 3) := by decide +kernel
theorem dX0_splitParts_89 : decode cX0_splitParts 89 = .ok (.lload 10, 2) := by decide +kernel
theorem dX0_splitParts_91 : decode cX0_splitParts 91 = .ok (.aload_n 0, 1) := by decide +kernel
theorem dX0_splitParts_92 : decode cX0_splitParts 92 = .ok (.iload_n 1, 1) := by decide +kernel
theorem dX0_splitParts_93 : decode cX0_splitParts 93 = .ok (.iconst 1, 1) := by decide +kernel
theorem dX0_splitParts_94 : decode cX0_splitParts 94 = .ok (.iadd, 1) := by decide +kernel
theorem dX0_splitParts_95 : decode cX0_splitParts 95 = .ok (.iload_n 2, 1) := by decide +kernel
theorem dX0_splitParts_96 : decode cX0_splitParts 96 = .ok (.lload_n 3, 1) := by decide +kernel
theorem dX0_splitParts_97 : decode cX0_splitParts 97 = .ok (.lload 8, 2) := by decide +kernel
theorem dX0_splitParts_99 : decode cX0_splitParts 99 = .ok (.lsub, 1) := by decide +kernel
theorem dX0_splitParts_100 : decode cX0_splitParts 100 = .ok (.iload 5, 2) := by decide +kernel
theorem dX0_splitParts_102 : decode cX0_splitParts 102 = .ok (.iconst 1, 1) := by decide +kernel
theorem dX0_splitParts_103 : decode cX0_splitParts 103 = .ok (.iadd, 1) := by decide +kernel
theorem dX0_splitParts_104 : decode cX0_splitParts 104 = .ok (.invokevirtual 206, 3) := by decide +kernel
theorem dX0_splitParts_107 : decode cX0_splitParts 107 = .ok (.ladd, 1) := by decide +kernel
theorem dX0_splitParts_108 : decode cX0_splitParts 108 = .ok (.lstore 10, 2) := by decide +kernel
theorem dX0_splitParts_110 : decode cX0_splitParts 110 = .ok (.lload 10, 2) := by decide +kernel
theorem dX0_splitParts_112 : decode cX0_splitParts 112 = .ok (.lreturn, 1) := by decide +kernel
set_option maxRecDepth 100000 in
theorem c_X0_splitParts {n : Nat} {F : Int64 → sm_MI → sm_ML → Prop} {T : List sm_Sh} {I : sm_MI} {L : sm_ML} {a1 : Int32} {a2 : Int32} {l3 : Int64} {a5 : Int32} (hB : sm_Bs T)
    (h : (a5 < 12 → ((lg_cmp ((l3 * (Int32.toInt64 (I 53 16))) / 100) 0) ≤ 0 → (0 ≤ (lg_cmp ((l3 * (Int32.toInt64 (I 53 16))) / 100) l3) → F 0 I L) ∧ (¬ 0 ≤ (lg_cmp ((l3 * (Int32.toInt64 (I 53 16))) / 100) l3) → sm_CV n mX0_walk T I L [.ref 53, .int a1] (fun I1 L1 => sm_CL n mX0_partsFrom T I1 L1 [.ref 53, .int (a1 + 1), .int a2, .long (l3 - ((l3 * (Int32.toInt64 (I 53 16))) / 100)), .int (a5 + 1)] (fun r3 I2 L2 => F (0 + r3) I2 L2)))) ∧ (¬ (lg_cmp ((l3 * (Int32.toInt64 (I 53 16))) / 100) 0) ≤ 0 → sm_CL n mX0_partsFrom T (sm_uI I 53 13 0) L [.ref 53, .int (a1 + 1), .int a2, .long ((l3 * (Int32.toInt64 (I 53 16))) / 100), .int (a5 + 1)] (fun r5 I4 L4 => (0 ≤ (lg_cmp ((l3 * (Int32.toInt64 (I 53 16))) / 100) l3) → F r5 (sm_uI (sm_uI I4 53 0 (I 53 0)) 53 1 (I 53 1)) L4) ∧ (¬ 0 ≤ (lg_cmp ((l3 * (Int32.toInt64 (I 53 16))) / 100) l3) → sm_CV n mX0_walk T (sm_uI (sm_uI I4 53 0 (I 53 0)) 53 1 (I 53 1)) L4 [.ref 53, .int a1] (fun I6 L6 => sm_CL n mX0_partsFrom T I6 L6 [.ref 53, .int (a1 + 1), .int a2, .long (l3 - ((l3 * (Int32.toInt64 (I 53 16))) / 100)), .int (a5 + 1)] (fun r8 I7 L7 => F (r5 + r8) I7 L7)))))) ∧ (¬ a5 < 12 → F 0 I L)) :
    sm_CL (n + 1) mX0_splitParts T I L [.ref 53, .int a1, .int a2, .long l3, .int a5] F :=
  sm_CL.of (by decide +kernel) rfl (fun x hx => show sm_V x 0 0 T I L 0 [some (.ref 53), some (.int a1), some (.int a2), some (.long l3), none, some (.int a5), none, none, none, none, none, none] [] from
  sm_iload (z := a5) hx dX0_splitParts_0 rfl (sm_bipush (v := 12) hx dX0_splitParts_2 sm_kb_12 (sm_icmplt (a := a5) (b := 12) hx dX0_splitParts_4 (tgt := 9) (by decide) (fun q4 => sm_aload_n (z := 53) hx dX0_splitParts_9 rfl (sm_getI hx dX0_splitParts_10 fl_X0_114_1 (t_53 hB) rfl (sm_istore (ls' := [some (.ref 53), some (.int a1), some (.int a2), some (.long l3), none, some (.int a5), some (.int (I 53 0)), none, none, none, none, none]) hx dX0_splitParts_13 (by decide) rfl (sm_aload_n (z := 53) hx dX0_splitParts_15 rfl (sm_getI hx dX0_splitParts_16 fl_X0_107_1 (t_53 hB) rfl (sm_istore (ls' := [some (.ref 53), some (.int a1), some (.int a2), some (.long l3), none, some (.int a5), some (.int (I 53 0)), some (.int (I 53 1)), none, none, none, none]) hx dX0_splitParts_19 (by decide) rfl (sm_lload_n (z := l3) hx dX0_splitParts_21 rfl (sm_aload_n (z := 53) hx dX0_splitParts_22 rfl (sm_getI hx dX0_splitParts_23 fl_X0_48_1 (t_53 hB) rfl (sm_i2l (a := (I 53 16)) hx dX0_splitParts_26 (sm_lmul (a := l3) (b := (Int32.toInt64 (I 53 16))) hx dX0_splitParts_27 (sm_ldc2 (v := 100) hx dX0_splitParts_28 k_X0_144 (sm_ldiv (a := (l3 * (Int32.toInt64 (I 53 16)))) (b := 100) hx dX0_splitParts_31 (by decide) (sm_lstore (ls' := [some (.ref 53), some (.int a1), some (.int a2), some (.long l3), none, some (.int a5), some (.int (I 53 0)), some (.int (I 53 1)), some (.long ((l3 * (Int32.toInt64 (I 53 16))) / 100)), none, none, none]) hx dX0_splitParts_32 (by decide) rfl (sm_lconst (v := 0) hx dX0_splitParts_34 rfl (sm_lstore (ls' := [some (.ref 53), some (.int a1), some (.int a2), some (.long l3), none, some (.int a5), some (.int (I 53 0)), some (.int (I 53 1)), some (.long ((l3 * (Int32.toInt64 (I 53 16))) / 100)), none, some (.long 0), none]) hx dX0_splitParts_35 (by decide) rfl (sm_lload (z := ((l3 * (Int32.toInt64 (I 53 16))) / 100)) hx dX0_splitParts_37 rfl (sm_lconst (v := 0) hx dX0_splitParts_39 rfl (sm_lcmp (a := ((l3 * (Int32.toInt64 (I 53 16))) / 100)) (b := 0) hx dX0_splitParts_40 (sm_ifle (a := (lg_cmp ((l3 * (Int32.toInt64 (I 53 16))) / 100) 0)) hx dX0_splitParts_41 (tgt := 77) (by decide) (fun q3 => sm_lload (z := ((l3 * (Int32.toInt64 (I 53 16))) / 100)) hx dX0_splitParts_77 rfl (sm_lload_n (z := l3) hx dX0_splitParts_79 rfl (sm_lcmp (a := ((l3 * (Int32.toInt64 (I 53 16))) / 100)) (b := l3) hx dX0_splitParts_80 (sm_ifge (a := (lg_cmp ((l3 * (Int32.toInt64 (I 53 16))) / 100) l3)) hx dX0_splitParts_81 (tgt := 110) (by decide) (fun q1 => sm_lload (z := 0) hx dX0_splitParts_110 rfl (sm_lretL hx dX0_splitParts_112 rfl (((h.1 q4).1 q3).1 q1))) (fun q1 => sm_aload_n (z := 53) hx dX0_splitParts_84 rfl (sm_iload_n (z := a1) hx dX0_splitParts_85 rfl (sm_callVV (args := [.int a1]) (st := []) hx dX0_splitParts_86 lv_X0_96_1 rfl rfl (t_53 hB) rfl rfl (((h.1 q4).1 q3).2 q1) (fun I1 L1 hI1 => sm_lload (z := 0) hx dX0_splitParts_89 rfl (sm_aload_n (z := 53) hx dX0_splitParts_91 rfl (sm_iload_n (z := a1) hx dX0_splitParts_92 rfl (sm_iconst (v := 1) hx dX0_splitParts_93 sm_kc_1 (sm_iadd (a := a1) (b := 1) hx dX0_splitParts_94 (sm_iload_n (z := a2) hx dX0_splitParts_95 rfl (sm_lload_n (z := l3) hx dX0_splitParts_96 rfl (sm_lload (z := ((l3 * (Int32.toInt64 (I 53 16))) / 100)) hx dX0_splitParts_97 rfl (sm_lsub (a := l3) (b := ((l3 * (Int32.toInt64 (I 53 16))) / 100)) hx dX0_splitParts_99 (sm_iload (z := a5) hx dX0_splitParts_100 rfl (sm_iconst (v := 1) hx dX0_splitParts_102 sm_kc_1 (sm_iadd (a := a5) (b := 1) hx dX0_splitParts_103 (sm_callVL (args := [.int (a1 + 1), .int a2, .long (l3 - ((l3 * (Int32.toInt64 (I 53 16))) / 100)), .int (a5 + 1)]) (st := [.long 0]) hx dX0_splitParts_104 lv_X0_206_1 rfl rfl (t_53 hB) rfl rfl hI1 (fun r3 I2 L2 hI2 => sm_ladd (a := 0) (b := r3) hx dX0_splitParts_107 (sm_lstore (ls' := [some (.ref 53), some (.int a1), some (.int a2), some (.long l3), none, some (.int a5), some (.int (I 53 0)), some (.int (I 53 1)), some (.long ((l3 * (Int32.toInt64 (I 53 16))) / 100)), none, some (.long (0 + r3)), none]) hx dX0_splitParts_108 (by decide) rfl (sm_lload (z := (0 + r3)) hx dX0_splitParts_110 rfl (sm_lretL hx dX0_splitParts_112 rfl hI2)))))))))))))))))))))))) (fun q3 => sm_aload_n (z := 53) hx dX0_splitParts_44 rfl (sm_iconst (v := 0) hx dX0_splitParts_45 sm_kc_0 (sm_putI hx dX0_splitParts_46 fl_X0_39_1 (t_53 hB) rfl (sm_aload_n (z := 53) hx dX0_splitParts_49 rfl (sm_iload_n (z := a1) hx dX0_splitParts_50 rfl (sm_iconst (v := 1) hx dX0_splitParts_51 sm_kc_1 (sm_iadd (a := a1) (b := 1) hx dX0_splitParts_52 (sm_iload_n (z := a2) hx dX0_splitParts_53 rfl (sm_lload (z := ((l3 * (Int32.toInt64 (I 53 16))) / 100)) hx dX0_splitParts_54 rfl (sm_iload (z := a5) hx dX0_splitParts_56 rfl (sm_iconst (v := 1) hx dX0_splitParts_58 sm_kc_1 (sm_iadd (a := a5) (b := 1) hx dX0_splitParts_59 (sm_callVL (args := [.int (a1 + 1), .int a2, .long ((l3 * (Int32.toInt64 (I 53 16))) / 100), .int (a5 + 1)]) (st := []) hx dX0_splitParts_60 lv_X0_206_1 rfl rfl (t_53 hB) rfl rfl ((h.1 q4).2 q3) (fun r5 I4 L4 hI4 => sm_lstore (ls' := [some (.ref 53), some (.int a1), some (.int a2), some (.long l3), none, some (.int a5), some (.int (I 53 0)), some (.int (I 53 1)), some (.long ((l3 * (Int32.toInt64 (I 53 16))) / 100)), none, some (.long r5), none]) hx dX0_splitParts_63 (by decide) rfl (sm_aload_n (z := 53) hx dX0_splitParts_65 rfl (sm_iload (z := (I 53 0)) hx dX0_splitParts_66 rfl (sm_putI hx dX0_splitParts_68 fl_X0_114_1 (t_53 hB) rfl (sm_aload_n (z := 53) hx dX0_splitParts_71 rfl (sm_iload (z := (I 53 1)) hx dX0_splitParts_72 rfl (sm_putI hx dX0_splitParts_74 fl_X0_107_1 (t_53 hB) rfl (sm_lload (z := ((l3 * (Int32.toInt64 (I 53 16))) / 100)) hx dX0_splitParts_77 rfl (sm_lload_n (z := l3) hx dX0_splitParts_79 rfl (sm_lcmp (a := ((l3 * (Int32.toInt64 (I 53 16))) / 100)) (b := l3) hx dX0_splitParts_80 (sm_ifge (a := (lg_cmp ((l3 * (Int32.toInt64 (I 53 16))) / 100) l3)) hx dX0_splitParts_81 (tgt := 110) (by decide) (fun q2 => sm_lload (z := r5) hx dX0_splitParts_110 rfl (sm_lretL hx dX0_splitParts_112 rfl (hI4.1 q2))) (fun q2 => sm_aload_n (z := 53) hx dX0_splitParts_84 rfl (sm_iload_n (z := a1) hx dX0_splitParts_85 rfl (sm_callVV (args := [.int a1]) (st := []) hx dX0_splitParts_86 lv_X0_96_1 rfl rfl (t_53 hB) rfl rfl (hI4.2 q2) (fun I6 L6 hI6 => sm_lload (z := r5) hx dX0_splitParts_89 rfl (sm_aload_n (z := 53) hx dX0_splitParts_91 rfl (sm_iload_n (z := a1) hx dX0_splitParts_92 rfl (sm_iconst (v := 1) hx dX0_splitParts_93 sm_kc_1 (sm_iadd (a := a1) (b := 1) hx dX0_splitParts_94 (sm_iload_n (z := a2) hx dX0_splitParts_95 rfl (sm_lload_n (z := l3) hx dX0_splitParts_96 rfl (sm_lload (z := ((l3 * (Int32.toInt64 (I 53 16))) / 100)) hx dX0_splitParts_97 rfl (sm_lsub (a := l3) (b := ((l3 * (Int32.toInt64 (I 53 16))) / 100)) hx dX0_splitParts_99 (sm_iload (z := a5) hx dX0_splitParts_100 rfl (sm_iconst (v := 1) hx dX0_splitParts_102 sm_kc_1 (sm_iadd (a := a5) (b := 1) hx dX0_splitParts_103 (sm_callVL (args := [.int (a1 + 1), .int a2, .long (l3 - ((l3 * (Int32.toInt64 (I 53 16))) / 100)), .int (a5 + 1)]) (st := [.long r5]) hx dX0_splitParts_104 lv_X0_206_1 rfl rfl (t_53 hB) rfl rfl hI6 (fun r8 I7 L7 hI7 => sm_ladd (a := r5) (b := r8) hx dX0_splitParts_107 (sm_lstore (ls' := [some (.ref 53), some (.int a1), some (.int a2), some (.long l3), none, some (.int a5), some (.int (I 53 0)), some (.int (I 53 1)), some (.long ((l3 * (Int32.toInt64 (I 53 16))) / 100)), none, some (.long (r5 + r8)), none]) hx dX0_splitParts_108 (by decide) rfl (sm_lload (z := (r5 + r8)) hx dX0_splitParts_110 rfl (sm_lretL hx dX0_splitParts_112 rfl hI7)))))))))))))))))))))))))))))))))))))))))))))))))))))))))))))))) (fun q4 => sm_lconst (v := 0) hx dX0_splitParts_7 rfl (sm_lretL hx dX0_splitParts_8 rfl (h.2 q4))))))
