section
variable {n : Nat} {T : List sm_Sh} {I : sm_MI} {L : sm_ML}
set_option maxRecDepth 100000 in
theorem k_Tape {k : Nat} (hk : T[k]? = some (.inr (10, [.null, .int 0]))) (hI : I k = fun _ => 0) (hl : T.length + 3 < 1000000) : sm_Call (n + 2) 2 161 mX10_init T I L [.ref k] (kCt T I L k (.inr (10, [.ref T.length, .int 0])) [.inr (3, [.ref (T.length + 1)]), .inl (.int, 160, [])]) := by
  have hkl := lt_of hk
  refine sm_Call.of (by decide +kernel) rfl (fun x hx => ?_)
  suffices h : sm_V x 2 161 (ST T k 10 [.null, .int 0] []) I L 0 [some (.ref k)] [] by rw [← ST_0 hk] at h; exact h
  refine sm_aload_n (z := k) hx dX10_init_0 rfl (sm_objInit hx dX10_init_1 oi_X10_3 oi_2 oi_3 rfl ?_)
  refine pRow (n := n) (m := 160) (pc := 4) (pc5 := 12) (j := 0) hx hkl ZI_0 rfl dX10_init_4 dX10_init_5 kc_X10_9 dX10_init_8 (fun _ _ _ _ _ _ h => sm_sipush (v := nI 160) hx dX10_init_9 (by decide) h) dX10_init_12 li_X10_11 dX10_init_15 ff_X10_14_10 rfl rfl (by show (0 : Nat) < 2; decide) (by decide) (by show T.length + _ + 2 < 1000000; simp only [List.length_append, List.length_cons, List.length_nil]; omega) (by decide) (by decide) rfl (fun I1 L1 z1 => ?_)
  refine pInt (m := 2) (pc := 18) (j := 1) hx hkl z1 hI rfl dX10_init_18 dX10_init_19 dX10_init_20 fl_X10_20_10 rfl ?_
  exact ct_ret (hx := hx) z1 dX10_init_23 rfl
set_option maxRecDepth 100000 in
theorem k_Past {k : Nat} (hk : T[k]? = some (.inr (2, [.null, .null, .null, .int 0, .int 0]))) (hI : I k = fun _ => 0) (hl : T.length + 7 < 1000000) : sm_Call (n + 2) 6 183 mX1_init T I L [.ref k] (kCt T I L k (.inr (2, [.ref T.length, .ref (T.length + 2), .ref (T.length + 4), .int 0, .int 0])) [.inr (3, [.ref (T.length + 1)]), .inl (.int, 60, []), .inr (3, [.ref (T.length + 3)]), .inl (.int, 60, []), .inr (3, [.ref (T.length + 5)]), .inl (.int, 60, [])]) := by
  have hkl := lt_of hk
  refine sm_Call.of (by decide +kernel) rfl (fun x hx => ?_)
  suffices h : sm_V x 6 183 (ST T k 2 [.null, .null, .null, .int 0, .int 0] []) I L 0 [some (.ref k)] [] by rw [← ST_0 hk] at h; exact h
  refine sm_aload_n (z := k) hx dX1_init_0 rfl (sm_objInit hx dX1_init_1 oi_X1_3 oi_2 oi_3 rfl ?_)
  refine pRow (n := n) (m := 60) (pc := 4) (pc5 := 11) (j := 0) hx hkl ZI_0 rfl dX1_init_4 dX1_init_5 kc_X1_9 dX1_init_8 (fun _ _ _ _ _ _ h => sm_bipush (v := nI 60) hx dX1_init_9 (by decide) h) dX1_init_11 li_X1_11 dX1_init_14 ff_X1_14_2 rfl rfl (by show (0 : Nat) < 5; decide) (by decide) (by show T.length + _ + 2 < 1000000; simp only [List.length_append, List.length_cons, List.length_nil]; omega) (by decide) (by decide) rfl (fun I1 L1 z1 => ?_)
  refine pRow (n := n) (m := 60) (pc := 17) (pc5 := 24) (j := 1) hx hkl z1 rfl dX1_init_17 dX1_init_18 kc_X1_9 dX1_init_21 (fun _ _ _ _ _ _ h => sm_bipush (v := nI 60) hx dX1_init_22 (by decide) h) dX1_init_24 li_X1_11 dX1_init_27 ff_X1_20_2 rfl rfl (by show (1 : Nat) < 5; decide) (by decide) (by show T.length + _ + 2 < 1000000; simp only [List.length_append, List.length_cons, List.length_nil]; omega) (by decide) (by decide) rfl (fun I2 L2 z2 => ?_)
  refine pRow (n := n) (m := 60) (pc := 30) (pc5 := 37) (j := 2) hx hkl z2 rfl dX1_init_30 dX1_init_31 kc_X1_9 dX1_init_34 (fun _ _ _ _ _ _ h => sm_bipush (v := nI 60) hx dX1_init_35 (by decide) h) dX1_init_37 li_X1_11 dX1_init_40 ff_X1_23_2 rfl rfl (by show (2 : Nat) < 5; decide) (by decide) (by show T.length + _ + 2 < 1000000; simp only [List.length_append, List.length_cons, List.length_nil]; omega) (by decide) (by decide) rfl (fun I3 L3 z3 => ?_)
  refine pInt (m := 6) (pc := 43) (j := 3) hx hkl z3 hI rfl dX1_init_43 dX1_init_44 dX1_init_45 fl_X1_26_2 rfl ?_
  refine pInt (m := 6) (pc := 48) (j := 4) hx hkl z3 hI rfl dX1_init_48 dX1_init_49 dX1_init_50 fl_X1_30_2 rfl ?_
  exact ct_ret (hx := hx) z3 dX1_init_53 rfl
set_option maxRecDepth 100000 in
theorem k_Seen {k : Nat} (hk : T[k]? = some (.inr (6, [.null, .null, .null, .null, .int 0, .int 0]))) (hI : I k = fun _ => 0) (hl : T.length + 9 < 1000000) : sm_Call (n + 2) 8 84 mX6_init T I L [.ref k] (kCt T I L k (.inr (6, [.ref T.length, .ref (T.length + 2), .ref (T.length + 4), .ref (T.length + 6), .int 0, .int 0])) [.inr (3, [.ref (T.length + 1)]), .inl (.int, 20, []), .inr (3, [.ref (T.length + 3)]), .inl (.int, 20, []), .inr (3, [.ref (T.length + 5)]), .inl (.int, 20, []), .inr (3, [.ref (T.length + 7)]), .inl (.int, 20, [])]) := by
  have hkl := lt_of hk
  refine sm_Call.of (by decide +kernel) rfl (fun x hx => ?_)
  suffices h : sm_V x 8 84 (ST T k 6 [.null, .null, .null, .null, .int 0, .int 0] []) I L 0 [some (.ref k)] [] by rw [← ST_0 hk] at h; exact h
  refine sm_aload_n (z := k) hx dX6_init_0 rfl (sm_objInit hx dX6_init_1 oi_X6_3 oi_2 oi_3 rfl ?_)
  refine pRow (n := n) (m := 20) (pc := 4) (pc5 := 11) (j := 0) hx hkl ZI_0 rfl dX6_init_4 dX6_init_5 kc_X6_9 dX6_init_8 (fun _ _ _ _ _ _ h => sm_bipush (v := nI 20) hx dX6_init_9 (by decide) h) dX6_init_11 li_X6_11 dX6_init_14 ff_X6_14_6 rfl rfl (by show (0 : Nat) < 6; decide) (by decide) (by show T.length + _ + 2 < 1000000; simp only [List.length_append, List.length_cons, List.length_nil]; omega) (by decide) (by decide) rfl (fun I1 L1 z1 => ?_)
  refine pRow (n := n) (m := 20) (pc := 17) (pc5 := 24) (j := 1) hx hkl z1 rfl dX6_init_17 dX6_init_18 kc_X6_9 dX6_init_21 (fun _ _ _ _ _ _ h => sm_bipush (v := nI 20) hx dX6_init_22 (by decide) h) dX6_init_24 li_X6_11 dX6_init_27 ff_X6_20_6 rfl rfl (by show (1 : Nat) < 6; decide) (by decide) (by show T.length + _ + 2 < 1000000; simp only [List.length_append, List.length_cons, List.length_nil]; omega) (by decide) (by decide) rfl (fun I2 L2 z2 => ?_)
  refine pRow (n := n) (m := 20) (pc := 30) (pc5 := 37) (j := 2) hx hkl z2 rfl dX6_init_30 dX6_init_31 kc_X6_9 dX6_init_34 (fun _ _ _ _ _ _ h => sm_bipush (v := nI 20) hx dX6_init_35 (by decide) h) dX6_init_37 li_X6_11 dX6_init_40 ff_X6_23_6 rfl rfl (by show (2 : Nat) < 6; decide) (by decide) (by show T.length + _ + 2 < 1000000; simp only [List.length_append, List.length_cons, List.length_nil]; omega) (by decide) (by decide) rfl (fun I3 L3 z3 => ?_)
  refine pRow (n := n) (m := 20) (pc := 43) (pc5 := 50) (j := 3) hx hkl z3 rfl dX6_init_43 dX6_init_44 kc_X6_9 dX6_init_47 (fun _ _ _ _ _ _ h => sm_bipush (v := nI 20) hx dX6_init_48 (by decide) h) dX6_init_50 li_X6_11 dX6_init_53 ff_X6_26_6 rfl rfl (by show (3 : Nat) < 6; decide) (by decide) (by show T.length + _ + 2 < 1000000; simp only [List.length_append, List.length_cons, List.length_nil]; omega) (by decide) (by decide) rfl (fun I4 L4 z4 => ?_)
  refine pInt (m := 8) (pc := 56) (j := 4) hx hkl z4 hI rfl dX6_init_56 dX6_init_57 dX6_init_58 fl_X6_29_6 rfl ?_
  refine pInt (m := 8) (pc := 61) (j := 5) hx hkl z4 hI rfl dX6_init_61 dX6_init_62 dX6_init_63 fl_X6_33_6 rfl ?_
  exact ct_ret (hx := hx) z4 dX6_init_66 rfl
set_option maxRecDepth 100000 in
theorem k_Street {k : Nat} (hk : T[k]? = some (.inr (8, [.int 0, .int 0, .int 0, .int 0, .int 0, .int 0, .null, .null, .null, .null, .null]))) (hI : I k = fun _ => 0) (hl : T.length + 11 < 1000000) : sm_Call (n + 2) 10 30 mX8_init T I L [.ref k] (kCt T I L k (.inr (8, [.int 0, .int 0, .int 0, .int 0, .int 0, .int 0, .ref T.length, .ref (T.length + 2), .ref (T.length + 4), .ref (T.length + 6), .ref (T.length + 8)])) [.inr (3, [.ref (T.length + 1)]), .inl (.int, 5, []), .inr (3, [.ref (T.length + 3)]), .inl (.int, 5, []), .inr (3, [.ref (T.length + 5)]), .inl (.int, 5, []), .inr (3, [.ref (T.length + 7)]), .inl (.int, 5, []), .inr (3, [.ref (T.length + 9)]), .inl (.int, 5, [])]) := by
  have hkl := lt_of hk
  refine sm_Call.of (by decide +kernel) rfl (fun x hx => ?_)
  suffices h : sm_V x 10 30 (ST T k 8 [.int 0, .int 0, .int 0, .int 0, .int 0, .int 0, .null, .null, .null, .null, .null] []) I L 0 [some (.ref k)] [] by rw [← ST_0 hk] at h; exact h
  refine sm_aload_n (z := k) hx dX8_init_0 rfl (sm_objInit hx dX8_init_1 oi_X8_3 oi_2 oi_3 rfl ?_)
  refine pInt (m := 0) (pc := 4) (j := 0) hx hkl ZI_0 hI rfl dX8_init_4 dX8_init_5 dX8_init_6 fl_X8_9_8 rfl ?_
  refine pInt (m := 0) (pc := 9) (j := 1) hx hkl ZI_0 hI rfl dX8_init_9 dX8_init_10 dX8_init_11 fl_X8_15_8 rfl ?_
  refine pInt (m := 0) (pc := 14) (j := 2) hx hkl ZI_0 hI rfl dX8_init_14 dX8_init_15 dX8_init_16 fl_X8_18_8 rfl ?_
  refine pInt (m := 0) (pc := 19) (j := 3) hx hkl ZI_0 hI rfl dX8_init_19 dX8_init_20 dX8_init_21 fl_X8_21_8 rfl ?_
  refine pInt (m := 0) (pc := 24) (j := 4) hx hkl ZI_0 hI rfl dX8_init_24 dX8_init_25 dX8_init_26 fl_X8_24_8 rfl ?_
  refine pInt (m := 0) (pc := 29) (j := 5) hx hkl ZI_0 hI rfl dX8_init_29 dX8_init_30 dX8_init_31 fl_X8_27_8 rfl ?_
  refine pRow (n := n) (m := 5) (pc := 34) (pc5 := 40) (j := 6) hx hkl ZI_0 rfl dX8_init_34 dX8_init_35 kc_X8_30 dX8_init_38 (fun _ _ _ _ _ _ h => sm_iconst (v := nI 5) hx dX8_init_39 (by decide) h) dX8_init_40 li_X8_32 dX8_init_43 ff_X8_35_8 rfl rfl (by show (6 : Nat) < 11; decide) (by decide) (by show T.length + _ + 2 < 1000000; simp only [List.length_append, List.length_cons, List.length_nil]; omega) (by decide) (by decide) rfl (fun I1 L1 z1 => ?_)
  refine pRow (n := n) (m := 5) (pc := 46) (pc5 := 52) (j := 7) hx hkl z1 rfl dX8_init_46 dX8_init_47 kc_X8_30 dX8_init_50 (fun _ _ _ _ _ _ h => sm_iconst (v := nI 5) hx dX8_init_51 (by decide) h) dX8_init_52 li_X8_32 dX8_init_55 ff_X8_39_8 rfl rfl (by show (7 : Nat) < 11; decide) (by decide) (by show T.length + _ + 2 < 1000000; simp only [List.length_append, List.length_cons, List.length_nil]; omega) (by decide) (by decide) rfl (fun I2 L2 z2 => ?_)
  refine pRow (n := n) (m := 5) (pc := 58) (pc5 := 64) (j := 8) hx hkl z2 rfl dX8_init_58 dX8_init_59 kc_X8_30 dX8_init_62 (fun _ _ _ _ _ _ h => sm_iconst (v := nI 5) hx dX8_init_63 (by decide) h) dX8_init_64 li_X8_32 dX8_init_67 ff_X8_42_8 rfl rfl (by show (8 : Nat) < 11; decide) (by decide) (by show T.length + _ + 2 < 1000000; simp only [List.length_append, List.length_cons, List.length_nil]; omega) (by decide) (by decide) rfl (fun I3 L3 z3 => ?_)
  refine pRow (n := n) (m := 5) (pc := 70) (pc5 := 76) (j := 9) hx hkl z3 rfl dX8_init_70 dX8_init_71 kc_X8_30 dX8_init_74 (fun _ _ _ _ _ _ h => sm_iconst (v := nI 5) hx dX8_init_75 (by decide) h) dX8_init_76 li_X8_32 dX8_init_79 ff_X8_45_8 rfl rfl (by show (9 : Nat) < 11; decide) (by decide) (by show T.length + _ + 2 < 1000000; simp only [List.length_append, List.length_cons, List.length_nil]; omega) (by decide) (by decide) rfl (fun I4 L4 z4 => ?_)
  refine pRow (n := n) (m := 5) (pc := 82) (pc5 := 88) (j := 10) hx hkl z4 rfl dX8_init_82 dX8_init_83 kc_X8_30 dX8_init_86 (fun _ _ _ _ _ _ h => sm_iconst (v := nI 5) hx dX8_init_87 (by decide) h) dX8_init_88 li_X8_32 dX8_init_91 ff_X8_48_8 rfl rfl (by show (10 : Nat) < 11; decide) (by decide) (by show T.length + _ + 2 < 1000000; simp only [List.length_append, List.length_cons, List.length_nil]; omega) (by decide) (by decide) rfl (fun I5 L5 z5 => ?_)
  exact ct_ret (hx := hx) z5 dX8_init_94 rfl
end
