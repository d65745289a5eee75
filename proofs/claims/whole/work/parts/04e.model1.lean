/-! METHODS (model1), laid by program (wip/gen): what each instruction is, and between cut points what the walk asks. -/
theorem dX12_in_0 : decode cX12_in 0 = .ok (.iload_n 0, 1) := by decide +kernel
theorem dX12_in_1 : decode cX12_in 1 = .ok (.iload_n 1, 1) := by decide +kernel
theorem dX12_in_2 : decode cX12_in 2 = .ok (.if_icmp .lt 12, 3) := by decide +kernel
theorem dX12_in_5 : decode cX12_in 5 = .ok (.iload_n 0, 1) := by decide +kernel
theorem dX12_in_6 : decode cX12_in 6 = .ok (.iload_n 2, 1) := by decide +kernel
theorem dX12_in_7 : decode cX12_in 7 = .ok (.if_icmp .gt 7, 3) := by decide +kernel
theorem dX12_in_10 : decode cX12_in 10 = .ok (.iconst 1, 1) := by decide +kernel
theorem dX12_in_11 : decode cX12_in 11 = .ok (.goto 4, 3) := by decide +kernel
theorem dX12_in_14 : decode cX12_in 14 = .ok (.iconst 0, 1) := by decide +kernel
theorem dX12_in_15 : decode cX12_in 15 = .ok (.ireturn, 1) := by decide +kernel
set_option maxRecDepth 100000 in
theorem c_X12_in {n : Nat} {F : Bool → sm_MI → sm_ML → Prop} {T : List sm_Sh} {I : sm_MI} {L : sm_ML} {a0 : Int32} {a1 : Int32} {a2 : Int32} (hB : sm_Bs T)
    (h : (a0 < a1 → F false I L) ∧ (¬ a0 < a1 → (a2 < a0 → F false I L) ∧ (¬ a2 < a0 → F true I L))) :
    sm_CZ n mX12_in T I L [.int a0, .int a1, .int a2] F :=
  sm_CZ.of (by decide +kernel) rfl (fun x hx => show sm_V x 0 0 T I L 0 [some (.int a0), some (.int a1), some (.int a2)] [] from
  sm_iload_n (z := a0) hx dX12_in_0 rfl (sm_iload_n (z := a1) hx dX12_in_1 rfl (sm_icmplt (a := a0) (b := a1) hx dX12_in_2 (tgt := 14) (by decide) (fun q2 => sm_iconst (v := 0) hx dX12_in_14 sm_kc_0 (sm_iretZ (z := false) hx dX12_in_15 rfl (h.1 q2))) (fun q2 => sm_iload_n (z := a0) hx dX12_in_5 rfl (sm_iload_n (z := a2) hx dX12_in_6 rfl (sm_icmpgt (a := a0) (b := a2) hx dX12_in_7 (tgt := 14) (by decide) (fun q1 => sm_iconst (v := 0) hx dX12_in_14 sm_kc_0 (sm_iretZ (z := false) hx dX12_in_15 rfl ((h.2 q2).1 q1))) (fun q1 => sm_iconst (v := 1) hx dX12_in_10 sm_kc_1 (sm_goto hx dX12_in_11 (tgt := 15) (by decide) (sm_iretZ (z := true) hx dX12_in_15 rfl ((h.2 q2).2 q1))))))))))
theorem dX12_has_0 : decode cX12_has 0 = .ok (.iload_n 0, 1) := by decide +kernel
theorem dX12_has_1 : decode cX12_has 1 = .ok (.iload_n 1, 1) := by decide +kernel
theorem dX12_has_2 : decode cX12_has 2 = .ok (.ishr, 1) := by decide +kernel
theorem dX12_has_3 : decode cX12_has 3 = .ok (.iconst 1, 1) := by decide +kernel
theorem dX12_has_4 : decode cX12_has 4 = .ok (.iand, 1) := by decide +kernel
theorem dX12_has_5 : decode cX12_has 5 = .ok (.iconst 1, 1) := by decide +kernel
theorem dX12_has_6 : decode cX12_has 6 = .ok (.if_icmp .ne 7, 3) := by decide +kernel
theorem dX12_has_9 : decode cX12_has 9 = .ok (.iconst 1, 1) := by decide +kernel
theorem dX12_has_10 : decode cX12_has 10 = .ok (.goto 4, 3) := by decide +kernel
theorem dX12_has_13 : decode cX12_has 13 = .ok (.iconst 0, 1) := by decide +kernel
theorem dX12_has_14 : decode cX12_has 14 = .ok (.ireturn, 1) := by decide +kernel
set_option maxRecDepth 100000 in
theorem c_X12_has {n : Nat} {F : Bool → sm_MI → sm_ML → Prop} {T : List sm_Sh} {I : sm_MI} {L : sm_ML} {a0 : Int32} {a1 : Int32} (hB : sm_Bs T)
    (h : (¬ ((a0 >>> (a1 &&& 31)) &&& 1) = 1 → F false I L) ∧ (((a0 >>> (a1 &&& 31)) &&& 1) = 1 → F true I L)) :
    sm_CZ n mX12_has T I L [.int a0, .int a1] F :=
  sm_CZ.of (by decide +kernel) rfl (fun x hx => show sm_V x 0 0 T I L 0 [some (.int a0), some (.int a1)] [] from
  sm_iload_n (z := a0) hx dX12_has_0 rfl (sm_iload_n (z := a1) hx dX12_has_1 rfl (sm_ishr (a := a0) (b := a1) hx dX12_has_2 (sm_iconst (v := 1) hx dX12_has_3 sm_kc_1 (sm_iand (a := (a0 >>> (a1 &&& 31))) (b := 1) hx dX12_has_4 (sm_iconst (v := 1) hx dX12_has_5 sm_kc_1 (sm_icmpne (a := ((a0 >>> (a1 &&& 31)) &&& 1)) (b := 1) hx dX12_has_6 (tgt := 13) (by decide) (fun q1 => sm_iconst (v := 0) hx dX12_has_13 sm_kc_0 (sm_iretZ (z := false) hx dX12_has_14 rfl (h.1 q1))) (fun q1 => sm_iconst (v := 1) hx dX12_has_9 sm_kc_1 (sm_goto hx dX12_has_10 (tgt := 14) (by decide) (sm_iretZ (z := true) hx dX12_has_14 rfl (h.2 q1)))))))))))
theorem dX12_thrown_0 : decode cX12_thrown 0 = .ok (.aload_n 0, 1) := by decide +kernel
theorem dX12_thrown_1 : decode cX12_thrown 1 = .ok (.getfield 112, 3) := by decide +kernel
theorem dX12_thrown_4 : decode cX12_thrown 4 = .ok (.ireturn, 1) := by decide +kernel
set_option maxRecDepth 100000 in
theorem c_X12_thrown {n : Nat} {F : Int32 → sm_MI → sm_ML → Prop} {T : List sm_Sh} {I : sm_MI} {L : sm_ML}  (hB : sm_Bs T)
    (h : F (I 76 0) I L) :
    sm_CI n mX12_thrown T I L [.ref 76] F :=
  sm_CI.of (by decide +kernel) rfl (fun x hx => show sm_V x 0 0 T I L 0 [some (.ref 76)] [] from
  sm_aload_n (z := 76) hx dX12_thrown_0 rfl (sm_getI hx dX12_thrown_1 fl_X12_112_12 (t_76 hB) rfl (sm_iretI hx dX12_thrown_4 rfl h)))
theorem dX12_byteOf_0 : decode cX12_byteOf 0 = .ok (.iload 5, 2) := by decide +kernel
theorem dX12_byteOf_2 : decode cX12_byteOf 2 = .ok (.iconst 4, 1) := by decide +kernel
theorem dX12_byteOf_3 : decode cX12_byteOf 3 = .ok (.if_icmp .ge 7, 3) := by decide +kernel
theorem dX12_byteOf_6 : decode cX12_byteOf 6 = .ok (.iload_n 0, 1) := by decide +kernel
theorem dX12_byteOf_7 : decode cX12_byteOf 7 = .ok (.goto 38, 3) := by decide +kernel
theorem dX12_byteOf_10 : decode cX12_byteOf 10 = .ok (.iload 5, 2) := by decide +kernel
theorem dX12_byteOf_12 : decode cX12_byteOf 12 = .ok (.bipush 8, 2) := by decide +kernel
theorem dX12_byteOf_14 : decode cX12_byteOf 14 = .ok (.if_icmp .ge 7, 3) := by decide +kernel
theorem dX12_byteOf_17 : decode cX12_byteOf 17 = .ok (.iload_n 1, 1) := by decide +kernel
theorem dX12_byteOf_18 : decode cX12_byteOf 18 = .ok (.goto 27, 3) := by decide +kernel
theorem dX12_byteOf_21 : decode cX12_byteOf 21 = .ok (.iload 5, 2) := by decide +kernel
theorem dX12_byteOf_23 : decode cX12_byteOf 23 = .ok (.bipush 12, 2) := by decide +kernel
theorem dX12_byteOf_25 : decode cX12_byteOf 25 = .ok (.if_icmp .ge 7, 3) := by decide +kernel
theorem dX12_byteOf_28 : decode cX12_byteOf 28 = .ok (.iload_n 2, 1) := by decide +kernel
theorem dX12_byteOf_29 : decode cX12_byteOf 29 = .ok (.goto 16, 3) := by decide +kernel
theorem dX12_byteOf_32 : decode cX12_byteOf 32 = .ok (.iload 5, 2) := by decide +kernel
theorem dX12_byteOf_34 : decode cX12_byteOf 34 = .ok (.bipush 16, 2) := by decide +kernel
theorem dX12_byteOf_36 : decode cX12_byteOf 36 = .ok (.if_icmp .ge 7, 3) := by decide +kernel
theorem dX12_byteOf_39 : decode cX12_byteOf 39 = .ok (.iload_n 3, 1) := by decide +kernel
theorem dX12_byteOf_40 : decode cX12_byteOf 40 = .ok (.goto 5, 3) := by decide +kernel
theorem dX12_byteOf_43 : decode cX12_byteOf 43 = .ok (.iload 4, 2) := by decide +kernel
theorem dX12_byteOf_45 : decode cX12_byteOf 45 = .ok (.istore 6, 2) := by decide +kernel
theorem dX12_byteOf_47 : decode cX12_byteOf 47 = .ok (.iload 6, 2) := by decide +kernel
theorem dX12_byteOf_49 : decode cX12_byteOf 49 = .ok (.bipush 24, 2) := by decide +kernel
theorem dX12_byteOf_51 : decode cX12_byteOf 51 = .ok (.bipush 8, 2) := by decide +kernel
theorem dX12_byteOf_53 : decode cX12_byteOf 53 = .ok (.iload 5, 2) := by decide +kernel
theorem dX12_byteOf_55 : decode cX12_byteOf 55 = .ok (.iconst 4, 1) := by decide +kernel
theorem dX12_byteOf_56 : decode cX12_byteOf 56 = .ok (.irem, 1) := by decide +kernel
theorem dX12_byteOf_57 : decode cX12_byteOf 57 = .ok (.imul, 1) := by decide +kernel
theorem dX12_byteOf_58 : decode cX12_byteOf 58 = .ok (.isub, 1) := by decide +kernel
theorem dX12_byteOf_59 : decode cX12_byteOf 59 = .ok (.ishr, 1) := by decide +kernel
theorem dX12_byteOf_60 : decode cX12_byteOf 60 = .ok (.sipush 255, 3) := by decide +kernel
theorem dX12_byteOf_63 : decode cX12_byteOf 63 = .ok (.iand, 1) := by decide +kernel
theorem dX12_byteOf_64 : decode cX12_byteOf 64 = .ok (.ireturn, 1) := by decide +kernel
set_option maxRecDepth 100000 in
theorem c_X12_byteOf {n : Nat} {F : Int32 → sm_MI → sm_ML → Prop} {T : List sm_Sh} {I : sm_MI} {L : sm_ML} {a0 : Int32} {a1 : Int32} {a2 : Int32} {a3 : Int32} {a4 : Int32} {a5 : Int32} (hB : sm_Bs T)
    (h : (4 ≤ a5 → (8 ≤ a5 → (12 ≤ a5 → (16 ≤ a5 → F ((a4 >>> ((24 - (8 * (a5 - a5 / 4 * 4))) &&& 31)) &&& 255) I L) ∧ (¬ 16 ≤ a5 → F ((a3 >>> ((24 - (8 * (a5 - a5 / 4 * 4))) &&& 31)) &&& 255) I L)) ∧ (¬ 12 ≤ a5 → F ((a2 >>> ((24 - (8 * (a5 - a5 / 4 * 4))) &&& 31)) &&& 255) I L)) ∧ (¬ 8 ≤ a5 → F ((a1 >>> ((24 - (8 * (a5 - a5 / 4 * 4))) &&& 31)) &&& 255) I L)) ∧ (¬ 4 ≤ a5 → F ((a0 >>> ((24 - (8 * (a5 - a5 / 4 * 4))) &&& 31)) &&& 255) I L)) :
    sm_CI n mX12_byteOf T I L [.int a0, .int a1, .int a2, .int a3, .int a4, .int a5] F :=
  sm_CI.of (by decide +kernel) rfl (fun x hx => show sm_V x 0 0 T I L 0 [some (.int a0), some (.int a1), some (.int a2), some (.int a3), some (.int a4), some (.int a5), none] [] from
  sm_iload (z := a5) hx dX12_byteOf_0 rfl (sm_iconst (v := 4) hx dX12_byteOf_2 sm_kc_4 (sm_icmpge (a := a5) (b := 4) hx dX12_byteOf_3 (tgt := 10) (by decide) (fun q4 => sm_iload (z := a5) hx dX12_byteOf_10 rfl (sm_bipush (v := 8) hx dX12_byteOf_12 sm_kb_8 (sm_icmpge (a := a5) (b := 8) hx dX12_byteOf_14 (tgt := 21) (by decide) (fun q3 => sm_iload (z := a5) hx dX12_byteOf_21 rfl (sm_bipush (v := 12) hx dX12_byteOf_23 sm_kb_12 (sm_icmpge (a := a5) (b := 12) hx dX12_byteOf_25 (tgt := 32) (by decide) (fun q2 => sm_iload (z := a5) hx dX12_byteOf_32 rfl (sm_bipush (v := 16) hx dX12_byteOf_34 sm_kb_16 (sm_icmpge (a := a5) (b := 16) hx dX12_byteOf_36 (tgt := 43) (by decide) (fun q1 => sm_iload (z := a4) hx dX12_byteOf_43 rfl (sm_istore (ls' := [some (.int a0), some (.int a1), some (.int a2), some (.int a3), some (.int a4), some (.int a5), some (.int a4)]) hx dX12_byteOf_45 (by decide) rfl (sm_iload (z := a4) hx dX12_byteOf_47 rfl (sm_bipush (v := 24) hx dX12_byteOf_49 sm_kb_24 (sm_bipush (v := 8) hx dX12_byteOf_51 sm_kb_8 (sm_iload (z := a5) hx dX12_byteOf_53 rfl (sm_iconst (v := 4) hx dX12_byteOf_55 sm_kc_4 (sm_irem (a := a5) (b := 4) hx dX12_byteOf_56 (by decide) (sm_imul (a := 8) (b := (a5 - a5 / 4 * 4)) hx dX12_byteOf_57 (sm_isub (a := 24) (b := (8 * (a5 - a5 / 4 * 4))) hx dX12_byteOf_58 (sm_ishr (a := a4) (b := (24 - (8 * (a5 - a5 / 4 * 4)))) hx dX12_byteOf_59 (sm_sipush (v := 255) hx dX12_byteOf_60 sm_ks_255 (sm_iand (a := (a4 >>> ((24 - (8 * (a5 - a5 / 4 * 4))) &&& 31))) (b := 255) hx dX12_byteOf_63 (sm_iretI hx dX12_byteOf_64 rfl ((((h.1 q4).1 q3).1 q2).1 q1))))))))))))))) (fun q1 => sm_iload_n (z := a3) hx dX12_byteOf_39 rfl (sm_goto hx dX12_byteOf_40 (tgt := 45) (by decide) (sm_istore (ls' := [some (.int a0), some (.int a1), some (.int a2), some (.int a3), some (.int a4), some (.int a5), some (.int a3)]) hx dX12_byteOf_45 (by decide) rfl (sm_iload (z := a3) hx dX12_byteOf_47 rfl (sm_bipush (v := 24) hx dX12_byteOf_49 sm_kb_24 (sm_bipush (v := 8) hx dX12_byteOf_51 sm_kb_8 (sm_iload (z := a5) hx dX12_byteOf_53 rfl (sm_iconst (v := 4) hx dX12_byteOf_55 sm_kc_4 (sm_irem (a := a5) (b := 4) hx dX12_byteOf_56 (by decide) (sm_imul (a := 8) (b := (a5 - a5 / 4 * 4)) hx dX12_byteOf_57 (sm_isub (a := 24) (b := (8 * (a5 - a5 / 4 * 4))) hx dX12_byteOf_58 (sm_ishr (a := a3) (b := (24 - (8 * (a5 - a5 / 4 * 4)))) hx dX12_byteOf_59 (sm_sipush (v := 255) hx dX12_byteOf_60 sm_ks_255 (sm_iand (a := (a3 >>> ((24 - (8 * (a5 - a5 / 4 * 4))) &&& 31))) (b := 255) hx dX12_byteOf_63 (sm_iretI hx dX12_byteOf_64 rfl ((((h.1 q4).1 q3).1 q2).2 q1))))))))))))))))))) (fun q2 => sm_iload_n (z := a2) hx dX12_byteOf_28 rfl (sm_goto hx dX12_byteOf_29 (tgt := 45) (by decide) (sm_istore (ls' := [some (.int a0), some (.int a1), some (.int a2), some (.int a3), some (.int a4), some (.int a5), some (.int a2)]) hx dX12_byteOf_45 (by decide) rfl (sm_iload (z := a2) hx dX12_byteOf_47 rfl (sm_bipush (v := 24) hx dX12_byteOf_49 sm_kb_24 (sm_bipush (v := 8) hx dX12_byteOf_51 sm_kb_8 (sm_iload (z := a5) hx dX12_byteOf_53 rfl (sm_iconst (v := 4) hx dX12_byteOf_55 sm_kc_4 (sm_irem (a := a5) (b := 4) hx dX12_byteOf_56 (by decide) (sm_imul (a := 8) (b := (a5 - a5 / 4 * 4)) hx dX12_byteOf_57 (sm_isub (a := 24) (b := (8 * (a5 - a5 / 4 * 4))) hx dX12_byteOf_58 (sm_ishr (a := a2) (b := (24 - (8 * (a5 - a5 / 4 * 4)))) hx dX12_byteOf_59 (sm_sipush (v := 255) hx dX12_byteOf_60 sm_ks_255 (sm_iand (a := (a2 >>> ((24 - (8 * (a5 - a5 / 4 * 4))) &&& 31))) (b := 255) hx dX12_byteOf_63 (sm_iretI hx dX12_byteOf_64 rfl (((h.1 q4).1 q3).2 q2))))))))))))))))))) (fun q3 => sm_iload_n (z := a1) hx dX12_byteOf_17 rfl (sm_goto hx dX12_byteOf_18 (tgt := 45) (by decide) (sm_istore (ls' := [some (.int a0), some (.int a1), some (.int a2), some (.int a3), some (.int a4), some (.int a5), some (.int a1)]) hx dX12_byteOf_45 (by decide) rfl (sm_iload (z := a1) hx dX12_byteOf_47 rfl (sm_bipush (v := 24) hx dX12_byteOf_49 sm_kb_24 (sm_bipush (v := 8) hx dX12_byteOf_51 sm_kb_8 (sm_iload (z := a5) hx dX12_byteOf_53 rfl (sm_iconst (v := 4) hx dX12_byteOf_55 sm_kc_4 (sm_irem (a := a5) (b := 4) hx dX12_byteOf_56 (by decide) (sm_imul (a := 8) (b := (a5 - a5 / 4 * 4)) hx dX12_byteOf_57 (sm_isub (a := 24) (b := (8 * (a5 - a5 / 4 * 4))) hx dX12_byteOf_58 (sm_ishr (a := a1) (b := (24 - (8 * (a5 - a5 / 4 * 4)))) hx dX12_byteOf_59 (sm_sipush (v := 255) hx dX12_byteOf_60 sm_ks_255 (sm_iand (a := (a1 >>> ((24 - (8 * (a5 - a5 / 4 * 4))) &&& 31))) (b := 255) hx dX12_byteOf_63 (sm_iretI hx dX12_byteOf_64 rfl ((h.1 q4).2 q3))))))))))))))))))) (fun q4 => sm_iload_n (z := a0) hx dX12_byteOf_6 rfl (sm_goto hx dX12_byteOf_7 (tgt := 45) (by decide) (sm_istore (ls' := [some (.int a0), some (.int a1), some (.int a2), some (.int a3), some (.int a4), some (.int a5), some (.int a0)]) hx dX12_byteOf_45 (by decide) rfl (sm_iload (z := a0) hx dX12_byteOf_47 rfl (sm_bipush (v := 24) hx dX12_byteOf_49 sm_kb_24 (sm_bipush (v := 8) hx dX12_byteOf_51 sm_kb_8 (sm_iload (z := a5) hx dX12_byteOf_53 rfl (sm_iconst (v := 4) hx dX12_byteOf_55 sm_kc_4 (sm_irem (a := a5) (b := 4) hx dX12_byteOf_56 (by decide) (sm_imul (a := 8) (b := (a5 - a5 / 4 * 4)) hx dX12_byteOf_57 (sm_isub (a := 24) (b := (8 * (a5 - a5 / 4 * 4))) hx dX12_byteOf_58 (sm_ishr (a := a0) (b := (24 - (8 * (a5 - a5 / 4 * 4)))) hx dX12_byteOf_59 (sm_sipush (v := 255) hx dX12_byteOf_60 sm_ks_255 (sm_iand (a := (a0 >>> ((24 - (8 * (a5 - a5 / 4 * 4))) &&& 31))) (b := 255) hx dX12_byteOf_63 (sm_iretI hx dX12_byteOf_64 rfl (h.2 q4)))))))))))))))))))
theorem dX12_feed_0 : decode cX12_feed 0 = .ok (.iconst 0, 1) := by decide +kernel
theorem dX12_feed_1 : decode cX12_feed 1 = .ok (.istore 6, 2) := by decide +kernel
theorem dX12_feed_3 : decode cX12_feed 3 = .ok (.iconst 0, 1) := by decide +kernel
theorem dX12_feed_4 : decode cX12_feed 4 = .ok (.istore 7, 2) := by decide +kernel
theorem dX12_feed_6 : decode cX12_feed 6 = .ok (.iload 7, 2) := by decide +kernel
theorem dX12_feed_8 : decode cX12_feed 8 = .ok (.bipush 20, 2) := by decide +kernel
theorem dX12_feed_10 : decode cX12_feed 10 = .ok (.if_icmp .ge 34, 3) := by decide +kernel
theorem dX12_feed_13 : decode cX12_feed 13 = .ok (.iload 6, 2) := by decide +kernel
theorem dX12_feed_15 : decode cX12_feed 15 = .ok (.iload_n 1, 1) := by decide +kernel
theorem dX12_feed_16 : decode cX12_feed 16 = .ok (.iload_n 2, 1) := by decide +kernel
theorem dX12_feed_17 : decode cX12_feed 17 = .ok (.iload_n 3, 1) := by decide +kernel
theorem dX12_feed_18 : decode cX12_feed 18 = .ok (.iload 4, 2) := by decide +kernel
theorem dX12_feed_20 : decode cX12_feed 20 = .ok (.iload 5, 2) := by decide +kernel
theorem dX12_feed_22 : decode cX12_feed 22 = .ok (.iload 7, 2) := by decide +kernel
theorem dX12_feed_24 : decode cX12_feed 24 = .ok (.invokestatic 115, 3) := by decide +kernel
theorem dX12_feed_27 : decode cX12_feed 27 = .ok (.ifCond .eq 7, 3) := by decide +kernel
theorem dX12_feed_30 : decode cX12_feed 30 = .ok (.iconst 1, 1) := by decide +kernel
theorem dX12_feed_31 : decode cX12_feed 31 = .ok (.goto 4, 3) := by decide +kernel
theorem dX12_feed_34 : decode cX12_feed 34 = .ok (.iconst 0, 1) := by decide +kernel
theorem dX12_feed_35 : decode cX12_feed 35 = .ok (.iadd, 1) := by decide +kernel
theorem dX12_feed_36 : decode cX12_feed 36 = .ok (.istore 6, 2) := by decide +kernel
theorem dX12_feed_38 : decode cX12_feed 38 = .ok (.iinc 7 1, 3) := by decide +kernel
theorem dX12_feed_41 : decode cX12_feed 41 = .ok (.goto (-35), 3) := by decide +kernel
theorem dX12_feed_44 : decode cX12_feed 44 = .ok (.aload_n 0, 1) := by decide +kernel
theorem dX12_feed_45 : decode cX12_feed 45 = .ok (.getfield 119, 3) := by decide +kernel
theorem dX12_feed_48 : decode cX12_feed 48 = .ok (.iload 6, 2) := by decide +kernel
theorem dX12_feed_50 : decode cX12_feed 50 = .ok (.iadd, 1) := by decide +kernel
theorem dX12_feed_51 : decode cX12_feed 51 = .ok (.sipush 160, 3) := by decide +kernel
theorem dX12_feed_54 : decode cX12_feed 54 = .ok (.if_icmp .le 5, 3) := by decide +kernel
theorem dX12_feed_57 : decode cX12_feed 57 = .ok (.iconst (-1), 1) := by decide +kernel
theorem dX12_feed_58 : decode cX12_feed 58 = .ok (.ireturn, 1) := by decide +kernel
theorem dX12_feed_59 : decode cX12_feed 59 = .ok (.iconst 0, 1) := by decide +kernel
theorem dX12_feed_60 : decode cX12_feed 60 = .ok (.istore 7, 2) := by decide +kernel
theorem dX12_feed_62 : decode cX12_feed 62 = .ok (.iload 7, 2) := by decide +kernel
theorem dX12_feed_64 : decode cX12_feed 64 = .ok (.bipush 20, 2) := by decide +kernel
theorem dX12_feed_66 : decode cX12_feed 66 = .ok (.if_icmp .ge 49, 3) := by decide +kernel
theorem dX12_feed_69 : decode cX12_feed 69 = .ok (.iload_n 1, 1) := by decide +kernel
theorem dX12_feed_70 : decode cX12_feed 70 = .ok (.iload_n 2, 1) := by decide +kernel
theorem dX12_feed_71 : decode cX12_feed 71 = .ok (.iload_n 3, 1) := by decide +kernel
theorem dX12_feed_72 : decode cX12_feed 72 = .ok (.iload 4, 2) := by decide +kernel
theorem dX12_feed_74 : decode cX12_feed 74 = .ok (.iload 5, 2) := by decide +kernel
theorem dX12_feed_76 : decode cX12_feed 76 = .ok (.iload 7, 2) := by decide +kernel
theorem dX12_feed_78 : decode cX12_feed 78 = .ok (.invokestatic 115, 3) := by decide +kernel
theorem dX12_feed_81 : decode cX12_feed 81 = .ok (.istore 8, 2) := by decide +kernel
theorem dX12_feed_83 : decode cX12_feed 83 = .ok (.iload 8, 2) := by decide +kernel
theorem dX12_feed_85 : decode cX12_feed 85 = .ok (.ifCond .eq 24, 3) := by decide +kernel
theorem dX12_feed_88 : decode cX12_feed 88 = .ok (.aload_n 0, 1) := by decide +kernel
theorem dX12_feed_89 : decode cX12_feed 89 = .ok (.getfield 9, 3) := by decide +kernel
theorem dX12_feed_92 : decode cX12_feed 92 = .ok (.aload_n 0, 1) := by decide +kernel
theorem dX12_feed_93 : decode cX12_feed 93 = .ok (.getfield 119, 3) := by decide +kernel
theorem dX12_feed_96 : decode cX12_feed 96 = .ok (.iload 8, 2) := by decide +kernel
theorem dX12_feed_98 : decode cX12_feed 98 = .ok (.iastore, 1) := by decide +kernel
theorem dX12_feed_99 : decode cX12_feed 99 = .ok (.aload_n 0, 1) := by decide +kernel
theorem dX12_feed_100 : decode cX12_feed 100 = .ok (.dup, 1) := by decide +kernel
theorem dX12_feed_101 : decode cX12_feed 101 = .ok (.getfield 119, 3) := by decide +kernel
theorem dX12_feed_104 : decode cX12_feed 104 = .ok (.iconst 1, 1) := by decide +kernel
theorem dX12_feed_105 : decode cX12_feed 105 = .ok (.iadd, 1) := by decide +kernel
theorem dX12_feed_106 : decode cX12_feed 106 = .ok (.putfield 119, 3) := by decide +kernel
theorem dX12_feed_109 : decode cX12_feed 109 = .ok (.iinc 7 1, 3) := by decide +kernel
theorem dX12_feed_112 : decode cX12_feed 112 = .ok (.goto (-50), 3) := by decide +kernel
theorem dX12_feed_115 : decode cX12_feed 115 = .ok (.aload_n 0, 1) := by decide +kernel
theorem dX12_feed_116 : decode cX12_feed 116 = .ok (.getfield 119, 3) := by decide +kernel
theorem dX12_feed_119 : decode cX12_feed 119 = .ok (.ireturn, 1) := by decide +kernel
set_option maxRecDepth 100000 in
theorem u_X12_feed_6 {x : sm_Cx} {n : Nat} {F : Int32 → sm_MI → sm_ML → Prop} {T : List sm_Sh} {I : sm_MI} {L : sm_ML} {a1 : Int32} {a2 : Int32} {a3 : Int32} {a4 : Int32} {a5 : Int32} {a6 : Int32} {a7 : Int32} (hB : sm_Bs T) (hx : sm_Ok x mX12_feed (n + 1) (sm_KI T F))
    (h : (20 ≤ a7 → (((I 76 2) + a6) ≤ 160 → sm_V x 0 0 T I L 62 [some (.ref 76), some (.int a1), some (.int a2), some (.int a3), some (.int a4), some (.int a5), some (.int a6), some (.int 0), none] []) ∧ (¬ ((I 76 2) + a6) ≤ 160 → F (-1) I L)) ∧ (¬ 20 ≤ a7 → sm_CI n mX12_byteOf T I L [.int a1, .int a2, .int a3, .int a4, .int a5, .int a7] (fun r2 I1 L1 => (r2 = 0 → sm_V x 0 0 T I1 L1 6 [some (.ref 76), some (.int a1), some (.int a2), some (.int a3), some (.int a4), some (.int a5), some (.int (a6 + 0)), some (.int (a7 + 1)), none] []) ∧ (¬ r2 = 0 → sm_V x 0 0 T I1 L1 6 [some (.ref 76), some (.int a1), some (.int a2), some (.int a3), some (.int a4), some (.int a5), some (.int (a6 + 1)), some (.int (a7 + 1)), none] [])))) :
    sm_V x 0 0 T I L 6 [some (.ref 76), some (.int a1), some (.int a2), some (.int a3), some (.int a4), some (.int a5), some (.int a6), some (.int a7), none] [] :=
  sm_iload (z := a7) hx dX12_feed_6 rfl (sm_bipush (v := 20) hx dX12_feed_8 sm_kb_20 (sm_icmpge (a := a7) (b := 20) hx dX12_feed_10 (tgt := 44) (by decide) (fun q3 => sm_aload_n (z := 76) hx dX12_feed_44 rfl (sm_getI hx dX12_feed_45 fl_X12_119_12 (t_76 hB) rfl (sm_iload (z := a6) hx dX12_feed_48 rfl (sm_iadd (a := (I 76 2)) (b := a6) hx dX12_feed_50 (sm_sipush (v := 160) hx dX12_feed_51 sm_ks_160 (sm_icmple (a := ((I 76 2) + a6)) (b := 160) hx dX12_feed_54 (tgt := 59) (by decide) (fun q1 => sm_iconst (v := 0) hx dX12_feed_59 sm_kc_0 (sm_istore (ls' := [some (.ref 76), some (.int a1), some (.int a2), some (.int a3), some (.int a4), some (.int a5), some (.int a6), some (.int 0), none]) hx dX12_feed_60 (by decide) rfl (((h.1 q3).1 q1)))) (fun q1 => sm_iconst (v := (-1)) hx dX12_feed_57 sm_kc_m1 (sm_iretI hx dX12_feed_58 rfl ((h.1 q3).2 q1))))))))) (fun q3 => sm_iload (z := a6) hx dX12_feed_13 rfl (sm_iload_n (z := a1) hx dX12_feed_15 rfl (sm_iload_n (z := a2) hx dX12_feed_16 rfl (sm_iload_n (z := a3) hx dX12_feed_17 rfl (sm_iload (z := a4) hx dX12_feed_18 rfl (sm_iload (z := a5) hx dX12_feed_20 rfl (sm_iload (z := a7) hx dX12_feed_22 rfl (sm_callSI (args := [.int a1, .int a2, .int a3, .int a4, .int a5, .int a7]) (st := [.int a6]) hx dX12_feed_24 ls_X12_115 rfl rfl rfl (h.2 q3) (fun r2 I1 L1 hI1 => sm_ifeq (a := r2) hx dX12_feed_27 (tgt := 34) (by decide) (fun q2 => sm_iconst (v := 0) hx dX12_feed_34 sm_kc_0 (sm_iadd (a := a6) (b := 0) hx dX12_feed_35 (sm_istore (ls' := [some (.ref 76), some (.int a1), some (.int a2), some (.int a3), some (.int a4), some (.int a5), some (.int (a6 + 0)), some (.int a7), none]) hx dX12_feed_36 (by decide) rfl (sm_iinc (ls' := [some (.ref 76), some (.int a1), some (.int a2), some (.int a3), some (.int a4), some (.int a5), some (.int (a6 + 0)), some (.int (a7 + 1)), none]) (z := a7) (v := (a7 + 1)) hx dX12_feed_38 rfl (sm_kii_1 _) (by decide) rfl (sm_goto hx dX12_feed_41 (tgt := 6) (by decide) ((hI1.1 q2))))))) (fun q2 => sm_iconst (v := 1) hx dX12_feed_30 sm_kc_1 (sm_goto hx dX12_feed_31 (tgt := 35) (by decide) (sm_iadd (a := a6) (b := 1) hx dX12_feed_35 (sm_istore (ls' := [some (.ref 76), some (.int a1), some (.int a2), some (.int a3), some (.int a4), some (.int a5), some (.int (a6 + 1)), some (.int a7), none]) hx dX12_feed_36 (by decide) rfl (sm_iinc (ls' := [some (.ref 76), some (.int a1), some (.int a2), some (.int a3), some (.int a4), some (.int a5), some (.int (a6 + 1)), some (.int (a7 + 1)), none]) (z := a7) (v := (a7 + 1)) hx dX12_feed_38 rfl (sm_kii_1 _) (by decide) rfl (sm_goto hx dX12_feed_41 (tgt := 6) (by decide) ((hI1.2 q2)))))))))))))))))))
set_option maxRecDepth 100000 in
theorem u_X12_feed_62 {x : sm_Cx} {n : Nat} {F : Int32 → sm_MI → sm_ML → Prop} {T : List sm_Sh} {I : sm_MI} {L : sm_ML} {a1 : Int32} {a2 : Int32} {a3 : Int32} {a4 : Int32} {a5 : Int32} {a6 : Int32} {a7 : Int32} {u8 : Option Value} (hB : sm_Bs T) (hx : sm_Ok x mX12_feed (n + 1) (sm_KI T F))
    (h : (20 ≤ a7 → F (I 76 2) I L) ∧ (¬ 20 ≤ a7 → sm_CI n mX12_byteOf T I L [.int a1, .int a2, .int a3, .int a4, .int a5, .int a7] (fun r2 I1 L1 => (r2 = 0 → sm_V x 0 0 T I1 L1 62 [some (.ref 76), some (.int a1), some (.int a2), some (.int a3), some (.int a4), some (.int a5), some (.int a6), some (.int (a7 + 1)), some (.int r2)] []) ∧ (¬ r2 = 0 → vp_in (I1 76 2) 160 ∧ (∀ I3 : sm_MI, I3 = (sm_uI I1 77 (Int32.toNatClampNeg ((I1 76 2))) r2) → sm_V x 0 0 T (sm_uI I3 76 2 ((I3 76 2) + 1)) L1 62 [some (.ref 76), some (.int a1), some (.int a2), some (.int a3), some (.int a4), some (.int a5), some (.int a6), some (.int (a7 + 1)), some (.int r2)] []))))) :
    sm_V x 0 0 T I L 62 [some (.ref 76), some (.int a1), some (.int a2), some (.int a3), some (.int a4), some (.int a5), some (.int a6), some (.int a7), u8] [] :=
  sm_iload (z := a7) hx dX12_feed_62 rfl (sm_bipush (v := 20) hx dX12_feed_64 sm_kb_20 (sm_icmpge (a := a7) (b := 20) hx dX12_feed_66 (tgt := 115) (by decide) (fun q5 => sm_aload_n (z := 76) hx dX12_feed_115 rfl (sm_getI hx dX12_feed_116 fl_X12_119_12 (t_76 hB) rfl (sm_iretI hx dX12_feed_119 rfl (h.1 q5)))) (fun q5 => sm_iload_n (z := a1) hx dX12_feed_69 rfl (sm_iload_n (z := a2) hx dX12_feed_70 rfl (sm_iload_n (z := a3) hx dX12_feed_71 rfl (sm_iload (z := a4) hx dX12_feed_72 rfl (sm_iload (z := a5) hx dX12_feed_74 rfl (sm_iload (z := a7) hx dX12_feed_76 rfl (sm_callSI (args := [.int a1, .int a2, .int a3, .int a4, .int a5, .int a7]) (st := []) hx dX12_feed_78 ls_X12_115 rfl rfl rfl (h.2 q5) (fun r2 I1 L1 hI1 => sm_istore (ls' := [some (.ref 76), some (.int a1), some (.int a2), some (.int a3), some (.int a4), some (.int a5), some (.int a6), some (.int a7), some (.int r2)]) hx dX12_feed_81 (by decide) rfl (sm_iload (z := r2) hx dX12_feed_83 rfl (sm_ifeq (a := r2) hx dX12_feed_85 (tgt := 109) (by decide) (fun q4 => sm_iinc (ls' := [some (.ref 76), some (.int a1), some (.int a2), some (.int a3), some (.int a4), some (.int a5), some (.int a6), some (.int (a7 + 1)), some (.int r2)]) (z := a7) (v := (a7 + 1)) hx dX12_feed_109 rfl (sm_kii_1 _) (by decide) rfl (sm_goto hx dX12_feed_112 (tgt := 62) (by decide) ((hI1.1 q4)))) (fun q4 => sm_aload_n (z := 76) hx dX12_feed_88 rfl (sm_getR hx dX12_feed_89 fl_X12_9_12 (t_76 hB) rfl (sm_aload_n (z := 76) hx dX12_feed_92 rfl (sm_getI hx dX12_feed_93 fl_X12_119_12 (t_76 hB) rfl (sm_iload (z := r2) hx dX12_feed_96 rfl (sm_iast (i := (I1 76 2)) (v := r2) hx dX12_feed_98 (t_77 hB) (hI1.2 q4).1 (sm_aload_n (z := 76) hx dX12_feed_99 rfl (sm_dup hx dX12_feed_100 rfl (sm_getI hx dX12_feed_101 fl_X12_119_12 (t_76 hB) rfl (sm_iconst (v := 1) hx dX12_feed_104 sm_kc_1 (sm_iadd (a := ((sm_uI I1 77 (Int32.toNatClampNeg ((I1 76 2))) r2) 76 2)) (b := 1) hx dX12_feed_105 (sm_putI hx dX12_feed_106 fl_X12_119_12 (t_76 hB) rfl (sm_iinc (ls' := [some (.ref 76), some (.int a1), some (.int a2), some (.int a3), some (.int a4), some (.int a5), some (.int a6), some (.int (a7 + 1)), some (.int r2)]) (z := a7) (v := (a7 + 1)) hx dX12_feed_109 rfl (sm_kii_1 _) (by decide) rfl (sm_goto hx dX12_feed_112 (tgt := 62) (by decide) (((hI1.2 q4).2 _ rfl))))))))))))))))))))))))))))
set_option maxRecDepth 100000 in
theorem c_X12_feed {n : Nat} {F : Int32 → sm_MI → sm_ML → Prop} {T : List sm_Sh} {I : sm_MI} {L : sm_ML} {a1 : Int32} {a2 : Int32} {a3 : Int32} {a4 : Int32} {a5 : Int32} (hB : sm_Bs T)
    (h : ∀ x : sm_Cx, sm_Ok x mX12_feed (n + 1) (sm_KI T F) → sm_V x 0 0 T I L 6 [some (.ref 76), some (.int a1), some (.int a2), some (.int a3), some (.int a4), some (.int a5), some (.int 0), some (.int 0), none] []) :
    sm_CI (n + 1) mX12_feed T I L [.ref 76, .int a1, .int a2, .int a3, .int a4, .int a5] F :=
  sm_CI.of (by decide +kernel) rfl (fun x hx => show sm_V x 0 0 T I L 0 [some (.ref 76), some (.int a1), some (.int a2), some (.int a3), some (.int a4), some (.int a5), none, none, none] [] from
  sm_iconst (v := 0) hx dX12_feed_0 sm_kc_0 (sm_istore (ls' := [some (.ref 76), some (.int a1), some (.int a2), some (.int a3), some (.int a4), some (.int a5), some (.int 0), none, none]) hx dX12_feed_1 (by decide) rfl (sm_iconst (v := 0) hx dX12_feed_3 sm_kc_0 (sm_istore (ls' := [some (.ref 76), some (.int a1), some (.int a2), some (.int a3), some (.int a4), some (.int a5), some (.int 0), some (.int 0), none]) hx dX12_feed_4 (by decide) rfl ((h x hx))))))
theorem dX12_end_0 : decode cX12_end 0 = .ok (.iload_n 1, 1) := by decide +kernel
theorem dX12_end_1 : decode cX12_end 1 = .ok (.ifCond .lt 11, 3) := by decide +kernel
theorem dX12_end_4 : decode cX12_end 4 = .ok (.iload_n 1, 1) := by decide +kernel
theorem dX12_end_5 : decode cX12_end 5 = .ok (.aload_n 0, 1) := by decide +kernel
theorem dX12_end_6 : decode cX12_end 6 = .ok (.getfield 119, 3) := by decide +kernel
theorem dX12_end_9 : decode cX12_end 9 = .ok (.if_icmp .le 5, 3) := by decide +kernel
theorem dX12_end_12 : decode cX12_end 12 = .ok (.iconst 0, 1) := by decide +kernel
theorem dX12_end_13 : decode cX12_end 13 = .ok (.ireturn, 1) := by decide +kernel
theorem dX12_end_14 : decode cX12_end 14 = .ok (.aload_n 0, 1) := by decide +kernel
theorem dX12_end_15 : decode cX12_end 15 = .ok (.iload_n 1, 1) := by decide +kernel
theorem dX12_end_16 : decode cX12_end 16 = .ok (.putfield 119, 3) := by decide +kernel
theorem dX12_end_19 : decode cX12_end 19 = .ok (.iconst 1, 1) := by decide +kernel
theorem dX12_end_20 : decode cX12_end 20 = .ok (.ireturn, 1) := by decide +kernel
set_option maxRecDepth 100000 in
theorem c_X12_end {n : Nat} {F : Bool → sm_MI → sm_ML → Prop} {T : List sm_Sh} {I : sm_MI} {L : sm_ML} {a1 : Int32} (hB : sm_Bs T)
    (h : (a1 < 0 → F false I L) ∧ (¬ a1 < 0 → (a1 ≤ (I 76 2) → F true (sm_uI I 76 2 a1) L) ∧ (¬ a1 ≤ (I 76 2) → F false I L))) :
    sm_CZ n mX12_end T I L [.ref 76, .int a1] F :=
  sm_CZ.of (by decide +kernel) rfl (fun x hx => show sm_V x 0 0 T I L 0 [some (.ref 76), some (.int a1)] [] from
  sm_iload_n (z := a1) hx dX12_end_0 rfl (sm_iflt (a := a1) hx dX12_end_1 (tgt := 12) (by decide) (fun q2 => sm_iconst (v := 0) hx dX12_end_12 sm_kc_0 (sm_iretZ (z := false) hx dX12_end_13 rfl (h.1 q2))) (fun q2 => sm_iload_n (z := a1) hx dX12_end_4 rfl (sm_aload_n (z := 76) hx dX12_end_5 rfl (sm_getI hx dX12_end_6 fl_X12_119_12 (t_76 hB) rfl (sm_icmple (a := a1) (b := (I 76 2)) hx dX12_end_9 (tgt := 14) (by decide) (fun q1 => sm_aload_n (z := 76) hx dX12_end_14 rfl (sm_iload_n (z := a1) hx dX12_end_15 rfl (sm_putI hx dX12_end_16 fl_X12_119_12 (t_76 hB) rfl (sm_iconst (v := 1) hx dX12_end_19 sm_kc_1 (sm_iretZ (z := true) hx dX12_end_20 rfl ((h.2 q2).1 q1)))))) (fun q1 => sm_iconst (v := 0) hx dX12_end_12 sm_kc_0 (sm_iretZ (z := false) hx dX12_end_13 rfl ((h.2 q2).2 q1)))))))))
theorem dX12_here_0 : decode cX12_here 0 = .ok (.aload_n 0, 1) := by decide +kernel
theorem dX12_here_1 : decode cX12_here 1 = .ok (.getfield 122, 3) := by decide +kernel
theorem dX12_here_4 : decode cX12_here 4 = .ok (.aload_n 0, 1) := by decide +kernel
theorem dX12_here_5 : decode cX12_here 5 = .ok (.getfield 119, 3) := by decide +kernel
theorem dX12_here_8 : decode cX12_here 8 = .ok (.if_icmp .ge 15, 3) := by decide +kernel
theorem dX12_here_11 : decode cX12_here 11 = .ok (.aload_n 0, 1) := by decide +kernel
theorem dX12_here_12 : decode cX12_here 12 = .ok (.getfield 9, 3) := by decide +kernel
theorem dX12_here_15 : decode cX12_here 15 = .ok (.aload_n 0, 1) := by decide +kernel
theorem dX12_here_16 : decode cX12_here 16 = .ok (.getfield 122, 3) := by decide +kernel
theorem dX12_here_19 : decode cX12_here 19 = .ok (.iaload, 1) := by decide +kernel
theorem dX12_here_20 : decode cX12_here 20 = .ok (.goto 4, 3) := by decide +kernel
theorem dX12_here_23 : decode cX12_here 23 = .ok (.iconst (-1), 1) := by decide +kernel
theorem dX12_here_24 : decode cX12_here 24 = .ok (.ireturn, 1) := by decide +kernel
set_option maxRecDepth 100000 in
theorem c_X12_here {n : Nat} {F : Int32 → sm_MI → sm_ML → Prop} {T : List sm_Sh} {I : sm_MI} {L : sm_ML}  (hB : sm_Bs T)
    (h : ((I 76 2) ≤ (I 76 3) → F (-1) I L) ∧ (¬ (I 76 2) ≤ (I 76 3) → vp_in (I 76 3) 160 ∧ (F (I 77 (Int32.toNatClampNeg ((I 76 3)))) I L))) :
    sm_CI n mX12_here T I L [.ref 76] F :=
  sm_CI.of (by decide +kernel) rfl (fun x hx => show sm_V x 0 0 T I L 0 [some (.ref 76)] [] from
  sm_aload_n (z := 76) hx dX12_here_0 rfl (sm_getI hx dX12_here_1 fl_X12_122_12 (t_76 hB) rfl (sm_aload_n (z := 76) hx dX12_here_4 rfl (sm_getI hx dX12_here_5 fl_X12_119_12 (t_76 hB) rfl (sm_icmpge (a := (I 76 3)) (b := (I 76 2)) hx dX12_here_8 (tgt := 23) (by decide) (fun q1 => sm_iconst (v := (-1)) hx dX12_here_23 sm_kc_m1 (sm_iretI hx dX12_here_24 rfl (h.1 q1))) (fun q1 => sm_aload_n (z := 76) hx dX12_here_11 rfl (sm_getR hx dX12_here_12 fl_X12_9_12 (t_76 hB) rfl (sm_aload_n (z := 76) hx dX12_here_15 rfl (sm_getI hx dX12_here_16 fl_X12_122_12 (t_76 hB) rfl (sm_iald (i := (I 76 3)) hx dX12_here_19 (t_77 hB) (h.2 q1).1 (sm_goto hx dX12_here_20 (tgt := 24) (by decide) (sm_iretI hx dX12_here_24 rfl (h.2 q1).2))))))))))))
theorem dX12_look_0 : decode cX12_look 0 = .ok (.aload_n 0, 1) := by decide +kernel
theorem dX12_look_1 : decode cX12_look 1 = .ok (.invokevirtual 125, 3) := by decide +kernel
theorem dX12_look_4 : decode cX12_look 4 = .ok (.bipush 32, 2) := by decide +kernel
theorem dX12_look_6 : decode cX12_look 6 = .ok (.if_icmp .ne 16, 3) := by decide +kernel
theorem dX12_look_9 : decode cX12_look 9 = .ok (.aload_n 0, 1) := by decide +kernel
theorem dX12_look_10 : decode cX12_look 10 = .ok (.dup, 1) := by decide +kernel
theorem dX12_look_11 : decode cX12_look 11 = .ok (.getfield 122, 3) := by decide +kernel
theorem dX12_look_14 : decode cX12_look 14 = .ok (.iconst 1, 1) := by decide +kernel
theorem dX12_look_15 : decode cX12_look 15 = .ok (.iadd, 1) := by decide +kernel
theorem dX12_look_16 : decode cX12_look 16 = .ok (.putfield 122, 3) := by decide +kernel
theorem dX12_look_19 : decode cX12_look 19 = .ok (.goto (-19), 3) := by decide +kernel
theorem dX12_look_22 : decode cX12_look 22 = .ok (.aload_n 0, 1) := by decide +kernel
theorem dX12_look_23 : decode cX12_look 23 = .ok (.invokevirtual 125, 3) := by decide +kernel
theorem dX12_look_26 : decode cX12_look 26 = .ok (.ireturn, 1) := by decide +kernel
set_option maxRecDepth 100000 in
theorem u_X12_look_0 {x : sm_Cx} {n : Nat} {F : Int32 → sm_MI → sm_ML → Prop} {T : List sm_Sh} {I : sm_MI} {L : sm_ML}  (hB : sm_Bs T) (hx : sm_Ok x mX12_look (n + 1) (sm_KI T F))
    (h : sm_CI n mX12_here T I L [.ref 76] (fun r2 I1 L1 => (¬ r2 = 32 → sm_CI n mX12_here T I1 L1 [.ref 76] (fun r4 I3 L3 => F r4 I3 L3)) ∧ (r2 = 32 → sm_V x 0 0 T (sm_uI I1 76 3 ((I1 76 3) + 1)) L1 0 [some (.ref 76)] []))) :
    sm_V x 0 0 T I L 0 [some (.ref 76)] [] :=
  sm_aload_n (z := 76) hx dX12_look_0 rfl (sm_callVI (args := []) (st := []) hx dX12_look_1 lv_X12_125_12 rfl rfl (t_76 hB) rfl rfl h (fun r2 I1 L1 hI1 => sm_bipush (v := 32) hx dX12_look_4 sm_kb_32 (sm_icmpne (a := r2) (b := 32) hx dX12_look_6 (tgt := 22) (by decide) (fun q1 => sm_aload_n (z := 76) hx dX12_look_22 rfl (sm_callVI (args := []) (st := []) hx dX12_look_23 lv_X12_125_12 rfl rfl (t_76 hB) rfl rfl (hI1.1 q1) (fun r4 I3 L3 hI3 => sm_iretI hx dX12_look_26 rfl hI3))) (fun q1 => sm_aload_n (z := 76) hx dX12_look_9 rfl (sm_dup hx dX12_look_10 rfl (sm_getI hx dX12_look_11 fl_X12_122_12 (t_76 hB) rfl (sm_iconst (v := 1) hx dX12_look_14 sm_kc_1 (sm_iadd (a := (I1 76 3)) (b := 1) hx dX12_look_15 (sm_putI hx dX12_look_16 fl_X12_122_12 (t_76 hB) rfl (sm_goto hx dX12_look_19 (tgt := 0) (by decide) ((hI1.2 q1))))))))))))
set_option maxRecDepth 100000 in
theorem c_X12_look {n : Nat} {F : Int32 → sm_MI → sm_ML → Prop} {T : List sm_Sh} {I : sm_MI} {L : sm_ML}  (hB : sm_Bs T)
    (h : ∀ x : sm_Cx, sm_Ok x mX12_look (n + 1) (sm_KI T F) → sm_V x 0 0 T I L 0 [some (.ref 76)] []) :
    sm_CI (n + 1) mX12_look T I L [.ref 76] F :=
  sm_CI.of (by decide +kernel) rfl (fun x hx => show sm_V x 0 0 T I L 0 [some (.ref 76)] [] from h x hx)
theorem dX12_bad_0 : decode cX12_bad 0 = .ok (.aload_n 0, 1) := by decide +kernel
theorem dX12_bad_1 : decode cX12_bad 1 = .ok (.aload_n 0, 1) := by decide +kernel
theorem dX12_bad_2 : decode cX12_bad 2 = .ok (.getfield 129, 3) := by decide +kernel
theorem dX12_bad_5 : decode cX12_bad 5 = .ok (.iconst (-1), 1) := by decide +kernel
theorem dX12_bad_6 : decode cX12_bad 6 = .ok (.if_icmp .ne 10, 3) := by decide +kernel
theorem dX12_bad_9 : decode cX12_bad 9 = .ok (.aload_n 0, 1) := by decide +kernel
theorem dX12_bad_10 : decode cX12_bad 10 = .ok (.getfield 122, 3) := by decide +kernel
theorem dX12_bad_13 : decode cX12_bad 13 = .ok (.goto 7, 3) := by decide +kernel
theorem dX12_bad_16 : decode cX12_bad 16 = .ok (.aload_n 0, 1) := by decide +kernel
theorem dX12_bad_17 : decode cX12_bad 17 = .ok (.getfield 129, 3) := by decide +kernel
theorem dX12_bad_20 : decode cX12_bad 20 = .ok (.putfield 129, 3) := by decide +kernel
theorem dX12_bad_23 : decode cX12_bad 23 = .ok (.return_, 1) := by decide +kernel
set_option maxRecDepth 100000 in
theorem c_X12_bad {n : Nat} {F : sm_MI → sm_ML → Prop} {T : List sm_Sh} {I : sm_MI} {L : sm_ML}  (hB : sm_Bs T)
    (h : (¬ (I 76 4) = (-1) → F (sm_uI I 76 4 (I 76 4)) L) ∧ ((I 76 4) = (-1) → F (sm_uI I 76 4 (I 76 3)) L)) :
    sm_CV n mX12_bad T I L [.ref 76] F :=
  sm_CV.of (by decide +kernel) rfl (fun x hx => show sm_V x 0 0 T I L 0 [some (.ref 76)] [] from
  sm_aload_n (z := 76) hx dX12_bad_0 rfl (sm_aload_n (z := 76) hx dX12_bad_1 rfl (sm_getI hx dX12_bad_2 fl_X12_129_12 (t_76 hB) rfl (sm_iconst (v := (-1)) hx dX12_bad_5 sm_kc_m1 (sm_icmpne (a := (I 76 4)) (b := (-1)) hx dX12_bad_6 (tgt := 16) (by decide) (fun q1 => sm_aload_n (z := 76) hx dX12_bad_16 rfl (sm_getI hx dX12_bad_17 fl_X12_129_12 (t_76 hB) rfl (sm_putI hx dX12_bad_20 fl_X12_129_12 (t_76 hB) rfl (sm_vretV hx dX12_bad_23 rfl (h.1 q1))))) (fun q1 => sm_aload_n (z := 76) hx dX12_bad_9 rfl (sm_getI hx dX12_bad_10 fl_X12_122_12 (t_76 hB) rfl (sm_goto hx dX12_bad_13 (tgt := 20) (by decide) (sm_putI hx dX12_bad_20 fl_X12_129_12 (t_76 hB) rfl (sm_vretV hx dX12_bad_23 rfl (h.2 q1)))))))))))
theorem dX12_isDigit_0 : decode cX12_isDigit 0 = .ok (.iload_n 0, 1) := by decide +kernel
theorem dX12_isDigit_1 : decode cX12_isDigit 1 = .ok (.bipush 48, 2) := by decide +kernel
theorem dX12_isDigit_3 : decode cX12_isDigit 3 = .ok (.if_icmp .lt 13, 3) := by decide +kernel
theorem dX12_isDigit_6 : decode cX12_isDigit 6 = .ok (.iload_n 0, 1) := by decide +kernel
theorem dX12_isDigit_7 : decode cX12_isDigit 7 = .ok (.bipush 57, 2) := by decide +kernel
theorem dX12_isDigit_9 : decode cX12_isDigit 9 = .ok (.if_icmp .gt 7, 3) := by decide +kernel
theorem dX12_isDigit_12 : decode cX12_isDigit 12 = .ok (.iconst 1, 1) := by decide +kernel
theorem dX12_isDigit_13 : decode cX12_isDigit 13 = .ok (.goto 4, 3) := by decide +kernel
theorem dX12_isDigit_16 : decode cX12_isDigit 16 = .ok (.iconst 0, 1) := by decide +kernel
theorem dX12_isDigit_17 : decode cX12_isDigit 17 = .ok (.ireturn, 1) := by decide +kernel
set_option maxRecDepth 100000 in
theorem c_X12_isDigit {n : Nat} {F : Bool → sm_MI → sm_ML → Prop} {T : List sm_Sh} {I : sm_MI} {L : sm_ML} {a0 : Int32} (hB : sm_Bs T)
    (h : (a0 < 48 → F false I L) ∧ (¬ a0 < 48 → (57 < a0 → F false I L) ∧ (¬ 57 < a0 → F true I L))) :
    sm_CZ n mX12_isDigit T I L [.int a0] F :=
  sm_CZ.of (by decide +kernel) rfl (fun x hx => show sm_V x 0 0 T I L 0 [some (.int a0)] [] from
  sm_iload_n (z := a0) hx dX12_isDigit_0 rfl (sm_bipush (v := 48) hx dX12_isDigit_1 sm_kb_48 (sm_icmplt (a := a0) (b := 48) hx dX12_isDigit_3 (tgt := 16) (by decide) (fun q2 => sm_iconst (v := 0) hx dX12_isDigit_16 sm_kc_0 (sm_iretZ (z := false) hx dX12_isDigit_17 rfl (h.1 q2))) (fun q2 => sm_iload_n (z := a0) hx dX12_isDigit_6 rfl (sm_bipush (v := 57) hx dX12_isDigit_7 sm_kb_57 (sm_icmpgt (a := a0) (b := 57) hx dX12_isDigit_9 (tgt := 16) (by decide) (fun q1 => sm_iconst (v := 0) hx dX12_isDigit_16 sm_kc_0 (sm_iretZ (z := false) hx dX12_isDigit_17 rfl ((h.2 q2).1 q1))) (fun q1 => sm_iconst (v := 1) hx dX12_isDigit_12 sm_kc_1 (sm_goto hx dX12_isDigit_13 (tgt := 17) (by decide) (sm_iretZ (z := true) hx dX12_isDigit_17 rfl ((h.2 q2).2 q1))))))))))
theorem dX12_note_0 : decode cX12_note 0 = .ok (.aload_n 0, 1) := by decide +kernel
theorem dX12_note_1 : decode cX12_note 1 = .ok (.getfield 13, 3) := by decide +kernel
theorem dX12_note_4 : decode cX12_note 4 = .ok (.sipush 340, 3) := by decide +kernel
theorem dX12_note_7 : decode cX12_note 7 = .ok (.aload_n 0, 1) := by decide +kernel
theorem dX12_note_8 : decode cX12_note 8 = .ok (.getfield 132, 3) := by decide +kernel
theorem dX12_note_11 : decode cX12_note 11 = .ok (.imul, 1) := by decide +kernel
theorem dX12_note_12 : decode cX12_note 12 = .ok (.aload_n 0, 1) := by decide +kernel
theorem dX12_note_13 : decode cX12_note 13 = .ok (.getfield 19, 3) := by decide +kernel
theorem dX12_note_16 : decode cX12_note 16 = .ok (.aload_n 0, 1) := by decide +kernel
theorem dX12_note_17 : decode cX12_note 17 = .ok (.getfield 132, 3) := by decide +kernel
theorem dX12_note_20 : decode cX12_note 20 = .ok (.iaload, 1) := by decide +kernel
theorem dX12_note_21 : decode cX12_note 21 = .ok (.iadd, 1) := by decide +kernel
theorem dX12_note_22 : decode cX12_note 22 = .ok (.iload_n 1, 1) := by decide +kernel
theorem dX12_note_23 : decode cX12_note 23 = .ok (.iastore, 1) := by decide +kernel
theorem dX12_note_24 : decode cX12_note 24 = .ok (.aload_n 0, 1) := by decide +kernel
theorem dX12_note_25 : decode cX12_note 25 = .ok (.getfield 16, 3) := by decide +kernel
theorem dX12_note_28 : decode cX12_note 28 = .ok (.sipush 340, 3) := by decide +kernel
theorem dX12_note_31 : decode cX12_note 31 = .ok (.aload_n 0, 1) := by decide +kernel
theorem dX12_note_32 : decode cX12_note 32 = .ok (.getfield 132, 3) := by decide +kernel
theorem dX12_note_35 : decode cX12_note 35 = .ok (.imul, 1) := by decide +kernel
theorem dX12_note_36 : decode cX12_note 36 = .ok (.aload_n 0, 1) := by decide +kernel
theorem dX12_note_37 : decode cX12_note 37 = .ok (.getfield 19, 3) := by decide +kernel
theorem dX12_note_40 : decode cX12_note 40 = .ok (.aload_n 0, 1) := by decide +kernel
theorem dX12_note_41 : decode cX12_note 41 = .ok (.getfield 132, 3) := by decide +kernel
theorem dX12_note_44 : decode cX12_note 44 = .ok (.iaload, 1) := by decide +kernel
theorem dX12_note_45 : decode cX12_note 45 = .ok (.iadd, 1) := by decide +kernel
theorem dX12_note_46 : decode cX12_note 46 = .ok (.iload_n 2, 1) := by decide +kernel
theorem dX12_note_47 : decode cX12_note 47 = .ok (.iastore, 1) := by decide +kernel
theorem dX12_note_48 : decode cX12_note 48 = .ok (.aload_n 0, 1) := by decide +kernel
theorem dX12_note_49 : decode cX12_note 49 = .ok (.getfield 19, 3) := by decide +kernel
theorem dX12_note_52 : decode cX12_note 52 = .ok (.aload_n 0, 1) := by decide +kernel
theorem dX12_note_53 : decode cX12_note 53 = .ok (.getfield 132, 3) := by decide +kernel
theorem dX12_note_56 : decode cX12_note 56 = .ok (.dup2, 1) := by decide +kernel
theorem dX12_note_57 : decode cX12_note 57 = .ok (.iaload, 1) := by decide +kernel
theorem dX12_note_58 : decode cX12_note 58 = .ok (.iconst 1, 1) := by decide +kernel
theorem dX12_note_59 : decode cX12_note 59 = .ok (.iadd, 1) := by decide +kernel
theorem dX12_note_60 : decode cX12_note 60 = .ok (.iastore, 1) := by decide +kernel
theorem dX12_note_61 : decode cX12_note 61 = .ok (.return_, 1) := by decide +kernel
set_option maxRecDepth 100000 in
theorem c_X12_note {n : Nat} {F : sm_MI → sm_ML → Prop} {T : List sm_Sh} {I : sm_MI} {L : sm_ML} {a1 : Int32} {a2 : Int32} (hB : sm_Bs T)
    (h : vp_in (I 76 14) 6 ∧ (vp_in ((340 * (I 76 14)) + (I 80 (Int32.toNatClampNeg ((I 76 14))))) 2040 ∧ (∀ I1 : sm_MI, I1 = (sm_uI I 78 (Int32.toNatClampNeg (((340 * (I 76 14)) + (I 80 (Int32.toNatClampNeg ((I 76 14))))))) a1) → vp_in (I1 76 14) 6 ∧ (vp_in ((340 * (I1 76 14)) + (I1 80 (Int32.toNatClampNeg ((I1 76 14))))) 2040 ∧ (∀ I2 : sm_MI, I2 = (sm_uI I1 79 (Int32.toNatClampNeg (((340 * (I1 76 14)) + (I1 80 (Int32.toNatClampNeg ((I1 76 14))))))) a2) → vp_in (I2 76 14) 6 ∧ (vp_in (I2 76 14) 6 ∧ (F (sm_uI I2 80 (Int32.toNatClampNeg ((I2 76 14))) ((I2 80 (Int32.toNatClampNeg ((I2 76 14)))) + 1)) L))))))) :
    sm_CV n mX12_note T I L [.ref 76, .int a1, .int a2] F :=
  sm_CV.of (by decide +kernel) rfl (fun x hx => show sm_V x 0 0 T I L 0 [some (.ref 76), some (.int a1), some (.int a2)] [] from
  sm_aload_n (z := 76) hx dX12_note_0 rfl (sm_getR hx dX12_note_1 fl_X12_13_12 (t_76 hB) rfl (sm_sipush (v := 340) hx dX12_note_4 sm_ks_340 (sm_aload_n (z := 76) hx dX12_note_7 rfl (sm_getI hx dX12_note_8 fl_X12_132_12 (t_76 hB) rfl (sm_imul (a := 340) (b := (I 76 14)) hx dX12_note_11 (sm_aload_n (z := 76) hx dX12_note_12 rfl (sm_getR hx dX12_note_13 fl_X12_19_12 (t_76 hB) rfl (sm_aload_n (z := 76) hx dX12_note_16 rfl (sm_getI hx dX12_note_17 fl_X12_132_12 (t_76 hB) rfl (sm_iald (i := (I 76 14)) hx dX12_note_20 (t_80 hB) h.1 (sm_iadd (a := (340 * (I 76 14))) (b := (I 80 (Int32.toNatClampNeg ((I 76 14))))) hx dX12_note_21 (sm_iload_n (z := a1) hx dX12_note_22 rfl (sm_iast (i := ((340 * (I 76 14)) + (I 80 (Int32.toNatClampNeg ((I 76 14)))))) (v := a1) hx dX12_note_23 (t_78 hB) h.2.1 (sm_aload_n (z := 76) hx dX12_note_24 rfl (sm_getR hx dX12_note_25 fl_X12_16_12 (t_76 hB) rfl (sm_sipush (v := 340) hx dX12_note_28 sm_ks_340 (sm_aload_n (z := 76) hx dX12_note_31 rfl (sm_getI hx dX12_note_32 fl_X12_132_12 (t_76 hB) rfl (sm_imul (a := 340) (b := ((sm_uI I 78 (Int32.toNatClampNeg (((340 * (I 76 14)) + (I 80 (Int32.toNatClampNeg ((I 76 14))))))) a1) 76 14)) hx dX12_note_35 (sm_aload_n (z := 76) hx dX12_note_36 rfl (sm_getR hx dX12_note_37 fl_X12_19_12 (t_76 hB) rfl (sm_aload_n (z := 76) hx dX12_note_40 rfl (sm_getI hx dX12_note_41 fl_X12_132_12 (t_76 hB) rfl (sm_iald (i := ((sm_uI I 78 (Int32.toNatClampNeg (((340 * (I 76 14)) + (I 80 (Int32.toNatClampNeg ((I 76 14))))))) a1) 76 14)) hx dX12_note_44 (t_80 hB) (h.2.2 _ rfl).1 (sm_iadd (a := (340 * ((sm_uI I 78 (Int32.toNatClampNeg (((340 * (I 76 14)) + (I 80 (Int32.toNatClampNeg ((I 76 14))))))) a1) 76 14))) (b := ((sm_uI I 78 (Int32.toNatClampNeg (((340 * (I 76 14)) + (I 80 (Int32.toNatClampNeg ((I 76 14))))))) a1) 80 (Int32.toNatClampNeg (((sm_uI I 78 (Int32.toNatClampNeg (((340 * (I 76 14)) + (I 80 (Int32.toNatClampNeg ((I 76 14))))))) a1) 76 14))))) hx dX12_note_45 (sm_iload_n (z := a2) hx dX12_note_46 rfl (sm_iast (i := ((340 * ((sm_uI I 78 (Int32.toNatClampNeg (((340 * (I 76 14)) + (I 80 (Int32.toNatClampNeg ((I 76 14))))))) a1) 76 14)) + ((sm_uI I 78 (Int32.toNatClampNeg (((340 * (I 76 14)) + (I 80 (Int32.toNatClampNeg ((I 76 14))))))) a1) 80 (Int32.toNatClampNeg (((sm_uI I 78 (Int32.toNatClampNeg (((340 * (I 76 14)) + (I 80 (Int32.toNatClampNeg ((I 76 14))))))) a1) 76 14)))))) (v := a2) hx dX12_note_47 (t_79 hB) (h.2.2 _ rfl).2.1 (sm_aload_n (z := 76) hx dX12_note_48 rfl (sm_getR hx dX12_note_49 fl_X12_19_12 (t_76 hB) rfl (sm_aload_n (z := 76) hx dX12_note_52 rfl (sm_getI hx dX12_note_53 fl_X12_132_12 (t_76 hB) rfl (sm_dup2 hx dX12_note_56 rfl rfl (sm_iald (i := ((sm_uI (sm_uI I 78 (Int32.toNatClampNeg (((340 * (I 76 14)) + (I 80 (Int32.toNatClampNeg ((I 76 14))))))) a1) 79 (Int32.toNatClampNeg (((340 * ((sm_uI I 78 (Int32.toNatClampNeg (((340 * (I 76 14)) + (I 80 (Int32.toNatClampNeg ((I 76 14))))))) a1) 76 14)) + ((sm_uI I 78 (Int32.toNatClampNeg (((340 * (I 76 14)) + (I 80 (Int32.toNatClampNeg ((I 76 14))))))) a1) 80 (Int32.toNatClampNeg (((sm_uI I 78 (Int32.toNatClampNeg (((340 * (I 76 14)) + (I 80 (Int32.toNatClampNeg ((I 76 14))))))) a1) 76 14))))))) a2) 76 14)) hx dX12_note_57 (t_80 hB) ((h.2.2 _ rfl).2.2 _ rfl).1 (sm_iconst (v := 1) hx dX12_note_58 sm_kc_1 (sm_iadd (a := ((sm_uI (sm_uI I 78 (Int32.toNatClampNeg (((340 * (I 76 14)) + (I 80 (Int32.toNatClampNeg ((I 76 14))))))) a1) 79 (Int32.toNatClampNeg (((340 * ((sm_uI I 78 (Int32.toNatClampNeg (((340 * (I 76 14)) + (I 80 (Int32.toNatClampNeg ((I 76 14))))))) a1) 76 14)) + ((sm_uI I 78 (Int32.toNatClampNeg (((340 * (I 76 14)) + (I 80 (Int32.toNatClampNeg ((I 76 14))))))) a1) 80 (Int32.toNatClampNeg (((sm_uI I 78 (Int32.toNatClampNeg (((340 * (I 76 14)) + (I 80 (Int32.toNatClampNeg ((I 76 14))))))) a1) 76 14))))))) a2) 80 (Int32.toNatClampNeg (((sm_uI (sm_uI I 78 (Int32.toNatClampNeg (((340 * (I 76 14)) + (I 80 (Int32.toNatClampNeg ((I 76 14))))))) a1) 79 (Int32.toNatClampNeg (((340 * ((sm_uI I 78 (Int32.toNatClampNeg (((340 * (I 76 14)) + (I 80 (Int32.toNatClampNeg ((I 76 14))))))) a1) 76 14)) + ((sm_uI I 78 (Int32.toNatClampNeg (((340 * (I 76 14)) + (I 80 (Int32.toNatClampNeg ((I 76 14))))))) a1) 80 (Int32.toNatClampNeg (((sm_uI I 78 (Int32.toNatClampNeg (((340 * (I 76 14)) + (I 80 (Int32.toNatClampNeg ((I 76 14))))))) a1) 76 14))))))) a2) 76 14))))) (b := 1) hx dX12_note_59 (sm_iast (i := ((sm_uI (sm_uI I 78 (Int32.toNatClampNeg (((340 * (I 76 14)) + (I 80 (Int32.toNatClampNeg ((I 76 14))))))) a1) 79 (Int32.toNatClampNeg (((340 * ((sm_uI I 78 (Int32.toNatClampNeg (((340 * (I 76 14)) + (I 80 (Int32.toNatClampNeg ((I 76 14))))))) a1) 76 14)) + ((sm_uI I 78 (Int32.toNatClampNeg (((340 * (I 76 14)) + (I 80 (Int32.toNatClampNeg ((I 76 14))))))) a1) 80 (Int32.toNatClampNeg (((sm_uI I 78 (Int32.toNatClampNeg (((340 * (I 76 14)) + (I 80 (Int32.toNatClampNeg ((I 76 14))))))) a1) 76 14))))))) a2) 76 14)) (v := (((sm_uI (sm_uI I 78 (Int32.toNatClampNeg (((340 * (I 76 14)) + (I 80 (Int32.toNatClampNeg ((I 76 14))))))) a1) 79 (Int32.toNatClampNeg (((340 * ((sm_uI I 78 (Int32.toNatClampNeg (((340 * (I 76 14)) + (I 80 (Int32.toNatClampNeg ((I 76 14))))))) a1) 76 14)) + ((sm_uI I 78 (Int32.toNatClampNeg (((340 * (I 76 14)) + (I 80 (Int32.toNatClampNeg ((I 76 14))))))) a1) 80 (Int32.toNatClampNeg (((sm_uI I 78 (Int32.toNatClampNeg (((340 * (I 76 14)) + (I 80 (Int32.toNatClampNeg ((I 76 14))))))) a1) 76 14))))))) a2) 80 (Int32.toNatClampNeg (((sm_uI (sm_uI I 78 (Int32.toNatClampNeg (((340 * (I 76 14)) + (I 80 (Int32.toNatClampNeg ((I 76 14))))))) a1) 79 (Int32.toNatClampNeg (((340 * ((sm_uI I 78 (Int32.toNatClampNeg (((340 * (I 76 14)) + (I 80 (Int32.toNatClampNeg ((I 76 14))))))) a1) 76 14)) + ((sm_uI I 78 (Int32.toNatClampNeg (((340 * (I 76 14)) + (I 80 (Int32.toNatClampNeg ((I 76 14))))))) a1) 80 (Int32.toNatClampNeg (((sm_uI I 78 (Int32.toNatClampNeg (((340 * (I 76 14)) + (I 80 (Int32.toNatClampNeg ((I 76 14))))))) a1) 76 14))))))) a2) 76 14)))) + 1)) hx dX12_note_60 (t_80 hB) ((h.2.2 _ rfl).2.2 _ rfl).2.1 (sm_vretV hx dX12_note_61 rfl ((h.2.2 _ rfl).2.2 _ rfl).2.2))))))))))))))))))))))))))))))))))))))
theorem dX12_letterOf_0 : decode cX12_letterOf 0 = .ok (.iload_n 0, 1) := by decide +kernel
theorem dX12_letterOf_1 : decode cX12_letterOf 1 = .ok (.bipush 110, 2) := by decide +kernel
theorem dX12_letterOf_3 : decode cX12_letterOf 3 = .ok (.if_icmp .ne 7, 3) := by decide +kernel
theorem dX12_letterOf_6 : decode cX12_letterOf 6 = .ok (.iconst 0, 1) := by decide +kernel
theorem dX12_letterOf_7 : decode cX12_letterOf 7 = .ok (.goto 54, 3) := by decide +kernel
theorem dX12_letterOf_10 : decode cX12_letterOf 10 = .ok (.iload_n 0, 1) := by decide +kernel
theorem dX12_letterOf_11 : decode cX12_letterOf 11 = .ok (.bipush 104, 2) := by decide +kernel
theorem dX12_letterOf_13 : decode cX12_letterOf 13 = .ok (.if_icmp .ne 7, 3) := by decide +kernel
theorem dX12_letterOf_16 : decode cX12_letterOf 16 = .ok (.iconst 1, 1) := by decide +kernel
theorem dX12_letterOf_17 : decode cX12_letterOf 17 = .ok (.goto 44, 3) := by decide +kernel
theorem dX12_letterOf_20 : decode cX12_letterOf 20 = .ok (.iload_n 0, 1) := by decide +kernel
theorem dX12_letterOf_21 : decode cX12_letterOf 21 = .ok (.bipush 115, 2) := by decide +kernel
theorem dX12_letterOf_23 : decode cX12_letterOf 23 = .ok (.if_icmp .ne 7, 3) := by decide +kernel
theorem dX12_letterOf_26 : decode cX12_letterOf 26 = .ok (.iconst 2, 1) := by decide +kernel
theorem dX12_letterOf_27 : decode cX12_letterOf 27 = .ok (.goto 34, 3) := by decide +kernel
theorem dX12_letterOf_30 : decode cX12_letterOf 30 = .ok (.iload_n 0, 1) := by decide +kernel
theorem dX12_letterOf_31 : decode cX12_letterOf 31 = .ok (.bipush 113, 2) := by decide +kernel
theorem dX12_letterOf_33 : decode cX12_letterOf 33 = .ok (.if_icmp .ne 7, 3) := by decide +kernel
theorem dX12_letterOf_36 : decode cX12_letterOf 36 = .ok (.iconst 3, 1) := by decide +kernel
theorem dX12_letterOf_37 : decode cX12_letterOf 37 = .ok (.goto 24, 3) := by decide +kernel
theorem dX12_letterOf_40 : decode cX12_letterOf 40 = .ok (.iload_n 0, 1) := by decide +kernel
theorem dX12_letterOf_41 : decode cX12_letterOf 41 = .ok (.bipush 109, 2) := by decide +kernel
theorem dX12_letterOf_43 : decode cX12_letterOf 43 = .ok (.if_icmp .ne 7, 3) := by decide +kernel
theorem dX12_letterOf_46 : decode cX12_letterOf 46 = .ok (.iconst 4, 1) := by decide +kernel
theorem dX12_letterOf_47 : decode cX12_letterOf 47 = .ok (.goto 14, 3) := by decide +kernel
theorem dX12_letterOf_50 : decode cX12_letterOf 50 = .ok (.iload_n 0, 1) := by decide +kernel
theorem dX12_letterOf_51 : decode cX12_letterOf 51 = .ok (.bipush 119, 2) := by decide +kernel
theorem dX12_letterOf_53 : decode cX12_letterOf 53 = .ok (.if_icmp .ne 7, 3) := by decide +kernel
theorem dX12_letterOf_56 : decode cX12_letterOf 56 = .ok (.iconst 5, 1) := by decide +kernel
theorem dX12_letterOf_57 : decode cX12_letterOf 57 = .ok (.goto 4, 3) := by decide +kernel
theorem dX12_letterOf_60 : decode cX12_letterOf 60 = .ok (.iconst (-1), 1) := by decide +kernel
theorem dX12_letterOf_61 : decode cX12_letterOf 61 = .ok (.ireturn, 1) := by decide +kernel
set_option maxRecDepth 100000 in
theorem c_X12_letterOf {n : Nat} {F : Int32 → sm_MI → sm_ML → Prop} {T : List sm_Sh} {I : sm_MI} {L : sm_ML} {a0 : Int32} (hB : sm_Bs T)
    (h : (¬ a0 = 110 → (¬ a0 = 104 → (¬ a0 = 115 → (¬ a0 = 113 → (¬ a0 = 109 → (¬ a0 = 119 → F (-1) I L) ∧ (a0 = 119 → F 5 I L)) ∧ (a0 = 109 → F 4 I L)) ∧ (a0 = 113 → F 3 I L)) ∧ (a0 = 115 → F 2 I L)) ∧ (a0 = 104 → F 1 I L)) ∧ (a0 = 110 → F 0 I L)) :
    sm_CI n mX12_letterOf T I L [.int a0] F :=
  sm_CI.of (by decide +kernel) rfl (fun x hx => show sm_V x 0 0 T I L 0 [some (.int a0)] [] from
  sm_iload_n (z := a0) hx dX12_letterOf_0 rfl (sm_bipush (v := 110) hx dX12_letterOf_1 sm_kb_110 (sm_icmpne (a := a0) (b := 110) hx dX12_letterOf_3 (tgt := 10) (by decide) (fun q6 => sm_iload_n (z := a0) hx dX12_letterOf_10 rfl (sm_bipush (v := 104) hx dX12_letterOf_11 sm_kb_104 (sm_icmpne (a := a0) (b := 104) hx dX12_letterOf_13 (tgt := 20) (by decide) (fun q5 => sm_iload_n (z := a0) hx dX12_letterOf_20 rfl (sm_bipush (v := 115) hx dX12_letterOf_21 sm_kb_115 (sm_icmpne (a := a0) (b := 115) hx dX12_letterOf_23 (tgt := 30) (by decide) (fun q4 => sm_iload_n (z := a0) hx dX12_letterOf_30 rfl (sm_bipush (v := 113) hx dX12_letterOf_31 sm_kb_113 (sm_icmpne (a := a0) (b := 113) hx dX12_letterOf_33 (tgt := 40) (by decide) (fun q3 => sm_iload_n (z := a0) hx dX12_letterOf_40 rfl (sm_bipush (v := 109) hx dX12_letterOf_41 sm_kb_109 (sm_icmpne (a := a0) (b := 109) hx dX12_letterOf_43 (tgt := 50) (by decide) (fun q2 => sm_iload_n (z := a0) hx dX12_letterOf_50 rfl (sm_bipush (v := 119) hx dX12_letterOf_51 sm_kb_119 (sm_icmpne (a := a0) (b := 119) hx dX12_letterOf_53 (tgt := 60) (by decide) (fun q1 => sm_iconst (v := (-1)) hx dX12_letterOf_60 sm_kc_m1 (sm_iretI hx dX12_letterOf_61 rfl ((((((h.1 q6).1 q5).1 q4).1 q3).1 q2).1 q1))) (fun q1 => sm_iconst (v := 5) hx dX12_letterOf_56 sm_kc_5 (sm_goto hx dX12_letterOf_57 (tgt := 61) (by decide) (sm_iretI hx dX12_letterOf_61 rfl ((((((h.1 q6).1 q5).1 q4).1 q3).1 q2).2 q1))))))) (fun q2 => sm_iconst (v := 4) hx dX12_letterOf_46 sm_kc_4 (sm_goto hx dX12_letterOf_47 (tgt := 61) (by decide) (sm_iretI hx dX12_letterOf_61 rfl (((((h.1 q6).1 q5).1 q4).1 q3).2 q2))))))) (fun q3 => sm_iconst (v := 3) hx dX12_letterOf_36 sm_kc_3 (sm_goto hx dX12_letterOf_37 (tgt := 61) (by decide) (sm_iretI hx dX12_letterOf_61 rfl ((((h.1 q6).1 q5).1 q4).2 q3))))))) (fun q4 => sm_iconst (v := 2) hx dX12_letterOf_26 sm_kc_2 (sm_goto hx dX12_letterOf_27 (tgt := 61) (by decide) (sm_iretI hx dX12_letterOf_61 rfl (((h.1 q6).1 q5).2 q4))))))) (fun q5 => sm_iconst (v := 1) hx dX12_letterOf_16 sm_kc_1 (sm_goto hx dX12_letterOf_17 (tgt := 61) (by decide) (sm_iretI hx dX12_letterOf_61 rfl ((h.1 q6).2 q5))))))) (fun q6 => sm_iconst (v := 0) hx dX12_letterOf_6 sm_kc_0 (sm_goto hx dX12_letterOf_7 (tgt := 61) (by decide) (sm_iretI hx dX12_letterOf_61 rfl (h.2 q6)))))))
theorem dX12_opens_0 : decode cX12_opens 0 = .ok (.aload_n 0, 1) := by decide +kernel
theorem dX12_opens_1 : decode cX12_opens 1 = .ok (.getfield 135, 3) := by decide +kernel
theorem dX12_opens_4 : decode cX12_opens 4 = .ok (.bipush 6, 2) := by decide +kernel
theorem dX12_opens_6 : decode cX12_opens 6 = .ok (.if_icmp .ne 7, 3) := by decide +kernel
theorem dX12_opens_9 : decode cX12_opens 9 = .ok (.aload_n 0, 1) := by decide +kernel
theorem dX12_opens_10 : decode cX12_opens 10 = .ok (.invokevirtual 138, 3) := by decide +kernel
theorem dX12_opens_13 : decode cX12_opens 13 = .ok (.aload_n 0, 1) := by decide +kernel
theorem dX12_opens_14 : decode cX12_opens 14 = .ok (.dup, 1) := by decide +kernel
theorem dX12_opens_15 : decode cX12_opens 15 = .ok (.getfield 135, 3) := by decide +kernel
theorem dX12_opens_18 : decode cX12_opens 18 = .ok (.iconst 1, 1) := by decide +kernel
theorem dX12_opens_19 : decode cX12_opens 19 = .ok (.iadd, 1) := by decide +kernel
theorem dX12_opens_20 : decode cX12_opens 20 = .ok (.putfield 135, 3) := by decide +kernel
theorem dX12_opens_23 : decode cX12_opens 23 = .ok (.aload_n 0, 1) := by decide +kernel
theorem dX12_opens_24 : decode cX12_opens 24 = .ok (.dup, 1) := by decide +kernel
theorem dX12_opens_25 : decode cX12_opens 25 = .ok (.getfield 122, 3) := by decide +kernel
theorem dX12_opens_28 : decode cX12_opens 28 = .ok (.iconst 1, 1) := by decide +kernel
theorem dX12_opens_29 : decode cX12_opens 29 = .ok (.iadd, 1) := by decide +kernel
theorem dX12_opens_30 : decode cX12_opens 30 = .ok (.putfield 122, 3) := by decide +kernel
theorem dX12_opens_33 : decode cX12_opens 33 = .ok (.return_, 1) := by decide +kernel
set_option maxRecDepth 100000 in
theorem c_X12_opens {n : Nat} {F : sm_MI → sm_ML → Prop} {T : List sm_Sh} {I : sm_MI} {L : sm_ML}  (hB : sm_Bs T)
    (h : (¬ (I 76 5) = 6 → ∀ I1 : sm_MI, I1 = (sm_uI I 76 5 ((I 76 5) + 1)) → F (sm_uI I1 76 3 ((I1 76 3) + 1)) L) ∧ ((I 76 5) = 6 → sm_CV n mX12_bad T I L [.ref 76] (fun I2 L2 => ∀ I3 : sm_MI, I3 = (sm_uI I2 76 5 ((I2 76 5) + 1)) → F (sm_uI I3 76 3 ((I3 76 3) + 1)) L2))) :
    sm_CV (n + 1) mX12_opens T I L [.ref 76] F :=
  sm_CV.of (by decide +kernel) rfl (fun x hx => show sm_V x 0 0 T I L 0 [some (.ref 76)] [] from
  sm_aload_n (z := 76) hx dX12_opens_0 rfl (sm_getI hx dX12_opens_1 fl_X12_135_12 (t_76 hB) rfl (sm_bipush (v := 6) hx dX12_opens_4 sm_kb_6 (sm_icmpne (a := (I 76 5)) (b := 6) hx dX12_opens_6 (tgt := 13) (by decide) (fun q1 => sm_aload_n (z := 76) hx dX12_opens_13 rfl (sm_dup hx dX12_opens_14 rfl (sm_getI hx dX12_opens_15 fl_X12_135_12 (t_76 hB) rfl (sm_iconst (v := 1) hx dX12_opens_18 sm_kc_1 (sm_iadd (a := (I 76 5)) (b := 1) hx dX12_opens_19 (sm_putI hx dX12_opens_20 fl_X12_135_12 (t_76 hB) rfl (sm_aload_n (z := 76) hx dX12_opens_23 rfl (sm_dup hx dX12_opens_24 rfl (sm_getI hx dX12_opens_25 fl_X12_122_12 (t_76 hB) rfl (sm_iconst (v := 1) hx dX12_opens_28 sm_kc_1 (sm_iadd (a := ((sm_uI I 76 5 ((I 76 5) + 1)) 76 3)) (b := 1) hx dX12_opens_29 (sm_putI hx dX12_opens_30 fl_X12_122_12 (t_76 hB) rfl (sm_vretV hx dX12_opens_33 rfl ((h.1 q1) _ rfl)))))))))))))) (fun q1 => sm_aload_n (z := 76) hx dX12_opens_9 rfl (sm_callVV (args := []) (st := []) hx dX12_opens_10 lv_X12_138_12 rfl rfl (t_76 hB) rfl rfl (h.2 q1) (fun I2 L2 hI2 => sm_aload_n (z := 76) hx dX12_opens_13 rfl (sm_dup hx dX12_opens_14 rfl (sm_getI hx dX12_opens_15 fl_X12_135_12 (t_76 hB) rfl (sm_iconst (v := 1) hx dX12_opens_18 sm_kc_1 (sm_iadd (a := (I2 76 5)) (b := 1) hx dX12_opens_19 (sm_putI hx dX12_opens_20 fl_X12_135_12 (t_76 hB) rfl (sm_aload_n (z := 76) hx dX12_opens_23 rfl (sm_dup hx dX12_opens_24 rfl (sm_getI hx dX12_opens_25 fl_X12_122_12 (t_76 hB) rfl (sm_iconst (v := 1) hx dX12_opens_28 sm_kc_1 (sm_iadd (a := ((sm_uI I2 76 5 ((I2 76 5) + 1)) 76 3)) (b := 1) hx dX12_opens_29 (sm_putI hx dX12_opens_30 fl_X12_122_12 (t_76 hB) rfl (sm_vretV hx dX12_opens_33 rfl (hI2 _ rfl))))))))))))))))))))
theorem dX12_closes_0 : decode cX12_closes 0 = .ok (.aload_n 0, 1) := by decide +kernel
theorem dX12_closes_1 : decode cX12_closes 1 = .ok (.getfield 129, 3) := by decide +kernel
theorem dX12_closes_4 : decode cX12_closes 4 = .ok (.iconst (-1), 1) := by decide +kernel
theorem dX12_closes_5 : decode cX12_closes 5 = .ok (.if_icmp .ne 15, 3) := by decide +kernel
theorem dX12_closes_8 : decode cX12_closes 8 = .ok (.aload_n 0, 1) := by decide +kernel
theorem dX12_closes_9 : decode cX12_closes 9 = .ok (.invokevirtual 141, 3) := by decide +kernel
theorem dX12_closes_12 : decode cX12_closes 12 = .ok (.iload_n 1, 1) := by decide +kernel
theorem dX12_closes_13 : decode cX12_closes 13 = .ok (.if_icmp .eq 7, 3) := by decide +kernel
theorem dX12_closes_16 : decode cX12_closes 16 = .ok (.aload_n 0, 1) := by decide +kernel
theorem dX12_closes_17 : decode cX12_closes 17 = .ok (.invokevirtual 138, 3) := by decide +kernel
theorem dX12_closes_20 : decode cX12_closes 20 = .ok (.aload_n 0, 1) := by decide +kernel
theorem dX12_closes_21 : decode cX12_closes 21 = .ok (.dup, 1) := by decide +kernel
theorem dX12_closes_22 : decode cX12_closes 22 = .ok (.getfield 122, 3) := by decide +kernel
theorem dX12_closes_25 : decode cX12_closes 25 = .ok (.iconst 1, 1) := by decide +kernel
theorem dX12_closes_26 : decode cX12_closes 26 = .ok (.iadd, 1) := by decide +kernel
theorem dX12_closes_27 : decode cX12_closes 27 = .ok (.putfield 122, 3) := by decide +kernel
theorem dX12_closes_30 : decode cX12_closes 30 = .ok (.aload_n 0, 1) := by decide +kernel
theorem dX12_closes_31 : decode cX12_closes 31 = .ok (.dup, 1) := by decide +kernel
theorem dX12_closes_32 : decode cX12_closes 32 = .ok (.getfield 135, 3) := by decide +kernel
theorem dX12_closes_35 : decode cX12_closes 35 = .ok (.iconst 1, 1) := by decide +kernel
theorem dX12_closes_36 : decode cX12_closes 36 = .ok (.isub, 1) := by decide +kernel
theorem dX12_closes_37 : decode cX12_closes 37 = .ok (.putfield 135, 3) := by decide +kernel
theorem dX12_closes_40 : decode cX12_closes 40 = .ok (.return_, 1) := by decide +kernel
set_option maxRecDepth 100000 in
theorem c_X12_closes {n : Nat} {F : sm_MI → sm_ML → Prop} {T : List sm_Sh} {I : sm_MI} {L : sm_ML} {a1 : Int32} (hB : sm_Bs T)
    (h : (¬ (I 76 4) = (-1) → ∀ I1 : sm_MI, I1 = (sm_uI I 76 3 ((I 76 3) + 1)) → F (sm_uI I1 76 5 ((I1 76 5) - 1)) L) ∧ ((I 76 4) = (-1) → sm_CI n mX12_look T I L [.ref 76] (fun r3 I2 L2 => (r3 = a1 → ∀ I4 : sm_MI, I4 = (sm_uI I2 76 3 ((I2 76 3) + 1)) → F (sm_uI I4 76 5 ((I4 76 5) - 1)) L2) ∧ (¬ r3 = a1 → sm_CV n mX12_bad T I2 L2 [.ref 76] (fun I5 L5 => ∀ I6 : sm_MI, I6 = (sm_uI I5 76 3 ((I5 76 3) + 1)) → F (sm_uI I6 76 5 ((I6 76 5) - 1)) L5))))) :
    sm_CV (n + 1) mX12_closes T I L [.ref 76, .int a1] F :=
  sm_CV.of (by decide +kernel) rfl (fun x hx => show sm_V x 0 0 T I L 0 [some (.ref 76), some (.int a1)] [] from
  sm_aload_n (z := 76) hx dX12_closes_0 rfl (sm_getI hx dX12_closes_1 fl_X12_129_12 (t_76 hB) rfl (sm_iconst (v := (-1)) hx dX12_closes_4 sm_kc_m1 (sm_icmpne (a := (I 76 4)) (b := (-1)) hx dX12_closes_5 (tgt := 20) (by decide) (fun q2 => sm_aload_n (z := 76) hx dX12_closes_20 rfl (sm_dup hx dX12_closes_21 rfl (sm_getI hx dX12_closes_22 fl_X12_122_12 (t_76 hB) rfl (sm_iconst (v := 1) hx dX12_closes_25 sm_kc_1 (sm_iadd (a := (I 76 3)) (b := 1) hx dX12_closes_26 (sm_putI hx dX12_closes_27 fl_X12_122_12 (t_76 hB) rfl (sm_aload_n (z := 76) hx dX12_closes_30 rfl (sm_dup hx dX12_closes_31 rfl (sm_getI hx dX12_closes_32 fl_X12_135_12 (t_76 hB) rfl (sm_iconst (v := 1) hx dX12_closes_35 sm_kc_1 (sm_isub (a := ((sm_uI I 76 3 ((I 76 3) + 1)) 76 5)) (b := 1) hx dX12_closes_36 (sm_putI hx dX12_closes_37 fl_X12_135_12 (t_76 hB) rfl (sm_vretV hx dX12_closes_40 rfl ((h.1 q2) _ rfl)))))))))))))) (fun q2 => sm_aload_n (z := 76) hx dX12_closes_8 rfl (sm_callVI (args := []) (st := []) hx dX12_closes_9 lv_X12_141_12 rfl rfl (t_76 hB) rfl rfl (h.2 q2) (fun r3 I2 L2 hI2 => sm_iload_n (z := a1) hx dX12_closes_12 rfl (sm_icmpeq (a := r3) (b := a1) hx dX12_closes_13 (tgt := 20) (by decide) (fun q1 => sm_aload_n (z := 76) hx dX12_closes_20 rfl (sm_dup hx dX12_closes_21 rfl (sm_getI hx dX12_closes_22 fl_X12_122_12 (t_76 hB) rfl (sm_iconst (v := 1) hx dX12_closes_25 sm_kc_1 (sm_iadd (a := (I2 76 3)) (b := 1) hx dX12_closes_26 (sm_putI hx dX12_closes_27 fl_X12_122_12 (t_76 hB) rfl (sm_aload_n (z := 76) hx dX12_closes_30 rfl (sm_dup hx dX12_closes_31 rfl (sm_getI hx dX12_closes_32 fl_X12_135_12 (t_76 hB) rfl (sm_iconst (v := 1) hx dX12_closes_35 sm_kc_1 (sm_isub (a := ((sm_uI I2 76 3 ((I2 76 3) + 1)) 76 5)) (b := 1) hx dX12_closes_36 (sm_putI hx dX12_closes_37 fl_X12_135_12 (t_76 hB) rfl (sm_vretV hx dX12_closes_40 rfl ((hI2.1 q1) _ rfl)))))))))))))) (fun q1 => sm_aload_n (z := 76) hx dX12_closes_16 rfl (sm_callVV (args := []) (st := []) hx dX12_closes_17 lv_X12_138_12 rfl rfl (t_76 hB) rfl rfl (hI2.2 q1) (fun I5 L5 hI5 => sm_aload_n (z := 76) hx dX12_closes_20 rfl (sm_dup hx dX12_closes_21 rfl (sm_getI hx dX12_closes_22 fl_X12_122_12 (t_76 hB) rfl (sm_iconst (v := 1) hx dX12_closes_25 sm_kc_1 (sm_iadd (a := (I5 76 3)) (b := 1) hx dX12_closes_26 (sm_putI hx dX12_closes_27 fl_X12_122_12 (t_76 hB) rfl (sm_aload_n (z := 76) hx dX12_closes_30 rfl (sm_dup hx dX12_closes_31 rfl (sm_getI hx dX12_closes_32 fl_X12_135_12 (t_76 hB) rfl (sm_iconst (v := 1) hx dX12_closes_35 sm_kc_1 (sm_isub (a := ((sm_uI I5 76 3 ((I5 76 3) + 1)) 76 5)) (b := 1) hx dX12_closes_36 (sm_putI hx dX12_closes_37 fl_X12_135_12 (t_76 hB) rfl (sm_vretV hx dX12_closes_40 rfl (hI5 _ rfl))))))))))))))))))))))))
theorem dX12_plainNumber_0 : decode cX12_plainNumber 0 = .ok (.iconst 0, 1) := by decide +kernel
theorem dX12_plainNumber_1 : decode cX12_plainNumber 1 = .ok (.istore_n 1, 1) := by decide +kernel
theorem dX12_plainNumber_2 : decode cX12_plainNumber 2 = .ok (.iconst 0, 1) := by decide +kernel
theorem dX12_plainNumber_3 : decode cX12_plainNumber 3 = .ok (.istore_n 2, 1) := by decide +kernel
theorem dX12_plainNumber_4 : decode cX12_plainNumber 4 = .ok (.iload_n 2, 1) := by decide +kernel
theorem dX12_plainNumber_5 : decode cX12_plainNumber 5 = .ok (.iconst 4, 1) := by decide +kernel
theorem dX12_plainNumber_6 : decode cX12_plainNumber 6 = .ok (.if_icmp .ge 42, 3) := by decide +kernel
theorem dX12_plainNumber_9 : decode cX12_plainNumber 9 = .ok (.aload_n 0, 1) := by decide +kernel
theorem dX12_plainNumber_10 : decode cX12_plainNumber 10 = .ok (.invokevirtual 125, 3) := by decide +kernel
theorem dX12_plainNumber_13 : decode cX12_plainNumber 13 = .ok (.invokestatic 144, 3) := by decide +kernel
theorem dX12_plainNumber_16 : decode cX12_plainNumber 16 = .ok (.ifCond .eq 32, 3) := by decide +kernel
theorem dX12_plainNumber_19 : decode cX12_plainNumber 19 = .ok (.bipush 10, 2) := by decide +kernel
theorem dX12_plainNumber_21 : decode cX12_plainNumber 21 = .ok (.iload_n 1, 1) := by decide +kernel
theorem dX12_plainNumber_22 : decode cX12_plainNumber 22 = .ok (.imul, 1) := by decide +kernel
theorem dX12_plainNumber_23 : decode cX12_plainNumber 23 = .ok (.aload_n 0, 1) := by decide +kernel
theorem dX12_plainNumber_24 : decode cX12_plainNumber 24 = .ok (.invokevirtual 125, 3) := by decide +kernel
theorem dX12_plainNumber_27 : decode cX12_plainNumber 27 = .ok (.iadd, 1) := by decide +kernel
theorem dX12_plainNumber_28 : decode cX12_plainNumber 28 = .ok (.bipush 48, 2) := by decide +kernel
theorem dX12_plainNumber_30 : decode cX12_plainNumber 30 = .ok (.isub, 1) := by decide +kernel
theorem dX12_plainNumber_31 : decode cX12_plainNumber 31 = .ok (.istore_n 1, 1) := by decide +kernel
theorem dX12_plainNumber_32 : decode cX12_plainNumber 32 = .ok (.aload_n 0, 1) := by decide +kernel
theorem dX12_plainNumber_33 : decode cX12_plainNumber 33 = .ok (.dup, 1) := by decide +kernel
theorem dX12_plainNumber_34 : decode cX12_plainNumber 34 = .ok (.getfield 122, 3) := by decide +kernel
theorem dX12_plainNumber_37 : decode cX12_plainNumber 37 = .ok (.iconst 1, 1) := by decide +kernel
theorem dX12_plainNumber_38 : decode cX12_plainNumber 38 = .ok (.iadd, 1) := by decide +kernel
theorem dX12_plainNumber_39 : decode cX12_plainNumber 39 = .ok (.putfield 122, 3) := by decide +kernel
theorem dX12_plainNumber_42 : decode cX12_plainNumber 42 = .ok (.iinc 2 1, 3) := by decide +kernel
theorem dX12_plainNumber_45 : decode cX12_plainNumber 45 = .ok (.goto (-41), 3) := by decide +kernel
theorem dX12_plainNumber_48 : decode cX12_plainNumber 48 = .ok (.aload_n 0, 1) := by decide +kernel
theorem dX12_plainNumber_49 : decode cX12_plainNumber 49 = .ok (.invokevirtual 125, 3) := by decide +kernel
theorem dX12_plainNumber_52 : decode cX12_plainNumber 52 = .ok (.invokestatic 144, 3) := by decide +kernel
theorem dX12_plainNumber_55 : decode cX12_plainNumber 55 = .ok (.ifCond .eq 7, 3) := by decide +kernel
theorem dX12_plainNumber_58 : decode cX12_plainNumber 58 = .ok (.aload_n 0, 1) := by decide +kernel
theorem dX12_plainNumber_59 : decode cX12_plainNumber 59 = .ok (.invokevirtual 138, 3) := by decide +kernel
theorem dX12_plainNumber_62 : decode cX12_plainNumber 62 = .ok (.iload_n 1, 1) := by decide +kernel
theorem dX12_plainNumber_63 : decode cX12_plainNumber 63 = .ok (.ireturn, 1) := by decide +kernel
set_option maxRecDepth 100000 in
theorem u_X12_plainNumber_4 {x : sm_Cx} {n : Nat} {F : Int32 → sm_MI → sm_ML → Prop} {T : List sm_Sh} {I : sm_MI} {L : sm_ML} {a1 : Int32} {a2 : Int32} (hB : sm_Bs T) (hx : sm_Ok x mX12_plainNumber (n + 1) (sm_KI T F))
    (h : (4 ≤ a2 → sm_CI n mX12_here T I L [.ref 76] (fun r2 I1 L1 => sm_CZ n mX12_isDigit T I1 L1 [.int r2] (fun r4 I3 L3 => (r4 = false → F a1 I3 L3) ∧ (r4 = true → sm_CV n mX12_bad T I3 L3 [.ref 76] (fun I5 L5 => F a1 I5 L5))))) ∧ (¬ 4 ≤ a2 → sm_CI n mX12_here T I L [.ref 76] (fun r7 I6 L6 => sm_CZ n mX12_isDigit T I6 L6 [.int r7] (fun r9 I8 L8 => (r9 = false → sm_CI n mX12_here T I8 L8 [.ref 76] (fun r11 I10 L10 => sm_CZ n mX12_isDigit T I10 L10 [.int r11] (fun r13 I12 L12 => (r13 = false → F a1 I12 L12) ∧ (r13 = true → sm_CV n mX12_bad T I12 L12 [.ref 76] (fun I14 L14 => F a1 I14 L14))))) ∧ (r9 = true → sm_CI n mX12_here T I8 L8 [.ref 76] (fun r16 I15 L15 => sm_V x 0 0 T (sm_uI I15 76 3 ((I15 76 3) + 1)) L15 4 [some (.ref 76), some (.int (((10 * a1) + r16) - 48)), some (.int (a2 + 1))] [])))))) :
    sm_V x 0 0 T I L 4 [some (.ref 76), some (.int a1), some (.int a2)] [] :=
  sm_iload_n (z := a2) hx dX12_plainNumber_4 rfl (sm_iconst (v := 4) hx dX12_plainNumber_5 sm_kc_4 (sm_icmpge (a := a2) (b := 4) hx dX12_plainNumber_6 (tgt := 48) (by decide) (fun q4 => sm_aload_n (z := 76) hx dX12_plainNumber_48 rfl (sm_callVI (args := []) (st := []) hx dX12_plainNumber_49 lv_X12_125_12 rfl rfl (t_76 hB) rfl rfl (h.1 q4) (fun r2 I1 L1 hI1 => sm_callSZ (args := [.int r2]) (st := []) hx dX12_plainNumber_52 ls_X12_144 rfl rfl rfl hI1 (fun r4 I3 L3 hI3 => sm_ifeqZ (b := r4) hx dX12_plainNumber_55 (tgt := 62) (by decide) (fun q1 => sm_iload_n (z := a1) hx dX12_plainNumber_62 rfl (sm_iretI hx dX12_plainNumber_63 rfl (hI3.1 q1))) (fun q1 => sm_aload_n (z := 76) hx dX12_plainNumber_58 rfl (sm_callVV (args := []) (st := []) hx dX12_plainNumber_59 lv_X12_138_12 rfl rfl (t_76 hB) rfl rfl (hI3.2 q1) (fun I5 L5 hI5 => sm_iload_n (z := a1) hx dX12_plainNumber_62 rfl (sm_iretI hx dX12_plainNumber_63 rfl hI5)))))))) (fun q4 => sm_aload_n (z := 76) hx dX12_plainNumber_9 rfl (sm_callVI (args := []) (st := []) hx dX12_plainNumber_10 lv_X12_125_12 rfl rfl (t_76 hB) rfl rfl (h.2 q4) (fun r7 I6 L6 hI6 => sm_callSZ (args := [.int r7]) (st := []) hx dX12_plainNumber_13 ls_X12_144 rfl rfl rfl hI6 (fun r9 I8 L8 hI8 => sm_ifeqZ (b := r9) hx dX12_plainNumber_16 (tgt := 48) (by decide) (fun q3 => sm_aload_n (z := 76) hx dX12_plainNumber_48 rfl (sm_callVI (args := []) (st := []) hx dX12_plainNumber_49 lv_X12_125_12 rfl rfl (t_76 hB) rfl rfl (hI8.1 q3) (fun r11 I10 L10 hI10 => sm_callSZ (args := [.int r11]) (st := []) hx dX12_plainNumber_52 ls_X12_144 rfl rfl rfl hI10 (fun r13 I12 L12 hI12 => sm_ifeqZ (b := r13) hx dX12_plainNumber_55 (tgt := 62) (by decide) (fun q2 => sm_iload_n (z := a1) hx dX12_plainNumber_62 rfl (sm_iretI hx dX12_plainNumber_63 rfl (hI12.1 q2))) (fun q2 => sm_aload_n (z := 76) hx dX12_plainNumber_58 rfl (sm_callVV (args := []) (st := []) hx dX12_plainNumber_59 lv_X12_138_12 rfl rfl (t_76 hB) rfl rfl (hI12.2 q2) (fun I14 L14 hI14 => sm_iload_n (z := a1) hx dX12_plainNumber_62 rfl (sm_iretI hx dX12_plainNumber_63 rfl hI14)))))))) (fun q3 => sm_bipush (v := 10) hx dX12_plainNumber_19 sm_kb_10 (sm_iload_n (z := a1) hx dX12_plainNumber_21 rfl (sm_imul (a := 10) (b := a1) hx dX12_plainNumber_22 (sm_aload_n (z := 76) hx dX12_plainNumber_23 rfl (sm_callVI (args := []) (st := [.int (10 * a1)]) hx dX12_plainNumber_24 lv_X12_125_12 rfl rfl (t_76 hB) rfl rfl (hI8.2 q3) (fun r16 I15 L15 hI15 => sm_iadd (a := (10 * a1)) (b := r16) hx dX12_plainNumber_27 (sm_bipush (v := 48) hx dX12_plainNumber_28 sm_kb_48 (sm_isub (a := ((10 * a1) + r16)) (b := 48) hx dX12_plainNumber_30 (sm_istore_n (ls' := [some (.ref 76), some (.int (((10 * a1) + r16) - 48)), some (.int a2)]) hx dX12_plainNumber_31 (by decide) rfl (sm_aload_n (z := 76) hx dX12_plainNumber_32 rfl (sm_dup hx dX12_plainNumber_33 rfl (sm_getI hx dX12_plainNumber_34 fl_X12_122_12 (t_76 hB) rfl (sm_iconst (v := 1) hx dX12_plainNumber_37 sm_kc_1 (sm_iadd (a := (I15 76 3)) (b := 1) hx dX12_plainNumber_38 (sm_putI hx dX12_plainNumber_39 fl_X12_122_12 (t_76 hB) rfl (sm_iinc (ls' := [some (.ref 76), some (.int (((10 * a1) + r16) - 48)), some (.int (a2 + 1))]) (z := a2) (v := (a2 + 1)) hx dX12_plainNumber_42 rfl (sm_kii_1 _) (by decide) rfl (sm_goto hx dX12_plainNumber_45 (tgt := 4) (by decide) (hI15))))))))))))))))))))))))
set_option maxRecDepth 100000 in
theorem c_X12_plainNumber {n : Nat} {F : Int32 → sm_MI → sm_ML → Prop} {T : List sm_Sh} {I : sm_MI} {L : sm_ML}  (hB : sm_Bs T)
    (h : ∀ x : sm_Cx, sm_Ok x mX12_plainNumber (n + 1) (sm_KI T F) → sm_V x 0 0 T I L 4 [some (.ref 76), some (.int 0), some (.int 0)] []) :
    sm_CI (n + 1) mX12_plainNumber T I L [.ref 76] F :=
  sm_CI.of (by decide +kernel) rfl (fun x hx => show sm_V x 0 0 T I L 0 [some (.ref 76), none, none] [] from
  sm_iconst (v := 0) hx dX12_plainNumber_0 sm_kc_0 (sm_istore_n (ls' := [some (.ref 76), some (.int 0), none]) hx dX12_plainNumber_1 (by decide) rfl (sm_iconst (v := 0) hx dX12_plainNumber_2 sm_kc_0 (sm_istore_n (ls' := [some (.ref 76), some (.int 0), some (.int 0)]) hx dX12_plainNumber_3 (by decide) rfl ((h x hx))))))
theorem dX12_atom_0 : decode cX12_atom 0 = .ok (.aload_n 0, 1) := by decide +kernel
theorem dX12_atom_1 : decode cX12_atom 1 = .ok (.invokevirtual 141, 3) := by decide +kernel
theorem dX12_atom_4 : decode cX12_atom 4 = .ok (.istore_n 1, 1) := by decide +kernel
theorem dX12_atom_5 : decode cX12_atom 5 = .ok (.iload_n 1, 1) := by decide +kernel
theorem dX12_atom_6 : decode cX12_atom 6 = .ok (.invokestatic 144, 3) := by decide +kernel
theorem dX12_atom_9 : decode cX12_atom 9 = .ok (.ifCond .eq 15, 3) := by decide +kernel
theorem dX12_atom_12 : decode cX12_atom 12 = .ok (.aload_n 0, 1) := by decide +kernel
theorem dX12_atom_13 : decode cX12_atom 13 = .ok (.iconst 0, 1) := by decide +kernel
theorem dX12_atom_14 : decode cX12_atom 14 = .ok (.aload_n 0, 1) := by decide +kernel
theorem dX12_atom_15 : decode cX12_atom 15 = .ok (.invokevirtual 148, 3) := by decide +kernel
theorem dX12_atom_18 : decode cX12_atom 18 = .ok (.invokevirtual 151, 3) := by decide +kernel
theorem dX12_atom_21 : decode cX12_atom 21 = .ok (.goto 68, 3) := by decide +kernel
theorem dX12_atom_24 : decode cX12_atom 24 = .ok (.iload_n 1, 1) := by decide +kernel
theorem dX12_atom_25 : decode cX12_atom 25 = .ok (.invokestatic 155, 3) := by decide +kernel
theorem dX12_atom_28 : decode cX12_atom 28 = .ok (.iconst (-1), 1) := by decide +kernel
theorem dX12_atom_29 : decode cX12_atom 29 = .ok (.if_icmp .eq 25, 3) := by decide +kernel
theorem dX12_atom_32 : decode cX12_atom 32 = .ok (.aload_n 0, 1) := by decide +kernel
theorem dX12_atom_33 : decode cX12_atom 33 = .ok (.dup, 1) := by decide +kernel
theorem dX12_atom_34 : decode cX12_atom 34 = .ok (.getfield 122, 3) := by decide +kernel
theorem dX12_atom_37 : decode cX12_atom 37 = .ok (.iconst 1, 1) := by decide +kernel
theorem dX12_atom_38 : decode cX12_atom 38 = .ok (.iadd, 1) := by decide +kernel
theorem dX12_atom_39 : decode cX12_atom 39 = .ok (.putfield 122, 3) := by decide +kernel
theorem dX12_atom_42 : decode cX12_atom 42 = .ok (.aload_n 0, 1) := by decide +kernel
theorem dX12_atom_43 : decode cX12_atom 43 = .ok (.iconst 1, 1) := by decide +kernel
theorem dX12_atom_44 : decode cX12_atom 44 = .ok (.iload_n 1, 1) := by decide +kernel
theorem dX12_atom_45 : decode cX12_atom 45 = .ok (.invokestatic 155, 3) := by decide +kernel
theorem dX12_atom_48 : decode cX12_atom 48 = .ok (.invokevirtual 151, 3) := by decide +kernel
theorem dX12_atom_51 : decode cX12_atom 51 = .ok (.goto 38, 3) := by decide +kernel
theorem dX12_atom_54 : decode cX12_atom 54 = .ok (.iload_n 1, 1) := by decide +kernel
theorem dX12_atom_55 : decode cX12_atom 55 = .ok (.bipush 91, 2) := by decide +kernel
theorem dX12_atom_57 : decode cX12_atom 57 = .ok (.if_icmp .ne 28, 3) := by decide +kernel
theorem dX12_atom_60 : decode cX12_atom 60 = .ok (.aload_n 0, 1) := by decide +kernel
theorem dX12_atom_61 : decode cX12_atom 61 = .ok (.invokevirtual 159, 3) := by decide +kernel
theorem dX12_atom_64 : decode cX12_atom 64 = .ok (.aload_n 0, 1) := by decide +kernel
theorem dX12_atom_65 : decode cX12_atom 65 = .ok (.getfield 129, 3) := by decide +kernel
theorem dX12_atom_68 : decode cX12_atom 68 = .ok (.iconst (-1), 1) := by decide +kernel
theorem dX12_atom_69 : decode cX12_atom 69 = .ok (.if_icmp .ne 20, 3) := by decide +kernel
theorem dX12_atom_72 : decode cX12_atom 72 = .ok (.aload_n 0, 1) := by decide +kernel
theorem dX12_atom_73 : decode cX12_atom 73 = .ok (.invokevirtual 162, 3) := by decide +kernel
theorem dX12_atom_76 : decode cX12_atom 76 = .ok (.aload_n 0, 1) := by decide +kernel
theorem dX12_atom_77 : decode cX12_atom 77 = .ok (.bipush 93, 2) := by decide +kernel
theorem dX12_atom_79 : decode cX12_atom 79 = .ok (.invokevirtual 165, 3) := by decide +kernel
theorem dX12_atom_82 : decode cX12_atom 82 = .ok (.goto 7, 3) := by decide +kernel
theorem dX12_atom_85 : decode cX12_atom 85 = .ok (.aload_n 0, 1) := by decide +kernel
theorem dX12_atom_86 : decode cX12_atom 86 = .ok (.invokevirtual 138, 3) := by decide +kernel
theorem dX12_atom_89 : decode cX12_atom 89 = .ok (.return_, 1) := by decide +kernel
set_option maxRecDepth 100000 in
theorem c_X12_atom {n : Nat} {F : sm_MI → sm_ML → Prop} {T : List sm_Sh} {I : sm_MI} {L : sm_ML}  (hB : sm_Bs T)
    (h : sm_CI n mX12_look T I L [.ref 76] (fun r2 I1 L1 => sm_CZ n mX12_isDigit T I1 L1 [.int r2] (fun r4 I3 L3 => (r4 = false → sm_CI n mX12_letterOf T I3 L3 [.int r2] (fun r6 I5 L5 => (r6 = (-1) → (¬ r2 = 91 → sm_CV n mX12_bad T I5 L5 [.ref 76] (fun I7 L7 => F I7 L7)) ∧ (r2 = 91 → sm_CV n mX12_opens T I5 L5 [.ref 76] (fun I8 L8 => (¬ (I8 76 4) = (-1) → F I8 L8) ∧ ((I8 76 4) = (-1) → sm_CV n mX12_sum T I8 L8 [.ref 76] (fun I9 L9 => sm_CV n mX12_closes T I9 L9 [.ref 76, .int 93] (fun I10 L10 => F I10 L10)))))) ∧ (¬ r6 = (-1) → sm_CI n mX12_letterOf T (sm_uI I5 76 3 ((I5 76 3) + 1)) L5 [.int r2] (fun r12 I11 L11 => sm_CV n mX12_note T I11 L11 [.ref 76, .int 1, .int r12] (fun I13 L13 => F I13 L13))))) ∧ (r4 = true → sm_CI n mX12_plainNumber T I3 L3 [.ref 76] (fun r15 I14 L14 => sm_CV n mX12_note T I14 L14 [.ref 76, .int 0, .int r15] (fun I16 L16 => F I16 L16)))))) :
    sm_CV (n + 1) mX12_atom T I L [.ref 76] F :=
  sm_CV.of (by decide +kernel) rfl (fun x hx => show sm_V x 0 0 T I L 0 [some (.ref 76), none] [] from
  sm_aload_n (z := 76) hx dX12_atom_0 rfl (sm_callVI (args := []) (st := []) hx dX12_atom_1 lv_X12_141_12 rfl rfl (t_76 hB) rfl rfl h (fun r2 I1 L1 hI1 => sm_istore_n (ls' := [some (.ref 76), some (.int r2)]) hx dX12_atom_4 (by decide) rfl (sm_iload_n (z := r2) hx dX12_atom_5 rfl (sm_callSZ (args := [.int r2]) (st := []) hx dX12_atom_6 ls_X12_144 rfl rfl rfl hI1 (fun r4 I3 L3 hI3 => sm_ifeqZ (b := r4) hx dX12_atom_9 (tgt := 24) (by decide) (fun q4 => sm_iload_n (z := r2) hx dX12_atom_24 rfl (sm_callSI (args := [.int r2]) (st := []) hx dX12_atom_25 ls_X12_155 rfl rfl rfl (hI3.1 q4) (fun r6 I5 L5 hI5 => sm_iconst (v := (-1)) hx dX12_atom_28 sm_kc_m1 (sm_icmpeq (a := r6) (b := (-1)) hx dX12_atom_29 (tgt := 54) (by decide) (fun q3 => sm_iload_n (z := r2) hx dX12_atom_54 rfl (sm_bipush (v := 91) hx dX12_atom_55 sm_kb_91 (sm_icmpne (a := r2) (b := 91) hx dX12_atom_57 (tgt := 85) (by decide) (fun q2 => sm_aload_n (z := 76) hx dX12_atom_85 rfl (sm_callVV (args := []) (st := []) hx dX12_atom_86 lv_X12_138_12 rfl rfl (t_76 hB) rfl rfl ((hI5.1 q3).1 q2) (fun I7 L7 hI7 => sm_vretV hx dX12_atom_89 rfl hI7))) (fun q2 => sm_aload_n (z := 76) hx dX12_atom_60 rfl (sm_callVV (args := []) (st := []) hx dX12_atom_61 lv_X12_159_12 rfl rfl (t_76 hB) rfl rfl ((hI5.1 q3).2 q2) (fun I8 L8 hI8 => sm_aload_n (z := 76) hx dX12_atom_64 rfl (sm_getI hx dX12_atom_65 fl_X12_129_12 (t_76 hB) rfl (sm_iconst (v := (-1)) hx dX12_atom_68 sm_kc_m1 (sm_icmpne (a := (I8 76 4)) (b := (-1)) hx dX12_atom_69 (tgt := 89) (by decide) (fun q1 => sm_vretV hx dX12_atom_89 rfl (hI8.1 q1)) (fun q1 => sm_aload_n (z := 76) hx dX12_atom_72 rfl (sm_callVV (args := []) (st := []) hx dX12_atom_73 lv_X12_162_12 rfl rfl (t_76 hB) rfl rfl (hI8.2 q1) (fun I9 L9 hI9 => sm_aload_n (z := 76) hx dX12_atom_76 rfl (sm_bipush (v := 93) hx dX12_atom_77 sm_kb_93 (sm_callVV (args := [.int 93]) (st := []) hx dX12_atom_79 lv_X12_165_12 rfl rfl (t_76 hB) rfl rfl hI9 (fun I10 L10 hI10 => sm_goto hx dX12_atom_82 (tgt := 89) (by decide) (sm_vretV hx dX12_atom_89 rfl hI10)))))))))))))))) (fun q3 => sm_aload_n (z := 76) hx dX12_atom_32 rfl (sm_dup hx dX12_atom_33 rfl (sm_getI hx dX12_atom_34 fl_X12_122_12 (t_76 hB) rfl (sm_iconst (v := 1) hx dX12_atom_37 sm_kc_1 (sm_iadd (a := (I5 76 3)) (b := 1) hx dX12_atom_38 (sm_putI hx dX12_atom_39 fl_X12_122_12 (t_76 hB) rfl (sm_aload_n (z := 76) hx dX12_atom_42 rfl (sm_iconst (v := 1) hx dX12_atom_43 sm_kc_1 (sm_iload_n (z := r2) hx dX12_atom_44 rfl (sm_callSI (args := [.int r2]) (st := [.int 1, .ref 76]) hx dX12_atom_45 ls_X12_155 rfl rfl rfl (hI5.2 q3) (fun r12 I11 L11 hI11 => sm_callVV (args := [.int 1, .int r12]) (st := []) hx dX12_atom_48 lv_X12_151_12 rfl rfl (t_76 hB) rfl rfl hI11 (fun I13 L13 hI13 => sm_goto hx dX12_atom_51 (tgt := 89) (by decide) (sm_vretV hx dX12_atom_89 rfl hI13))))))))))))))))) (fun q4 => sm_aload_n (z := 76) hx dX12_atom_12 rfl (sm_iconst (v := 0) hx dX12_atom_13 sm_kc_0 (sm_aload_n (z := 76) hx dX12_atom_14 rfl (sm_callVI (args := []) (st := [.int 0, .ref 76]) hx dX12_atom_15 lv_X12_148_12 rfl rfl (t_76 hB) rfl rfl (hI3.2 q4) (fun r15 I14 L14 hI14 => sm_callVV (args := [.int 0, .int r15]) (st := []) hx dX12_atom_18 lv_X12_151_12 rfl rfl (t_76 hB) rfl rfl hI14 (fun I16 L16 hI16 => sm_goto hx dX12_atom_21 (tgt := 89) (by decide) (sm_vretV hx dX12_atom_89 rfl hI16)))))))))))))
theorem dX12_term_0 : decode cX12_term 0 = .ok (.aload_n 0, 1) := by decide +kernel
theorem dX12_term_1 : decode cX12_term 1 = .ok (.invokevirtual 169, 3) := by decide +kernel
theorem dX12_term_4 : decode cX12_term 4 = .ok (.aload_n 0, 1) := by decide +kernel
theorem dX12_term_5 : decode cX12_term 5 = .ok (.getfield 129, 3) := by decide +kernel
theorem dX12_term_8 : decode cX12_term 8 = .ok (.iconst (-1), 1) := by decide +kernel
theorem dX12_term_9 : decode cX12_term 9 = .ok (.if_icmp .ne 10, 3) := by decide +kernel
theorem dX12_term_12 : decode cX12_term 12 = .ok (.aload_n 0, 1) := by decide +kernel
theorem dX12_term_13 : decode cX12_term 13 = .ok (.invokevirtual 141, 3) := by decide +kernel
theorem dX12_term_16 : decode cX12_term 16 = .ok (.goto 4, 3) := by decide +kernel
theorem dX12_term_19 : decode cX12_term 19 = .ok (.iconst (-1), 1) := by decide +kernel
theorem dX12_term_20 : decode cX12_term 20 = .ok (.istore_n 1, 1) := by decide +kernel
theorem dX12_term_21 : decode cX12_term 21 = .ok (.iload_n 1, 1) := by decide +kernel
theorem dX12_term_22 : decode cX12_term 22 = .ok (.bipush 42, 2) := by decide +kernel
theorem dX12_term_24 : decode cX12_term 24 = .ok (.if_icmp .eq 9, 3) := by decide +kernel
theorem dX12_term_27 : decode cX12_term 27 = .ok (.iload_n 1, 1) := by decide +kernel
theorem dX12_term_28 : decode cX12_term 28 = .ok (.bipush 47, 2) := by decide +kernel
theorem dX12_term_30 : decode cX12_term 30 = .ok (.if_icmp .ne 53, 3) := by decide +kernel
theorem dX12_term_33 : decode cX12_term 33 = .ok (.aload_n 0, 1) := by decide +kernel
theorem dX12_term_34 : decode cX12_term 34 = .ok (.dup, 1) := by decide +kernel
theorem dX12_term_35 : decode cX12_term 35 = .ok (.getfield 122, 3) := by decide +kernel
theorem dX12_term_38 : decode cX12_term 38 = .ok (.iconst 1, 1) := by decide +kernel
theorem dX12_term_39 : decode cX12_term 39 = .ok (.iadd, 1) := by decide +kernel
theorem dX12_term_40 : decode cX12_term 40 = .ok (.putfield 122, 3) := by decide +kernel
theorem dX12_term_43 : decode cX12_term 43 = .ok (.aload_n 0, 1) := by decide +kernel
theorem dX12_term_44 : decode cX12_term 44 = .ok (.invokevirtual 169, 3) := by decide +kernel
theorem dX12_term_47 : decode cX12_term 47 = .ok (.aload_n 0, 1) := by decide +kernel
theorem dX12_term_48 : decode cX12_term 48 = .ok (.iload_n 1, 1) := by decide +kernel
theorem dX12_term_49 : decode cX12_term 49 = .ok (.bipush 42, 2) := by decide +kernel
theorem dX12_term_51 : decode cX12_term 51 = .ok (.if_icmp .ne 7, 3) := by decide +kernel
theorem dX12_term_54 : decode cX12_term 54 = .ok (.iconst 4, 1) := by decide +kernel
theorem dX12_term_55 : decode cX12_term 55 = .ok (.goto 4, 3) := by decide +kernel
theorem dX12_term_58 : decode cX12_term 58 = .ok (.iconst 5, 1) := by decide +kernel
theorem dX12_term_59 : decode cX12_term 59 = .ok (.iconst 0, 1) := by decide +kernel
theorem dX12_term_60 : decode cX12_term 60 = .ok (.invokevirtual 151, 3) := by decide +kernel
theorem dX12_term_63 : decode cX12_term 63 = .ok (.aload_n 0, 1) := by decide +kernel
theorem dX12_term_64 : decode cX12_term 64 = .ok (.getfield 129, 3) := by decide +kernel
theorem dX12_term_67 : decode cX12_term 67 = .ok (.iconst (-1), 1) := by decide +kernel
theorem dX12_term_68 : decode cX12_term 68 = .ok (.if_icmp .ne 10, 3) := by decide +kernel
theorem dX12_term_71 : decode cX12_term 71 = .ok (.aload_n 0, 1) := by decide +kernel
theorem dX12_term_72 : decode cX12_term 72 = .ok (.invokevirtual 141, 3) := by decide +kernel
theorem dX12_term_75 : decode cX12_term 75 = .ok (.goto 4, 3) := by decide +kernel
theorem dX12_term_78 : decode cX12_term 78 = .ok (.iconst (-1), 1) := by decide +kernel
theorem dX12_term_79 : decode cX12_term 79 = .ok (.istore_n 1, 1) := by decide +kernel
theorem dX12_term_80 : decode cX12_term 80 = .ok (.goto (-59), 3) := by decide +kernel
theorem dX12_term_83 : decode cX12_term 83 = .ok (.return_, 1) := by decide +kernel
set_option maxRecDepth 100000 in
theorem u_X12_term_21 {x : sm_Cx} {n : Nat} {F : sm_MI → sm_ML → Prop} {T : List sm_Sh} {I : sm_MI} {L : sm_ML} {a1 : Int32} (hB : sm_Bs T) (hx : sm_Ok x mX12_term (n + 1) (sm_KV T F))
    (h : (a1 = 42 → sm_CV n mX12_atom T (sm_uI I 76 3 ((I 76 3) + 1)) L [.ref 76] (fun I1 L1 => (¬ a1 = 42 → sm_CV n mX12_note T I1 L1 [.ref 76, .int 5, .int 0] (fun I2 L2 => (¬ (I2 76 4) = (-1) → sm_V x 0 0 T I2 L2 21 [some (.ref 76), some (.int (-1))] []) ∧ ((I2 76 4) = (-1) → sm_CI n mX12_look T I2 L2 [.ref 76] (fun r4 I3 L3 => sm_V x 0 0 T I3 L3 21 [some (.ref 76), some (.int r4)] [])))) ∧ (a1 = 42 → sm_CV n mX12_note T I1 L1 [.ref 76, .int 4, .int 0] (fun I5 L5 => (¬ (I5 76 4) = (-1) → sm_V x 0 0 T I5 L5 21 [some (.ref 76), some (.int (-1))] []) ∧ ((I5 76 4) = (-1) → sm_CI n mX12_look T I5 L5 [.ref 76] (fun r7 I6 L6 => sm_V x 0 0 T I6 L6 21 [some (.ref 76), some (.int r7)] [])))))) ∧ (¬ a1 = 42 → (¬ a1 = 47 → F I L) ∧ (a1 = 47 → sm_CV n mX12_atom T (sm_uI I 76 3 ((I 76 3) + 1)) L [.ref 76] (fun I8 L8 => (¬ a1 = 42 → sm_CV n mX12_note T I8 L8 [.ref 76, .int 5, .int 0] (fun I9 L9 => (¬ (I9 76 4) = (-1) → sm_V x 0 0 T I9 L9 21 [some (.ref 76), some (.int (-1))] []) ∧ ((I9 76 4) = (-1) → sm_CI n mX12_look T I9 L9 [.ref 76] (fun r11 I10 L10 => sm_V x 0 0 T I10 L10 21 [some (.ref 76), some (.int r11)] [])))) ∧ (a1 = 42 → sm_CV n mX12_note T I8 L8 [.ref 76, .int 4, .int 0] (fun I12 L12 => (¬ (I12 76 4) = (-1) → sm_V x 0 0 T I12 L12 21 [some (.ref 76), some (.int (-1))] []) ∧ ((I12 76 4) = (-1) → sm_CI n mX12_look T I12 L12 [.ref 76] (fun r14 I13 L13 => sm_V x 0 0 T I13 L13 21 [some (.ref 76), some (.int r14)] [])))))))) :
    sm_V x 0 0 T I L 21 [some (.ref 76), some (.int a1)] [] :=
  sm_iload_n (z := a1) hx dX12_term_21 rfl (sm_bipush (v := 42) hx dX12_term_22 sm_kb_42 (sm_icmpeq (a := a1) (b := 42) hx dX12_term_24 (tgt := 33) (by decide) (fun q8 => sm_aload_n (z := 76) hx dX12_term_33 rfl (sm_dup hx dX12_term_34 rfl (sm_getI hx dX12_term_35 fl_X12_122_12 (t_76 hB) rfl (sm_iconst (v := 1) hx dX12_term_38 sm_kc_1 (sm_iadd (a := (I 76 3)) (b := 1) hx dX12_term_39 (sm_putI hx dX12_term_40 fl_X12_122_12 (t_76 hB) rfl (sm_aload_n (z := 76) hx dX12_term_43 rfl (sm_callVV (args := []) (st := []) hx dX12_term_44 lv_X12_169_12 rfl rfl (t_76 hB) rfl rfl (h.1 q8) (fun I1 L1 hI1 => sm_aload_n (z := 76) hx dX12_term_47 rfl (sm_iload_n (z := a1) hx dX12_term_48 rfl (sm_bipush (v := 42) hx dX12_term_49 sm_kb_42 (sm_icmpne (a := a1) (b := 42) hx dX12_term_51 (tgt := 58) (by decide) (fun q3 => sm_iconst (v := 5) hx dX12_term_58 sm_kc_5 (sm_iconst (v := 0) hx dX12_term_59 sm_kc_0 (sm_callVV (args := [.int 5, .int 0]) (st := []) hx dX12_term_60 lv_X12_151_12 rfl rfl (t_76 hB) rfl rfl (hI1.1 q3) (fun I2 L2 hI2 => sm_aload_n (z := 76) hx dX12_term_63 rfl (sm_getI hx dX12_term_64 fl_X12_129_12 (t_76 hB) rfl (sm_iconst (v := (-1)) hx dX12_term_67 sm_kc_m1 (sm_icmpne (a := (I2 76 4)) (b := (-1)) hx dX12_term_68 (tgt := 78) (by decide) (fun q1 => sm_iconst (v := (-1)) hx dX12_term_78 sm_kc_m1 (sm_istore_n (ls' := [some (.ref 76), some (.int (-1))]) hx dX12_term_79 (by decide) rfl (sm_goto hx dX12_term_80 (tgt := 21) (by decide) ((hI2.1 q1))))) (fun q1 => sm_aload_n (z := 76) hx dX12_term_71 rfl (sm_callVI (args := []) (st := []) hx dX12_term_72 lv_X12_141_12 rfl rfl (t_76 hB) rfl rfl (hI2.2 q1) (fun r4 I3 L3 hI3 => sm_goto hx dX12_term_75 (tgt := 79) (by decide) (sm_istore_n (ls' := [some (.ref 76), some (.int r4)]) hx dX12_term_79 (by decide) rfl (sm_goto hx dX12_term_80 (tgt := 21) (by decide) (hI3))))))))))))) (fun q3 => sm_iconst (v := 4) hx dX12_term_54 sm_kc_4 (sm_goto hx dX12_term_55 (tgt := 59) (by decide) (sm_iconst (v := 0) hx dX12_term_59 sm_kc_0 (sm_callVV (args := [.int 4, .int 0]) (st := []) hx dX12_term_60 lv_X12_151_12 rfl rfl (t_76 hB) rfl rfl (hI1.2 q3) (fun I5 L5 hI5 => sm_aload_n (z := 76) hx dX12_term_63 rfl (sm_getI hx dX12_term_64 fl_X12_129_12 (t_76 hB) rfl (sm_iconst (v := (-1)) hx dX12_term_67 sm_kc_m1 (sm_icmpne (a := (I5 76 4)) (b := (-1)) hx dX12_term_68 (tgt := 78) (by decide) (fun q2 => sm_iconst (v := (-1)) hx dX12_term_78 sm_kc_m1 (sm_istore_n (ls' := [some (.ref 76), some (.int (-1))]) hx dX12_term_79 (by decide) rfl (sm_goto hx dX12_term_80 (tgt := 21) (by decide) ((hI5.1 q2))))) (fun q2 => sm_aload_n (z := 76) hx dX12_term_71 rfl (sm_callVI (args := []) (st := []) hx dX12_term_72 lv_X12_141_12 rfl rfl (t_76 hB) rfl rfl (hI5.2 q2) (fun r7 I6 L6 hI6 => sm_goto hx dX12_term_75 (tgt := 79) (by decide) (sm_istore_n (ls' := [some (.ref 76), some (.int r7)]) hx dX12_term_79 (by decide) rfl (sm_goto hx dX12_term_80 (tgt := 21) (by decide) (hI6)))))))))))))))))))))))))) (fun q8 => sm_iload_n (z := a1) hx dX12_term_27 rfl (sm_bipush (v := 47) hx dX12_term_28 sm_kb_47 (sm_icmpne (a := a1) (b := 47) hx dX12_term_30 (tgt := 83) (by decide) (fun q7 => sm_vretV hx dX12_term_83 rfl ((h.2 q8).1 q7)) (fun q7 => sm_aload_n (z := 76) hx dX12_term_33 rfl (sm_dup hx dX12_term_34 rfl (sm_getI hx dX12_term_35 fl_X12_122_12 (t_76 hB) rfl (sm_iconst (v := 1) hx dX12_term_38 sm_kc_1 (sm_iadd (a := (I 76 3)) (b := 1) hx dX12_term_39 (sm_putI hx dX12_term_40 fl_X12_122_12 (t_76 hB) rfl (sm_aload_n (z := 76) hx dX12_term_43 rfl (sm_callVV (args := []) (st := []) hx dX12_term_44 lv_X12_169_12 rfl rfl (t_76 hB) rfl rfl ((h.2 q8).2 q7) (fun I8 L8 hI8 => sm_aload_n (z := 76) hx dX12_term_47 rfl (sm_iload_n (z := a1) hx dX12_term_48 rfl (sm_bipush (v := 42) hx dX12_term_49 sm_kb_42 (sm_icmpne (a := a1) (b := 42) hx dX12_term_51 (tgt := 58) (by decide) (fun q6 => sm_iconst (v := 5) hx dX12_term_58 sm_kc_5 (sm_iconst (v := 0) hx dX12_term_59 sm_kc_0 (sm_callVV (args := [.int 5, .int 0]) (st := []) hx dX12_term_60 lv_X12_151_12 rfl rfl (t_76 hB) rfl rfl (hI8.1 q6) (fun I9 L9 hI9 => sm_aload_n (z := 76) hx dX12_term_63 rfl (sm_getI hx dX12_term_64 fl_X12_129_12 (t_76 hB) rfl (sm_iconst (v := (-1)) hx dX12_term_67 sm_kc_m1 (sm_icmpne (a := (I9 76 4)) (b := (-1)) hx dX12_term_68 (tgt := 78) (by decide) (fun q4 => sm_iconst (v := (-1)) hx dX12_term_78 sm_kc_m1 (sm_istore_n (ls' := [some (.ref 76), some (.int (-1))]) hx dX12_term_79 (by decide) rfl (sm_goto hx dX12_term_80 (tgt := 21) (by decide) ((hI9.1 q4))))) (fun q4 => sm_aload_n (z := 76) hx dX12_term_71 rfl (sm_callVI (args := []) (st := []) hx dX12_term_72 lv_X12_141_12 rfl rfl (t_76 hB) rfl rfl (hI9.2 q4) (fun r11 I10 L10 hI10 => sm_goto hx dX12_term_75 (tgt := 79) (by decide) (sm_istore_n (ls' := [some (.ref 76), some (.int r11)]) hx dX12_term_79 (by decide) rfl (sm_goto hx dX12_term_80 (tgt := 21) (by decide) (hI10))))))))))))) (fun q6 => sm_iconst (v := 4) hx dX12_term_54 sm_kc_4 (sm_goto hx dX12_term_55 (tgt := 59) (by decide) (sm_iconst (v := 0) hx dX12_term_59 sm_kc_0 (sm_callVV (args := [.int 4, .int 0]) (st := []) hx dX12_term_60 lv_X12_151_12 rfl rfl (t_76 hB) rfl rfl (hI8.2 q6) (fun I12 L12 hI12 => sm_aload_n (z := 76) hx dX12_term_63 rfl (sm_getI hx dX12_term_64 fl_X12_129_12 (t_76 hB) rfl (sm_iconst (v := (-1)) hx dX12_term_67 sm_kc_m1 (sm_icmpne (a := (I12 76 4)) (b := (-1)) hx dX12_term_68 (tgt := 78) (by decide) (fun q5 => sm_iconst (v := (-1)) hx dX12_term_78 sm_kc_m1 (sm_istore_n (ls' := [some (.ref 76), some (.int (-1))]) hx dX12_term_79 (by decide) rfl (sm_goto hx dX12_term_80 (tgt := 21) (by decide) ((hI12.1 q5))))) (fun q5 => sm_aload_n (z := 76) hx dX12_term_71 rfl (sm_callVI (args := []) (st := []) hx dX12_term_72 lv_X12_141_12 rfl rfl (t_76 hB) rfl rfl (hI12.2 q5) (fun r14 I13 L13 hI13 => sm_goto hx dX12_term_75 (tgt := 79) (by decide) (sm_istore_n (ls' := [some (.ref 76), some (.int r14)]) hx dX12_term_79 (by decide) rfl (sm_goto hx dX12_term_80 (tgt := 21) (by decide) (hI13)))))))))))))))))))))))))))))))
set_option maxRecDepth 100000 in
theorem c_X12_term {n : Nat} {F : sm_MI → sm_ML → Prop} {T : List sm_Sh} {I : sm_MI} {L : sm_ML}  (hB : sm_Bs T)
    (h : ∀ x : sm_Cx, sm_Ok x mX12_term (n + 1) (sm_KV T F) → sm_CV n mX12_atom T I L [.ref 76] (fun I1 L1 => (¬ (I1 76 4) = (-1) → sm_V x 0 0 T I1 L1 21 [some (.ref 76), some (.int (-1))] []) ∧ ((I1 76 4) = (-1) → sm_CI n mX12_look T I1 L1 [.ref 76] (fun r3 I2 L2 => sm_V x 0 0 T I2 L2 21 [some (.ref 76), some (.int r3)] [])))) :
    sm_CV (n + 1) mX12_term T I L [.ref 76] F :=
  sm_CV.of (by decide +kernel) rfl (fun x hx => show sm_V x 0 0 T I L 0 [some (.ref 76), none] [] from
  sm_aload_n (z := 76) hx dX12_term_0 rfl (sm_callVV (args := []) (st := []) hx dX12_term_1 lv_X12_169_12 rfl rfl (t_76 hB) rfl rfl (h x hx) (fun I1 L1 hI1 => sm_aload_n (z := 76) hx dX12_term_4 rfl (sm_getI hx dX12_term_5 fl_X12_129_12 (t_76 hB) rfl (sm_iconst (v := (-1)) hx dX12_term_8 sm_kc_m1 (sm_icmpne (a := (I1 76 4)) (b := (-1)) hx dX12_term_9 (tgt := 19) (by decide) (fun q9 => sm_iconst (v := (-1)) hx dX12_term_19 sm_kc_m1 (sm_istore_n (ls' := [some (.ref 76), some (.int (-1))]) hx dX12_term_20 (by decide) rfl ((hI1.1 q9)))) (fun q9 => sm_aload_n (z := 76) hx dX12_term_12 rfl (sm_callVI (args := []) (st := []) hx dX12_term_13 lv_X12_141_12 rfl rfl (t_76 hB) rfl rfl (hI1.2 q9) (fun r3 I2 L2 hI2 => sm_goto hx dX12_term_16 (tgt := 20) (by decide) (sm_istore_n (ls' := [some (.ref 76), some (.int r3)]) hx dX12_term_20 (by decide) rfl (hI2)))))))))))
theorem dX12_sum_0 : decode cX12_sum 0 = .ok (.aload_n 0, 1) := by decide +kernel
theorem dX12_sum_1 : decode cX12_sum 1 = .ok (.invokevirtual 172, 3) := by decide +kernel
theorem dX12_sum_4 : decode cX12_sum 4 = .ok (.aload_n 0, 1) := by decide +kernel
theorem dX12_sum_5 : decode cX12_sum 5 = .ok (.getfield 129, 3) := by decide +kernel
theorem dX12_sum_8 : decode cX12_sum 8 = .ok (.iconst (-1), 1) := by decide +kernel
theorem dX12_sum_9 : decode cX12_sum 9 = .ok (.if_icmp .ne 10, 3) := by decide +kernel
theorem dX12_sum_12 : decode cX12_sum 12 = .ok (.aload_n 0, 1) := by decide +kernel
theorem dX12_sum_13 : decode cX12_sum 13 = .ok (.invokevirtual 141, 3) := by decide +kernel
theorem dX12_sum_16 : decode cX12_sum 16 = .ok (.goto 4, 3) := by decide +kernel
theorem dX12_sum_19 : decode cX12_sum 19 = .ok (.iconst (-1), 1) := by decide +kernel
theorem dX12_sum_20 : decode cX12_sum 20 = .ok (.istore_n 1, 1) := by decide +kernel
theorem dX12_sum_21 : decode cX12_sum 21 = .ok (.iload_n 1, 1) := by decide +kernel
theorem dX12_sum_22 : decode cX12_sum 22 = .ok (.bipush 43, 2) := by decide +kernel
theorem dX12_sum_24 : decode cX12_sum 24 = .ok (.if_icmp .eq 9, 3) := by decide +kernel
theorem dX12_sum_27 : decode cX12_sum 27 = .ok (.iload_n 1, 1) := by decide +kernel
theorem dX12_sum_28 : decode cX12_sum 28 = .ok (.bipush 45, 2) := by decide +kernel
theorem dX12_sum_30 : decode cX12_sum 30 = .ok (.if_icmp .ne 53, 3) := by decide +kernel
theorem dX12_sum_33 : decode cX12_sum 33 = .ok (.aload_n 0, 1) := by decide +kernel
theorem dX12_sum_34 : decode cX12_sum 34 = .ok (.dup, 1) := by decide +kernel
theorem dX12_sum_35 : decode cX12_sum 35 = .ok (.getfield 122, 3) := by decide +kernel
theorem dX12_sum_38 : decode cX12_sum 38 = .ok (.iconst 1, 1) := by decide +kernel
theorem dX12_sum_39 : decode cX12_sum 39 = .ok (.iadd, 1) := by decide +kernel
theorem dX12_sum_40 : decode cX12_sum 40 = .ok (.putfield 122, 3) := by decide +kernel
theorem dX12_sum_43 : decode cX12_sum 43 = .ok (.aload_n 0, 1) := by decide +kernel
theorem dX12_sum_44 : decode cX12_sum 44 = .ok (.invokevirtual 172, 3) := by decide +kernel
theorem dX12_sum_47 : decode cX12_sum 47 = .ok (.aload_n 0, 1) := by decide +kernel
theorem dX12_sum_48 : decode cX12_sum 48 = .ok (.iload_n 1, 1) := by decide +kernel
theorem dX12_sum_49 : decode cX12_sum 49 = .ok (.bipush 43, 2) := by decide +kernel
theorem dX12_sum_51 : decode cX12_sum 51 = .ok (.if_icmp .ne 7, 3) := by decide +kernel
theorem dX12_sum_54 : decode cX12_sum 54 = .ok (.iconst 2, 1) := by decide +kernel
theorem dX12_sum_55 : decode cX12_sum 55 = .ok (.goto 4, 3) := by decide +kernel
theorem dX12_sum_58 : decode cX12_sum 58 = .ok (.iconst 3, 1) := by decide +kernel
theorem dX12_sum_59 : decode cX12_sum 59 = .ok (.iconst 0, 1) := by decide +kernel
theorem dX12_sum_60 : decode cX12_sum 60 = .ok (.invokevirtual 151, 3) := by decide +kernel
theorem dX12_sum_63 : decode cX12_sum 63 = .ok (.aload_n 0, 1) := by decide +kernel
theorem dX12_sum_64 : decode cX12_sum 64 = .ok (.getfield 129, 3) := by decide +kernel
theorem dX12_sum_67 : decode cX12_sum 67 = .ok (.iconst (-1), 1) := by decide +kernel
theorem dX12_sum_68 : decode cX12_sum 68 = .ok (.if_icmp .ne 10, 3) := by decide +kernel
theorem dX12_sum_71 : decode cX12_sum 71 = .ok (.aload_n 0, 1) := by decide +kernel
theorem dX12_sum_72 : decode cX12_sum 72 = .ok (.invokevirtual 141, 3) := by decide +kernel
theorem dX12_sum_75 : decode cX12_sum 75 = .ok (.goto 4, 3) := by decide +kernel
theorem dX12_sum_78 : decode cX12_sum 78 = .ok (.iconst (-1), 1) := by decide +kernel
theorem dX12_sum_79 : decode cX12_sum 79 = .ok (.istore_n 1, 1) := by decide +kernel
theorem dX12_sum_80 : decode cX12_sum 80 = .ok (.goto (-59), 3) := by decide +kernel
theorem dX12_sum_83 : decode cX12_sum 83 = .ok (.return_, 1) := by decide +kernel
set_option maxRecDepth 100000 in
theorem u_X12_sum_21 {x : sm_Cx} {n : Nat} {F : sm_MI → sm_ML → Prop} {T : List sm_Sh} {I : sm_MI} {L : sm_ML} {a1 : Int32} (hB : sm_Bs T) (hx : sm_Ok x mX12_sum (n + 1) (sm_KV T F))
    (h : (a1 = 43 → sm_CV n mX12_term T (sm_uI I 76 3 ((I 76 3) + 1)) L [.ref 76] (fun I1 L1 => (¬ a1 = 43 → sm_CV n mX12_note T I1 L1 [.ref 76, .int 3, .int 0] (fun I2 L2 => (¬ (I2 76 4) = (-1) → sm_V x 0 0 T I2 L2 21 [some (.ref 76), some (.int (-1))] []) ∧ ((I2 76 4) = (-1) → sm_CI n mX12_look T I2 L2 [.ref 76] (fun r4 I3 L3 => sm_V x 0 0 T I3 L3 21 [some (.ref 76), some (.int r4)] [])))) ∧ (a1 = 43 → sm_CV n mX12_note T I1 L1 [.ref 76, .int 2, .int 0] (fun I5 L5 => (¬ (I5 76 4) = (-1) → sm_V x 0 0 T I5 L5 21 [some (.ref 76), some (.int (-1))] []) ∧ ((I5 76 4) = (-1) → sm_CI n mX12_look T I5 L5 [.ref 76] (fun r7 I6 L6 => sm_V x 0 0 T I6 L6 21 [some (.ref 76), some (.int r7)] [])))))) ∧ (¬ a1 = 43 → (¬ a1 = 45 → F I L) ∧ (a1 = 45 → sm_CV n mX12_term T (sm_uI I 76 3 ((I 76 3) + 1)) L [.ref 76] (fun I8 L8 => (¬ a1 = 43 → sm_CV n mX12_note T I8 L8 [.ref 76, .int 3, .int 0] (fun I9 L9 => (¬ (I9 76 4) = (-1) → sm_V x 0 0 T I9 L9 21 [some (.ref 76), some (.int (-1))] []) ∧ ((I9 76 4) = (-1) → sm_CI n mX12_look T I9 L9 [.ref 76] (fun r11 I10 L10 => sm_V x 0 0 T I10 L10 21 [some (.ref 76), some (.int r11)] [])))) ∧ (a1 = 43 → sm_CV n mX12_note T I8 L8 [.ref 76, .int 2, .int 0] (fun I12 L12 => (¬ (I12 76 4) = (-1) → sm_V x 0 0 T I12 L12 21 [some (.ref 76), some (.int (-1))] []) ∧ ((I12 76 4) = (-1) → sm_CI n mX12_look T I12 L12 [.ref 76] (fun r14 I13 L13 => sm_V x 0 0 T I13 L13 21 [some (.ref 76), some (.int r14)] [])))))))) :
    sm_V x 0 0 T I L 21 [some (.ref 76), some (.int a1)] [] :=
  sm_iload_n (z := a1) hx dX12_sum_21 rfl (sm_bipush (v := 43) hx dX12_sum_22 sm_kb_43 (sm_icmpeq (a := a1) (b := 43) hx dX12_sum_24 (tgt := 33) (by decide) (fun q8 => sm_aload_n (z := 76) hx dX12_sum_33 rfl (sm_dup hx dX12_sum_34 rfl (sm_getI hx dX12_sum_35 fl_X12_122_12 (t_76 hB) rfl (sm_iconst (v := 1) hx dX12_sum_38 sm_kc_1 (sm_iadd (a := (I 76 3)) (b := 1) hx dX12_sum_39 (sm_putI hx dX12_sum_40 fl_X12_122_12 (t_76 hB) rfl (sm_aload_n (z := 76) hx dX12_sum_43 rfl (sm_callVV (args := []) (st := []) hx dX12_sum_44 lv_X12_172_12 rfl rfl (t_76 hB) rfl rfl (h.1 q8) (fun I1 L1 hI1 => sm_aload_n (z := 76) hx dX12_sum_47 rfl (sm_iload_n (z := a1) hx dX12_sum_48 rfl (sm_bipush (v := 43) hx dX12_sum_49 sm_kb_43 (sm_icmpne (a := a1) (b := 43) hx dX12_sum_51 (tgt := 58) (by decide) (fun q3 => sm_iconst (v := 3) hx dX12_sum_58 sm_kc_3 (sm_iconst (v := 0) hx dX12_sum_59 sm_kc_0 (sm_callVV (args := [.int 3, .int 0]) (st := []) hx dX12_sum_60 lv_X12_151_12 rfl rfl (t_76 hB) rfl rfl (hI1.1 q3) (fun I2 L2 hI2 => sm_aload_n (z := 76) hx dX12_sum_63 rfl (sm_getI hx dX12_sum_64 fl_X12_129_12 (t_76 hB) rfl (sm_iconst (v := (-1)) hx dX12_sum_67 sm_kc_m1 (sm_icmpne (a := (I2 76 4)) (b := (-1)) hx dX12_sum_68 (tgt := 78) (by decide) (fun q1 => sm_iconst (v := (-1)) hx dX12_sum_78 sm_kc_m1 (sm_istore_n (ls' := [some (.ref 76), some (.int (-1))]) hx dX12_sum_79 (by decide) rfl (sm_goto hx dX12_sum_80 (tgt := 21) (by decide) ((hI2.1 q1))))) (fun q1 => sm_aload_n (z := 76) hx dX12_sum_71 rfl (sm_callVI (args := []) (st := []) hx dX12_sum_72 lv_X12_141_12 rfl rfl (t_76 hB) rfl rfl (hI2.2 q1) (fun r4 I3 L3 hI3 => sm_goto hx dX12_sum_75 (tgt := 79) (by decide) (sm_istore_n (ls' := [some (.ref 76), some (.int r4)]) hx dX12_sum_79 (by decide) rfl (sm_goto hx dX12_sum_80 (tgt := 21) (by decide) (hI3))))))))))))) (fun q3 => sm_iconst (v := 2) hx dX12_sum_54 sm_kc_2 (sm_goto hx dX12_sum_55 (tgt := 59) (by decide) (sm_iconst (v := 0) hx dX12_sum_59 sm_kc_0 (sm_callVV (args := [.int 2, .int 0]) (st := []) hx dX12_sum_60 lv_X12_151_12 rfl rfl (t_76 hB) rfl rfl (hI1.2 q3) (fun I5 L5 hI5 => sm_aload_n (z := 76) hx dX12_sum_63 rfl (sm_getI hx dX12_sum_64 fl_X12_129_12 (t_76 hB) rfl (sm_iconst (v := (-1)) hx dX12_sum_67 sm_kc_m1 (sm_icmpne (a := (I5 76 4)) (b := (-1)) hx dX12_sum_68 (tgt := 78) (by decide) (fun q2 => sm_iconst (v := (-1)) hx dX12_sum_78 sm_kc_m1 (sm_istore_n (ls' := [some (.ref 76), some (.int (-1))]) hx dX12_sum_79 (by decide) rfl (sm_goto hx dX12_sum_80 (tgt := 21) (by decide) ((hI5.1 q2))))) (fun q2 => sm_aload_n (z := 76) hx dX12_sum_71 rfl (sm_callVI (args := []) (st := []) hx dX12_sum_72 lv_X12_141_12 rfl rfl (t_76 hB) rfl rfl (hI5.2 q2) (fun r7 I6 L6 hI6 => sm_goto hx dX12_sum_75 (tgt := 79) (by decide) (sm_istore_n (ls' := [some (.ref 76), some (.int r7)]) hx dX12_sum_79 (by decide) rfl (sm_goto hx dX12_sum_80 (tgt := 21) (by decide) (hI6)))))))))))))))))))))))))) (fun q8 => sm_iload_n (z := a1) hx dX12_sum_27 rfl (sm_bipush (v := 45) hx dX12_sum_28 sm_kb_45 (sm_icmpne (a := a1) (b := 45) hx dX12_sum_30 (tgt := 83) (by decide) (fun q7 => sm_vretV hx dX12_sum_83 rfl ((h.2 q8).1 q7)) (fun q7 => sm_aload_n (z := 76) hx dX12_sum_33 rfl (sm_dup hx dX12_sum_34 rfl (sm_getI hx dX12_sum_35 fl_X12_122_12 (t_76 hB) rfl (sm_iconst (v := 1) hx dX12_sum_38 sm_kc_1 (sm_iadd (a := (I 76 3)) (b := 1) hx dX12_sum_39 (sm_putI hx dX12_sum_40 fl_X12_122_12 (t_76 hB) rfl (sm_aload_n (z := 76) hx dX12_sum_43 rfl (sm_callVV (args := []) (st := []) hx dX12_sum_44 lv_X12_172_12 rfl rfl (t_76 hB) rfl rfl ((h.2 q8).2 q7) (fun I8 L8 hI8 => sm_aload_n (z := 76) hx dX12_sum_47 rfl (sm_iload_n (z := a1) hx dX12_sum_48 rfl (sm_bipush (v := 43) hx dX12_sum_49 sm_kb_43 (sm_icmpne (a := a1) (b := 43) hx dX12_sum_51 (tgt := 58) (by decide) (fun q6 => sm_iconst (v := 3) hx dX12_sum_58 sm_kc_3 (sm_iconst (v := 0) hx dX12_sum_59 sm_kc_0 (sm_callVV (args := [.int 3, .int 0]) (st := []) hx dX12_sum_60 lv_X12_151_12 rfl rfl (t_76 hB) rfl rfl (hI8.1 q6) (fun I9 L9 hI9 => sm_aload_n (z := 76) hx dX12_sum_63 rfl (sm_getI hx dX12_sum_64 fl_X12_129_12 (t_76 hB) rfl (sm_iconst (v := (-1)) hx dX12_sum_67 sm_kc_m1 (sm_icmpne (a := (I9 76 4)) (b := (-1)) hx dX12_sum_68 (tgt := 78) (by decide) (fun q4 => sm_iconst (v := (-1)) hx dX12_sum_78 sm_kc_m1 (sm_istore_n (ls' := [some (.ref 76), some (.int (-1))]) hx dX12_sum_79 (by decide) rfl (sm_goto hx dX12_sum_80 (tgt := 21) (by decide) ((hI9.1 q4))))) (fun q4 => sm_aload_n (z := 76) hx dX12_sum_71 rfl (sm_callVI (args := []) (st := []) hx dX12_sum_72 lv_X12_141_12 rfl rfl (t_76 hB) rfl rfl (hI9.2 q4) (fun r11 I10 L10 hI10 => sm_goto hx dX12_sum_75 (tgt := 79) (by decide) (sm_istore_n (ls' := [some (.ref 76), some (.int r11)]) hx dX12_sum_79 (by decide) rfl (sm_goto hx dX12_sum_80 (tgt := 21) (by decide) (hI10))))))))))))) (fun q6 => sm_iconst (v := 2) hx dX12_sum_54 sm_kc_2 (sm_goto hx dX12_sum_55 (tgt := 59) (by decide) (sm_iconst (v := 0) hx dX12_sum_59 sm_kc_0 (sm_callVV (args := [.int 2, .int 0]) (st := []) hx dX12_sum_60 lv_X12_151_12 rfl rfl (t_76 hB) rfl rfl (hI8.2 q6) (fun I12 L12 hI12 => sm_aload_n (z := 76) hx dX12_sum_63 rfl (sm_getI hx dX12_sum_64 fl_X12_129_12 (t_76 hB) rfl (sm_iconst (v := (-1)) hx dX12_sum_67 sm_kc_m1 (sm_icmpne (a := (I12 76 4)) (b := (-1)) hx dX12_sum_68 (tgt := 78) (by decide) (fun q5 => sm_iconst (v := (-1)) hx dX12_sum_78 sm_kc_m1 (sm_istore_n (ls' := [some (.ref 76), some (.int (-1))]) hx dX12_sum_79 (by decide) rfl (sm_goto hx dX12_sum_80 (tgt := 21) (by decide) ((hI12.1 q5))))) (fun q5 => sm_aload_n (z := 76) hx dX12_sum_71 rfl (sm_callVI (args := []) (st := []) hx dX12_sum_72 lv_X12_141_12 rfl rfl (t_76 hB) rfl rfl (hI12.2 q5) (fun r14 I13 L13 hI13 => sm_goto hx dX12_sum_75 (tgt := 79) (by decide) (sm_istore_n (ls' := [some (.ref 76), some (.int r14)]) hx dX12_sum_79 (by decide) rfl (sm_goto hx dX12_sum_80 (tgt := 21) (by decide) (hI13)))))))))))))))))))))))))))))))
set_option maxRecDepth 100000 in
theorem c_X12_sum {n : Nat} {F : sm_MI → sm_ML → Prop} {T : List sm_Sh} {I : sm_MI} {L : sm_ML}  (hB : sm_Bs T)
    (h : ∀ x : sm_Cx, sm_Ok x mX12_sum (n + 1) (sm_KV T F) → sm_CV n mX12_term T I L [.ref 76] (fun I1 L1 => (¬ (I1 76 4) = (-1) → sm_V x 0 0 T I1 L1 21 [some (.ref 76), some (.int (-1))] []) ∧ ((I1 76 4) = (-1) → sm_CI n mX12_look T I1 L1 [.ref 76] (fun r3 I2 L2 => sm_V x 0 0 T I2 L2 21 [some (.ref 76), some (.int r3)] [])))) :
    sm_CV (n + 1) mX12_sum T I L [.ref 76] F :=
  sm_CV.of (by decide +kernel) rfl (fun x hx => show sm_V x 0 0 T I L 0 [some (.ref 76), none] [] from
  sm_aload_n (z := 76) hx dX12_sum_0 rfl (sm_callVV (args := []) (st := []) hx dX12_sum_1 lv_X12_172_12 rfl rfl (t_76 hB) rfl rfl (h x hx) (fun I1 L1 hI1 => sm_aload_n (z := 76) hx dX12_sum_4 rfl (sm_getI hx dX12_sum_5 fl_X12_129_12 (t_76 hB) rfl (sm_iconst (v := (-1)) hx dX12_sum_8 sm_kc_m1 (sm_icmpne (a := (I1 76 4)) (b := (-1)) hx dX12_sum_9 (tgt := 19) (by decide) (fun q9 => sm_iconst (v := (-1)) hx dX12_sum_19 sm_kc_m1 (sm_istore_n (ls' := [some (.ref 76), some (.int (-1))]) hx dX12_sum_20 (by decide) rfl ((hI1.1 q9)))) (fun q9 => sm_aload_n (z := 76) hx dX12_sum_12 rfl (sm_callVI (args := []) (st := []) hx dX12_sum_13 lv_X12_141_12 rfl rfl (t_76 hB) rfl rfl (hI1.2 q9) (fun r3 I2 L2 hI2 => sm_goto hx dX12_sum_16 (tgt := 20) (by decide) (sm_istore_n (ls' := [some (.ref 76), some (.int r3)]) hx dX12_sum_20 (by decide) rfl (hI2)))))))))))
theorem dX12_isSign_0 : decode cX12_isSign 0 = .ok (.iload_n 0, 1) := by decide +kernel
theorem dX12_isSign_1 : decode cX12_isSign 1 = .ok (.bipush 61, 2) := by decide +kernel
theorem dX12_isSign_3 : decode cX12_isSign 3 = .ok (.if_icmp .eq 15, 3) := by decide +kernel
theorem dX12_isSign_6 : decode cX12_isSign 6 = .ok (.iload_n 0, 1) := by decide +kernel
theorem dX12_isSign_7 : decode cX12_isSign 7 = .ok (.bipush 60, 2) := by decide +kernel
theorem dX12_isSign_9 : decode cX12_isSign 9 = .ok (.if_icmp .eq 9, 3) := by decide +kernel
theorem dX12_isSign_12 : decode cX12_isSign 12 = .ok (.iload_n 0, 1) := by decide +kernel
theorem dX12_isSign_13 : decode cX12_isSign 13 = .ok (.bipush 62, 2) := by decide +kernel
theorem dX12_isSign_15 : decode cX12_isSign 15 = .ok (.if_icmp .ne 7, 3) := by decide +kernel
theorem dX12_isSign_18 : decode cX12_isSign 18 = .ok (.iconst 1, 1) := by decide +kernel
theorem dX12_isSign_19 : decode cX12_isSign 19 = .ok (.goto 4, 3) := by decide +kernel
theorem dX12_isSign_22 : decode cX12_isSign 22 = .ok (.iconst 0, 1) := by decide +kernel
theorem dX12_isSign_23 : decode cX12_isSign 23 = .ok (.ireturn, 1) := by decide +kernel
set_option maxRecDepth 100000 in
theorem c_X12_isSign {n : Nat} {F : Bool → sm_MI → sm_ML → Prop} {T : List sm_Sh} {I : sm_MI} {L : sm_ML} {a0 : Int32} (hB : sm_Bs T)
    (h : (a0 = 61 → F true I L) ∧ (¬ a0 = 61 → (a0 = 60 → F true I L) ∧ (¬ a0 = 60 → (¬ a0 = 62 → F false I L) ∧ (a0 = 62 → F true I L)))) :
    sm_CZ n mX12_isSign T I L [.int a0] F :=
  sm_CZ.of (by decide +kernel) rfl (fun x hx => show sm_V x 0 0 T I L 0 [some (.int a0)] [] from
  sm_iload_n (z := a0) hx dX12_isSign_0 rfl (sm_bipush (v := 61) hx dX12_isSign_1 sm_kb_61 (sm_icmpeq (a := a0) (b := 61) hx dX12_isSign_3 (tgt := 18) (by decide) (fun q3 => sm_iconst (v := 1) hx dX12_isSign_18 sm_kc_1 (sm_goto hx dX12_isSign_19 (tgt := 23) (by decide) (sm_iretZ (z := true) hx dX12_isSign_23 rfl (h.1 q3)))) (fun q3 => sm_iload_n (z := a0) hx dX12_isSign_6 rfl (sm_bipush (v := 60) hx dX12_isSign_7 sm_kb_60 (sm_icmpeq (a := a0) (b := 60) hx dX12_isSign_9 (tgt := 18) (by decide) (fun q2 => sm_iconst (v := 1) hx dX12_isSign_18 sm_kc_1 (sm_goto hx dX12_isSign_19 (tgt := 23) (by decide) (sm_iretZ (z := true) hx dX12_isSign_23 rfl ((h.2 q3).1 q2)))) (fun q2 => sm_iload_n (z := a0) hx dX12_isSign_12 rfl (sm_bipush (v := 62) hx dX12_isSign_13 sm_kb_62 (sm_icmpne (a := a0) (b := 62) hx dX12_isSign_15 (tgt := 22) (by decide) (fun q1 => sm_iconst (v := 0) hx dX12_isSign_22 sm_kc_0 (sm_iretZ (z := false) hx dX12_isSign_23 rfl (((h.2 q3).2 q2).1 q1))) (fun q1 => sm_iconst (v := 1) hx dX12_isSign_18 sm_kc_1 (sm_goto hx dX12_isSign_19 (tgt := 23) (by decide) (sm_iretZ (z := true) hx dX12_isSign_23 rfl (((h.2 q3).2 q2).2 q1)))))))))))))
theorem dX12_compare_0 : decode cX12_compare 0 = .ok (.aload_n 0, 1) := by decide +kernel
theorem dX12_compare_1 : decode cX12_compare 1 = .ok (.getfield 129, 3) := by decide +kernel
theorem dX12_compare_4 : decode cX12_compare 4 = .ok (.iconst (-1), 1) := by decide +kernel
theorem dX12_compare_5 : decode cX12_compare 5 = .ok (.if_icmp .ne 10, 3) := by decide +kernel
theorem dX12_compare_8 : decode cX12_compare 8 = .ok (.aload_n 0, 1) := by decide +kernel
theorem dX12_compare_9 : decode cX12_compare 9 = .ok (.invokevirtual 141, 3) := by decide +kernel
theorem dX12_compare_12 : decode cX12_compare 12 = .ok (.goto 4, 3) := by decide +kernel
theorem dX12_compare_15 : decode cX12_compare 15 = .ok (.iconst (-1), 1) := by decide +kernel
theorem dX12_compare_16 : decode cX12_compare 16 = .ok (.istore_n 1, 1) := by decide +kernel
theorem dX12_compare_17 : decode cX12_compare 17 = .ok (.iload_n 1, 1) := by decide +kernel
theorem dX12_compare_18 : decode cX12_compare 18 = .ok (.invokestatic 175, 3) := by decide +kernel
theorem dX12_compare_21 : decode cX12_compare 21 = .ok (.ifCond .ne 8, 3) := by decide +kernel
theorem dX12_compare_24 : decode cX12_compare 24 = .ok (.aload_n 0, 1) := by decide +kernel
theorem dX12_compare_25 : decode cX12_compare 25 = .ok (.invokevirtual 138, 3) := by decide +kernel
theorem dX12_compare_28 : decode cX12_compare 28 = .ok (.return_, 1) := by decide +kernel
theorem dX12_compare_29 : decode cX12_compare 29 = .ok (.aload_n 0, 1) := by decide +kernel
theorem dX12_compare_30 : decode cX12_compare 30 = .ok (.dup, 1) := by decide +kernel
theorem dX12_compare_31 : decode cX12_compare 31 = .ok (.getfield 122, 3) := by decide +kernel
theorem dX12_compare_34 : decode cX12_compare 34 = .ok (.iconst 1, 1) := by decide +kernel
theorem dX12_compare_35 : decode cX12_compare 35 = .ok (.iadd, 1) := by decide +kernel
theorem dX12_compare_36 : decode cX12_compare 36 = .ok (.putfield 122, 3) := by decide +kernel
theorem dX12_compare_39 : decode cX12_compare 39 = .ok (.aload_n 0, 1) := by decide +kernel
theorem dX12_compare_40 : decode cX12_compare 40 = .ok (.invokevirtual 162, 3) := by decide +kernel
theorem dX12_compare_43 : decode cX12_compare 43 = .ok (.aload_n 0, 1) := by decide +kernel
theorem dX12_compare_44 : decode cX12_compare 44 = .ok (.iload_n 1, 1) := by decide +kernel
theorem dX12_compare_45 : decode cX12_compare 45 = .ok (.bipush 61, 2) := by decide +kernel
theorem dX12_compare_47 : decode cX12_compare 47 = .ok (.if_icmp .ne 8, 3) := by decide +kernel
theorem dX12_compare_50 : decode cX12_compare 50 = .ok (.bipush 6, 2) := by decide +kernel
theorem dX12_compare_52 : decode cX12_compare 52 = .ok (.goto 16, 3) := by decide +kernel
theorem dX12_compare_55 : decode cX12_compare 55 = .ok (.iload_n 1, 1) := by decide +kernel
theorem dX12_compare_56 : decode cX12_compare 56 = .ok (.bipush 60, 2) := by decide +kernel
theorem dX12_compare_58 : decode cX12_compare 58 = .ok (.if_icmp .ne 8, 3) := by decide +kernel
theorem dX12_compare_61 : decode cX12_compare 61 = .ok (.bipush 7, 2) := by decide +kernel
theorem dX12_compare_63 : decode cX12_compare 63 = .ok (.goto 5, 3) := by decide +kernel
theorem dX12_compare_66 : decode cX12_compare 66 = .ok (.bipush 8, 2) := by decide +kernel
theorem dX12_compare_68 : decode cX12_compare 68 = .ok (.iconst 0, 1) := by decide +kernel
theorem dX12_compare_69 : decode cX12_compare 69 = .ok (.invokevirtual 151, 3) := by decide +kernel
theorem dX12_compare_72 : decode cX12_compare 72 = .ok (.return_, 1) := by decide +kernel
set_option maxRecDepth 100000 in
theorem c_X12_compare {n : Nat} {F : sm_MI → sm_ML → Prop} {T : List sm_Sh} {I : sm_MI} {L : sm_ML}  (hB : sm_Bs T)
    (h : (¬ (I 76 4) = (-1) → sm_CZ n mX12_isSign T I L [.int (-1)] (fun r2 I1 L1 => (r2 = true → sm_CV n mX12_sum T (sm_uI I1 76 3 ((I1 76 3) + 1)) L1 [.ref 76] (fun I3 L3 => sm_CV n mX12_note T I3 L3 [.ref 76, .int 8, .int 0] (fun I4 L4 => F I4 L4))) ∧ (r2 = false → sm_CV n mX12_bad T I1 L1 [.ref 76] (fun I5 L5 => F I5 L5)))) ∧ ((I 76 4) = (-1) → sm_CI n mX12_look T I L [.ref 76] (fun r7 I6 L6 => sm_CZ n mX12_isSign T I6 L6 [.int r7] (fun r9 I8 L8 => (r9 = true → sm_CV n mX12_sum T (sm_uI I8 76 3 ((I8 76 3) + 1)) L8 [.ref 76] (fun I10 L10 => (¬ r7 = 61 → (¬ r7 = 60 → sm_CV n mX12_note T I10 L10 [.ref 76, .int 8, .int 0] (fun I11 L11 => F I11 L11)) ∧ (r7 = 60 → sm_CV n mX12_note T I10 L10 [.ref 76, .int 7, .int 0] (fun I12 L12 => F I12 L12))) ∧ (r7 = 61 → sm_CV n mX12_note T I10 L10 [.ref 76, .int 6, .int 0] (fun I13 L13 => F I13 L13)))) ∧ (r9 = false → sm_CV n mX12_bad T I8 L8 [.ref 76] (fun I14 L14 => F I14 L14)))))) :
    sm_CV (n + 1) mX12_compare T I L [.ref 76] F :=
  sm_CV.of (by decide +kernel) rfl (fun x hx => show sm_V x 0 0 T I L 0 [some (.ref 76), none] [] from
  sm_aload_n (z := 76) hx dX12_compare_0 rfl (sm_getI hx dX12_compare_1 fl_X12_129_12 (t_76 hB) rfl (sm_iconst (v := (-1)) hx dX12_compare_4 sm_kc_m1 (sm_icmpne (a := (I 76 4)) (b := (-1)) hx dX12_compare_5 (tgt := 15) (by decide) (fun q7 => sm_iconst (v := (-1)) hx dX12_compare_15 sm_kc_m1 (sm_istore_n (ls' := [some (.ref 76), some (.int (-1))]) hx dX12_compare_16 (by decide) rfl (sm_iload_n (z := (-1)) hx dX12_compare_17 rfl (sm_callSZ (args := [.int (-1)]) (st := []) hx dX12_compare_18 ls_X12_175 rfl rfl rfl (h.1 q7) (fun r2 I1 L1 hI1 => sm_ifneZ (b := r2) hx dX12_compare_21 (tgt := 29) (by decide) (fun q3 => sm_aload_n (z := 76) hx dX12_compare_29 rfl (sm_dup hx dX12_compare_30 rfl (sm_getI hx dX12_compare_31 fl_X12_122_12 (t_76 hB) rfl (sm_iconst (v := 1) hx dX12_compare_34 sm_kc_1 (sm_iadd (a := (I1 76 3)) (b := 1) hx dX12_compare_35 (sm_putI hx dX12_compare_36 fl_X12_122_12 (t_76 hB) rfl (sm_aload_n (z := 76) hx dX12_compare_39 rfl (sm_callVV (args := []) (st := []) hx dX12_compare_40 lv_X12_162_12 rfl rfl (t_76 hB) rfl rfl (hI1.1 q3) (fun I3 L3 hI3 => sm_aload_n (z := 76) hx dX12_compare_43 rfl (sm_iload_n (z := (-1)) hx dX12_compare_44 rfl (sm_bipush (v := 61) hx dX12_compare_45 sm_kb_61 (sm_icmpne (a := (-1)) (b := 61) hx dX12_compare_47 (tgt := 55) (by decide) (fun q2 => sm_iload_n (z := (-1)) hx dX12_compare_55 rfl (sm_bipush (v := 60) hx dX12_compare_56 sm_kb_60 (sm_icmpne (a := (-1)) (b := 60) hx dX12_compare_58 (tgt := 66) (by decide) (fun q1 => sm_bipush (v := 8) hx dX12_compare_66 sm_kb_8 (sm_iconst (v := 0) hx dX12_compare_68 sm_kc_0 (sm_callVV (args := [.int 8, .int 0]) (st := []) hx dX12_compare_69 lv_X12_151_12 rfl rfl (t_76 hB) rfl rfl hI3 (fun I4 L4 hI4 => sm_vretV hx dX12_compare_72 rfl hI4)))) (fun q1 => absurd q1 (by decide))))) (fun q2 => absurd q2 (by decide)))))))))))))) (fun q3 => sm_aload_n (z := 76) hx dX12_compare_24 rfl (sm_callVV (args := []) (st := []) hx dX12_compare_25 lv_X12_138_12 rfl rfl (t_76 hB) rfl rfl (hI1.2 q3) (fun I5 L5 hI5 => sm_vretV hx dX12_compare_28 rfl hI5)))))))) (fun q7 => sm_aload_n (z := 76) hx dX12_compare_8 rfl (sm_callVI (args := []) (st := []) hx dX12_compare_9 lv_X12_141_12 rfl rfl (t_76 hB) rfl rfl (h.2 q7) (fun r7 I6 L6 hI6 => sm_goto hx dX12_compare_12 (tgt := 16) (by decide) (sm_istore_n (ls' := [some (.ref 76), some (.int r7)]) hx dX12_compare_16 (by decide) rfl (sm_iload_n (z := r7) hx dX12_compare_17 rfl (sm_callSZ (args := [.int r7]) (st := []) hx dX12_compare_18 ls_X12_175 rfl rfl rfl hI6 (fun r9 I8 L8 hI8 => sm_ifneZ (b := r9) hx dX12_compare_21 (tgt := 29) (by decide) (fun q6 => sm_aload_n (z := 76) hx dX12_compare_29 rfl (sm_dup hx dX12_compare_30 rfl (sm_getI hx dX12_compare_31 fl_X12_122_12 (t_76 hB) rfl (sm_iconst (v := 1) hx dX12_compare_34 sm_kc_1 (sm_iadd (a := (I8 76 3)) (b := 1) hx dX12_compare_35 (sm_putI hx dX12_compare_36 fl_X12_122_12 (t_76 hB) rfl (sm_aload_n (z := 76) hx dX12_compare_39 rfl (sm_callVV (args := []) (st := []) hx dX12_compare_40 lv_X12_162_12 rfl rfl (t_76 hB) rfl rfl (hI8.1 q6) (fun I10 L10 hI10 => sm_aload_n (z := 76) hx dX12_compare_43 rfl (sm_iload_n (z := r7) hx dX12_compare_44 rfl (sm_bipush (v := 61) hx dX12_compare_45 sm_kb_61 (sm_icmpne (a := r7) (b := 61) hx dX12_compare_47 (tgt := 55) (by decide) (fun q5 => sm_iload_n (z := r7) hx dX12_compare_55 rfl (sm_bipush (v := 60) hx dX12_compare_56 sm_kb_60 (sm_icmpne (a := r7) (b := 60) hx dX12_compare_58 (tgt := 66) (by decide) (fun q4 => sm_bipush (v := 8) hx dX12_compare_66 sm_kb_8 (sm_iconst (v := 0) hx dX12_compare_68 sm_kc_0 (sm_callVV (args := [.int 8, .int 0]) (st := []) hx dX12_compare_69 lv_X12_151_12 rfl rfl (t_76 hB) rfl rfl ((hI10.1 q5).1 q4) (fun I11 L11 hI11 => sm_vretV hx dX12_compare_72 rfl hI11)))) (fun q4 => sm_bipush (v := 7) hx dX12_compare_61 sm_kb_7 (sm_goto hx dX12_compare_63 (tgt := 68) (by decide) (sm_iconst (v := 0) hx dX12_compare_68 sm_kc_0 (sm_callVV (args := [.int 7, .int 0]) (st := []) hx dX12_compare_69 lv_X12_151_12 rfl rfl (t_76 hB) rfl rfl ((hI10.1 q5).2 q4) (fun I12 L12 hI12 => sm_vretV hx dX12_compare_72 rfl hI12)))))))) (fun q5 => sm_bipush (v := 6) hx dX12_compare_50 sm_kb_6 (sm_goto hx dX12_compare_52 (tgt := 68) (by decide) (sm_iconst (v := 0) hx dX12_compare_68 sm_kc_0 (sm_callVV (args := [.int 6, .int 0]) (st := []) hx dX12_compare_69 lv_X12_151_12 rfl rfl (t_76 hB) rfl rfl (hI10.2 q5) (fun I13 L13 hI13 => sm_vretV hx dX12_compare_72 rfl hI13))))))))))))))))) (fun q6 => sm_aload_n (z := 76) hx dX12_compare_24 rfl (sm_callVV (args := []) (st := []) hx dX12_compare_25 lv_X12_138_12 rfl rfl (t_76 hB) rfl rfl (hI8.2 q6) (fun I14 L14 hI14 => sm_vretV hx dX12_compare_28 rfl hI14))))))))))))))
theorem dX12_unit_0 : decode cX12_unit 0 = .ok (.aload_n 0, 1) := by decide +kernel
theorem dX12_unit_1 : decode cX12_unit 1 = .ok (.invokevirtual 141, 3) := by decide +kernel
theorem dX12_unit_4 : decode cX12_unit 4 = .ok (.istore_n 1, 1) := by decide +kernel
theorem dX12_unit_5 : decode cX12_unit 5 = .ok (.iload_n 1, 1) := by decide +kernel
theorem dX12_unit_6 : decode cX12_unit 6 = .ok (.bipush 33, 2) := by decide +kernel
theorem dX12_unit_8 : decode cX12_unit 8 = .ok (.if_icmp .ne 39, 3) := by decide +kernel
theorem dX12_unit_11 : decode cX12_unit 11 = .ok (.aload_n 0, 1) := by decide +kernel
theorem dX12_unit_12 : decode cX12_unit 12 = .ok (.invokevirtual 159, 3) := by decide +kernel
theorem dX12_unit_15 : decode cX12_unit 15 = .ok (.aload_n 0, 1) := by decide +kernel
theorem dX12_unit_16 : decode cX12_unit 16 = .ok (.getfield 129, 3) := by decide +kernel
theorem dX12_unit_19 : decode cX12_unit 19 = .ok (.iconst (-1), 1) := by decide +kernel
theorem dX12_unit_20 : decode cX12_unit 20 = .ok (.if_icmp .ne 74, 3) := by decide +kernel
theorem dX12_unit_23 : decode cX12_unit 23 = .ok (.aload_n 0, 1) := by decide +kernel
theorem dX12_unit_24 : decode cX12_unit 24 = .ok (.invokevirtual 178, 3) := by decide +kernel
theorem dX12_unit_27 : decode cX12_unit 27 = .ok (.aload_n 0, 1) := by decide +kernel
theorem dX12_unit_28 : decode cX12_unit 28 = .ok (.bipush 9, 2) := by decide +kernel
theorem dX12_unit_30 : decode cX12_unit 30 = .ok (.iconst 0, 1) := by decide +kernel
theorem dX12_unit_31 : decode cX12_unit 31 = .ok (.invokevirtual 151, 3) := by decide +kernel
theorem dX12_unit_34 : decode cX12_unit 34 = .ok (.aload_n 0, 1) := by decide +kernel
theorem dX12_unit_35 : decode cX12_unit 35 = .ok (.dup, 1) := by decide +kernel
theorem dX12_unit_36 : decode cX12_unit 36 = .ok (.getfield 135, 3) := by decide +kernel
theorem dX12_unit_39 : decode cX12_unit 39 = .ok (.iconst 1, 1) := by decide +kernel
theorem dX12_unit_40 : decode cX12_unit 40 = .ok (.isub, 1) := by decide +kernel
theorem dX12_unit_41 : decode cX12_unit 41 = .ok (.putfield 135, 3) := by decide +kernel
theorem dX12_unit_44 : decode cX12_unit 44 = .ok (.goto 50, 3) := by decide +kernel
theorem dX12_unit_47 : decode cX12_unit 47 = .ok (.iload_n 1, 1) := by decide +kernel
theorem dX12_unit_48 : decode cX12_unit 48 = .ok (.bipush 40, 2) := by decide +kernel
theorem dX12_unit_50 : decode cX12_unit 50 = .ok (.if_icmp .ne 28, 3) := by decide +kernel
theorem dX12_unit_53 : decode cX12_unit 53 = .ok (.aload_n 0, 1) := by decide +kernel
theorem dX12_unit_54 : decode cX12_unit 54 = .ok (.invokevirtual 159, 3) := by decide +kernel
theorem dX12_unit_57 : decode cX12_unit 57 = .ok (.aload_n 0, 1) := by decide +kernel
theorem dX12_unit_58 : decode cX12_unit 58 = .ok (.getfield 129, 3) := by decide +kernel
theorem dX12_unit_61 : decode cX12_unit 61 = .ok (.iconst (-1), 1) := by decide +kernel
theorem dX12_unit_62 : decode cX12_unit 62 = .ok (.if_icmp .ne 32, 3) := by decide +kernel
theorem dX12_unit_65 : decode cX12_unit 65 = .ok (.aload_n 0, 1) := by decide +kernel
theorem dX12_unit_66 : decode cX12_unit 66 = .ok (.invokevirtual 181, 3) := by decide +kernel
theorem dX12_unit_69 : decode cX12_unit 69 = .ok (.aload_n 0, 1) := by decide +kernel
theorem dX12_unit_70 : decode cX12_unit 70 = .ok (.bipush 41, 2) := by decide +kernel
theorem dX12_unit_72 : decode cX12_unit 72 = .ok (.invokevirtual 165, 3) := by decide +kernel
theorem dX12_unit_75 : decode cX12_unit 75 = .ok (.goto 19, 3) := by decide +kernel
theorem dX12_unit_78 : decode cX12_unit 78 = .ok (.aload_n 0, 1) := by decide +kernel
theorem dX12_unit_79 : decode cX12_unit 79 = .ok (.invokevirtual 162, 3) := by decide +kernel
theorem dX12_unit_82 : decode cX12_unit 82 = .ok (.aload_n 0, 1) := by decide +kernel
theorem dX12_unit_83 : decode cX12_unit 83 = .ok (.getfield 129, 3) := by decide +kernel
theorem dX12_unit_86 : decode cX12_unit 86 = .ok (.iconst (-1), 1) := by decide +kernel
theorem dX12_unit_87 : decode cX12_unit 87 = .ok (.if_icmp .ne 7, 3) := by decide +kernel
theorem dX12_unit_90 : decode cX12_unit 90 = .ok (.aload_n 0, 1) := by decide +kernel
theorem dX12_unit_91 : decode cX12_unit 91 = .ok (.invokevirtual 184, 3) := by decide +kernel
theorem dX12_unit_94 : decode cX12_unit 94 = .ok (.return_, 1) := by decide +kernel
set_option maxRecDepth 100000 in
theorem c_X12_unit {n : Nat} {F : sm_MI → sm_ML → Prop} {T : List sm_Sh} {I : sm_MI} {L : sm_ML}  (hB : sm_Bs T)
    (h : sm_CI n mX12_look T I L [.ref 76] (fun r2 I1 L1 => (¬ r2 = 33 → (¬ r2 = 40 → sm_CV n mX12_sum T I1 L1 [.ref 76] (fun I3 L3 => (¬ (I3 76 4) = (-1) → F I3 L3) ∧ ((I3 76 4) = (-1) → sm_CV n mX12_compare T I3 L3 [.ref 76] (fun I4 L4 => F I4 L4)))) ∧ (r2 = 40 → sm_CV n mX12_opens T I1 L1 [.ref 76] (fun I5 L5 => (¬ (I5 76 4) = (-1) → F I5 L5) ∧ ((I5 76 4) = (-1) → sm_CV n mX12_condition T I5 L5 [.ref 76] (fun I6 L6 => sm_CV n mX12_closes T I6 L6 [.ref 76, .int 41] (fun I7 L7 => F I7 L7)))))) ∧ (r2 = 33 → sm_CV n mX12_opens T I1 L1 [.ref 76] (fun I8 L8 => (¬ (I8 76 4) = (-1) → F I8 L8) ∧ ((I8 76 4) = (-1) → sm_CV n mX12_unit T I8 L8 [.ref 76] (fun I9 L9 => sm_CV n mX12_note T I9 L9 [.ref 76, .int 9, .int 0] (fun I10 L10 => F (sm_uI I10 76 5 ((I10 76 5) - 1)) L10))))))) :
    sm_CV (n + 1) mX12_unit T I L [.ref 76] F :=
  sm_CV.of (by decide +kernel) rfl (fun x hx => show sm_V x 0 0 T I L 0 [some (.ref 76), none] [] from
  sm_aload_n (z := 76) hx dX12_unit_0 rfl (sm_callVI (args := []) (st := []) hx dX12_unit_1 lv_X12_141_12 rfl rfl (t_76 hB) rfl rfl h (fun r2 I1 L1 hI1 => sm_istore_n (ls' := [some (.ref 76), some (.int r2)]) hx dX12_unit_4 (by decide) rfl (sm_iload_n (z := r2) hx dX12_unit_5 rfl (sm_bipush (v := 33) hx dX12_unit_6 sm_kb_33 (sm_icmpne (a := r2) (b := 33) hx dX12_unit_8 (tgt := 47) (by decide) (fun q5 => sm_iload_n (z := r2) hx dX12_unit_47 rfl (sm_bipush (v := 40) hx dX12_unit_48 sm_kb_40 (sm_icmpne (a := r2) (b := 40) hx dX12_unit_50 (tgt := 78) (by decide) (fun q3 => sm_aload_n (z := 76) hx dX12_unit_78 rfl (sm_callVV (args := []) (st := []) hx dX12_unit_79 lv_X12_162_12 rfl rfl (t_76 hB) rfl rfl ((hI1.1 q5).1 q3) (fun I3 L3 hI3 => sm_aload_n (z := 76) hx dX12_unit_82 rfl (sm_getI hx dX12_unit_83 fl_X12_129_12 (t_76 hB) rfl (sm_iconst (v := (-1)) hx dX12_unit_86 sm_kc_m1 (sm_icmpne (a := (I3 76 4)) (b := (-1)) hx dX12_unit_87 (tgt := 94) (by decide) (fun q1 => sm_vretV hx dX12_unit_94 rfl (hI3.1 q1)) (fun q1 => sm_aload_n (z := 76) hx dX12_unit_90 rfl (sm_callVV (args := []) (st := []) hx dX12_unit_91 lv_X12_184_12 rfl rfl (t_76 hB) rfl rfl (hI3.2 q1) (fun I4 L4 hI4 => sm_vretV hx dX12_unit_94 rfl hI4))))))))) (fun q3 => sm_aload_n (z := 76) hx dX12_unit_53 rfl (sm_callVV (args := []) (st := []) hx dX12_unit_54 lv_X12_159_12 rfl rfl (t_76 hB) rfl rfl ((hI1.1 q5).2 q3) (fun I5 L5 hI5 => sm_aload_n (z := 76) hx dX12_unit_57 rfl (sm_getI hx dX12_unit_58 fl_X12_129_12 (t_76 hB) rfl (sm_iconst (v := (-1)) hx dX12_unit_61 sm_kc_m1 (sm_icmpne (a := (I5 76 4)) (b := (-1)) hx dX12_unit_62 (tgt := 94) (by decide) (fun q2 => sm_vretV hx dX12_unit_94 rfl (hI5.1 q2)) (fun q2 => sm_aload_n (z := 76) hx dX12_unit_65 rfl (sm_callVV (args := []) (st := []) hx dX12_unit_66 lv_X12_181_12 rfl rfl (t_76 hB) rfl rfl (hI5.2 q2) (fun I6 L6 hI6 => sm_aload_n (z := 76) hx dX12_unit_69 rfl (sm_bipush (v := 41) hx dX12_unit_70 sm_kb_41 (sm_callVV (args := [.int 41]) (st := []) hx dX12_unit_72 lv_X12_165_12 rfl rfl (t_76 hB) rfl rfl hI6 (fun I7 L7 hI7 => sm_goto hx dX12_unit_75 (tgt := 94) (by decide) (sm_vretV hx dX12_unit_94 rfl hI7)))))))))))))))) (fun q5 => sm_aload_n (z := 76) hx dX12_unit_11 rfl (sm_callVV (args := []) (st := []) hx dX12_unit_12 lv_X12_159_12 rfl rfl (t_76 hB) rfl rfl (hI1.2 q5) (fun I8 L8 hI8 => sm_aload_n (z := 76) hx dX12_unit_15 rfl (sm_getI hx dX12_unit_16 fl_X12_129_12 (t_76 hB) rfl (sm_iconst (v := (-1)) hx dX12_unit_19 sm_kc_m1 (sm_icmpne (a := (I8 76 4)) (b := (-1)) hx dX12_unit_20 (tgt := 94) (by decide) (fun q4 => sm_vretV hx dX12_unit_94 rfl (hI8.1 q4)) (fun q4 => sm_aload_n (z := 76) hx dX12_unit_23 rfl (sm_callVV (args := []) (st := []) hx dX12_unit_24 lv_X12_178_12 rfl rfl (t_76 hB) rfl rfl (hI8.2 q4) (fun I9 L9 hI9 => sm_aload_n (z := 76) hx dX12_unit_27 rfl (sm_bipush (v := 9) hx dX12_unit_28 sm_kb_9 (sm_iconst (v := 0) hx dX12_unit_30 sm_kc_0 (sm_callVV (args := [.int 9, .int 0]) (st := []) hx dX12_unit_31 lv_X12_151_12 rfl rfl (t_76 hB) rfl rfl hI9 (fun I10 L10 hI10 => sm_aload_n (z := 76) hx dX12_unit_34 rfl (sm_dup hx dX12_unit_35 rfl (sm_getI hx dX12_unit_36 fl_X12_135_12 (t_76 hB) rfl (sm_iconst (v := 1) hx dX12_unit_39 sm_kc_1 (sm_isub (a := (I10 76 5)) (b := 1) hx dX12_unit_40 (sm_putI hx dX12_unit_41 fl_X12_135_12 (t_76 hB) rfl (sm_goto hx dX12_unit_44 (tgt := 94) (by decide) (sm_vretV hx dX12_unit_94 rfl hI10))))))))))))))))))))))))))
theorem dX12_goOnAnd_0 : decode cX12_goOnAnd 0 = .ok (.aload_n 0, 1) := by decide +kernel
theorem dX12_goOnAnd_1 : decode cX12_goOnAnd 1 = .ok (.getfield 129, 3) := by decide +kernel
theorem dX12_goOnAnd_4 : decode cX12_goOnAnd 4 = .ok (.iconst (-1), 1) := by decide +kernel
theorem dX12_goOnAnd_5 : decode cX12_goOnAnd 5 = .ok (.if_icmp .ne 36, 3) := by decide +kernel
theorem dX12_goOnAnd_8 : decode cX12_goOnAnd 8 = .ok (.aload_n 0, 1) := by decide +kernel
theorem dX12_goOnAnd_9 : decode cX12_goOnAnd 9 = .ok (.invokevirtual 141, 3) := by decide +kernel
theorem dX12_goOnAnd_12 : decode cX12_goOnAnd 12 = .ok (.bipush 38, 2) := by decide +kernel
theorem dX12_goOnAnd_14 : decode cX12_goOnAnd 14 = .ok (.if_icmp .ne 27, 3) := by decide +kernel
theorem dX12_goOnAnd_17 : decode cX12_goOnAnd 17 = .ok (.aload_n 0, 1) := by decide +kernel
theorem dX12_goOnAnd_18 : decode cX12_goOnAnd 18 = .ok (.dup, 1) := by decide +kernel
theorem dX12_goOnAnd_19 : decode cX12_goOnAnd 19 = .ok (.getfield 122, 3) := by decide +kernel
theorem dX12_goOnAnd_22 : decode cX12_goOnAnd 22 = .ok (.iconst 1, 1) := by decide +kernel
theorem dX12_goOnAnd_23 : decode cX12_goOnAnd 23 = .ok (.iadd, 1) := by decide +kernel
theorem dX12_goOnAnd_24 : decode cX12_goOnAnd 24 = .ok (.putfield 122, 3) := by decide +kernel
theorem dX12_goOnAnd_27 : decode cX12_goOnAnd 27 = .ok (.aload_n 0, 1) := by decide +kernel
theorem dX12_goOnAnd_28 : decode cX12_goOnAnd 28 = .ok (.invokevirtual 178, 3) := by decide +kernel
theorem dX12_goOnAnd_31 : decode cX12_goOnAnd 31 = .ok (.aload_n 0, 1) := by decide +kernel
theorem dX12_goOnAnd_32 : decode cX12_goOnAnd 32 = .ok (.bipush 10, 2) := by decide +kernel
theorem dX12_goOnAnd_34 : decode cX12_goOnAnd 34 = .ok (.iconst 0, 1) := by decide +kernel
theorem dX12_goOnAnd_35 : decode cX12_goOnAnd 35 = .ok (.invokevirtual 151, 3) := by decide +kernel
theorem dX12_goOnAnd_38 : decode cX12_goOnAnd 38 = .ok (.goto (-38), 3) := by decide +kernel
theorem dX12_goOnAnd_41 : decode cX12_goOnAnd 41 = .ok (.return_, 1) := by decide +kernel
set_option maxRecDepth 100000 in
theorem u_X12_goOnAnd_0 {x : sm_Cx} {n : Nat} {F : sm_MI → sm_ML → Prop} {T : List sm_Sh} {I : sm_MI} {L : sm_ML}  (hB : sm_Bs T) (hx : sm_Ok x mX12_goOnAnd (n + 1) (sm_KV T F))
    (h : (¬ (I 76 4) = (-1) → F I L) ∧ ((I 76 4) = (-1) → sm_CI n mX12_look T I L [.ref 76] (fun r2 I1 L1 => (¬ r2 = 38 → F I1 L1) ∧ (r2 = 38 → sm_CV n mX12_unit T (sm_uI I1 76 3 ((I1 76 3) + 1)) L1 [.ref 76] (fun I3 L3 => sm_CV n mX12_note T I3 L3 [.ref 76, .int 10, .int 0] (fun I4 L4 => sm_V x 0 0 T I4 L4 0 [some (.ref 76)] [])))))) :
    sm_V x 0 0 T I L 0 [some (.ref 76)] [] :=
  sm_aload_n (z := 76) hx dX12_goOnAnd_0 rfl (sm_getI hx dX12_goOnAnd_1 fl_X12_129_12 (t_76 hB) rfl (sm_iconst (v := (-1)) hx dX12_goOnAnd_4 sm_kc_m1 (sm_icmpne (a := (I 76 4)) (b := (-1)) hx dX12_goOnAnd_5 (tgt := 41) (by decide) (fun q2 => sm_vretV hx dX12_goOnAnd_41 rfl (h.1 q2)) (fun q2 => sm_aload_n (z := 76) hx dX12_goOnAnd_8 rfl (sm_callVI (args := []) (st := []) hx dX12_goOnAnd_9 lv_X12_141_12 rfl rfl (t_76 hB) rfl rfl (h.2 q2) (fun r2 I1 L1 hI1 => sm_bipush (v := 38) hx dX12_goOnAnd_12 sm_kb_38 (sm_icmpne (a := r2) (b := 38) hx dX12_goOnAnd_14 (tgt := 41) (by decide) (fun q1 => sm_vretV hx dX12_goOnAnd_41 rfl (hI1.1 q1)) (fun q1 => sm_aload_n (z := 76) hx dX12_goOnAnd_17 rfl (sm_dup hx dX12_goOnAnd_18 rfl (sm_getI hx dX12_goOnAnd_19 fl_X12_122_12 (t_76 hB) rfl (sm_iconst (v := 1) hx dX12_goOnAnd_22 sm_kc_1 (sm_iadd (a := (I1 76 3)) (b := 1) hx dX12_goOnAnd_23 (sm_putI hx dX12_goOnAnd_24 fl_X12_122_12 (t_76 hB) rfl (sm_aload_n (z := 76) hx dX12_goOnAnd_27 rfl (sm_callVV (args := []) (st := []) hx dX12_goOnAnd_28 lv_X12_178_12 rfl rfl (t_76 hB) rfl rfl (hI1.2 q1) (fun I3 L3 hI3 => sm_aload_n (z := 76) hx dX12_goOnAnd_31 rfl (sm_bipush (v := 10) hx dX12_goOnAnd_32 sm_kb_10 (sm_iconst (v := 0) hx dX12_goOnAnd_34 sm_kc_0 (sm_callVV (args := [.int 10, .int 0]) (st := []) hx dX12_goOnAnd_35 lv_X12_151_12 rfl rfl (t_76 hB) rfl rfl hI3 (fun I4 L4 hI4 => sm_goto hx dX12_goOnAnd_38 (tgt := 0) (by decide) (hI4)))))))))))))))))))))
set_option maxRecDepth 100000 in
theorem c_X12_goOnAnd {n : Nat} {F : sm_MI → sm_ML → Prop} {T : List sm_Sh} {I : sm_MI} {L : sm_ML}  (hB : sm_Bs T)
    (h : ∀ x : sm_Cx, sm_Ok x mX12_goOnAnd (n + 1) (sm_KV T F) → sm_V x 0 0 T I L 0 [some (.ref 76)] []) :
    sm_CV (n + 1) mX12_goOnAnd T I L [.ref 76] F :=
  sm_CV.of (by decide +kernel) rfl (fun x hx => show sm_V x 0 0 T I L 0 [some (.ref 76)] [] from h x hx)
theorem dX12_goOnOr_0 : decode cX12_goOnOr 0 = .ok (.aload_n 0, 1) := by decide +kernel
theorem dX12_goOnOr_1 : decode cX12_goOnOr 1 = .ok (.getfield 129, 3) := by decide +kernel
theorem dX12_goOnOr_4 : decode cX12_goOnOr 4 = .ok (.iconst (-1), 1) := by decide +kernel
theorem dX12_goOnOr_5 : decode cX12_goOnOr 5 = .ok (.if_icmp .ne 40, 3) := by decide +kernel
theorem dX12_goOnOr_8 : decode cX12_goOnOr 8 = .ok (.aload_n 0, 1) := by decide +kernel
theorem dX12_goOnOr_9 : decode cX12_goOnOr 9 = .ok (.invokevirtual 141, 3) := by decide +kernel
theorem dX12_goOnOr_12 : decode cX12_goOnOr 12 = .ok (.bipush 124, 2) := by decide +kernel
theorem dX12_goOnOr_14 : decode cX12_goOnOr 14 = .ok (.if_icmp .ne 31, 3) := by decide +kernel
theorem dX12_goOnOr_17 : decode cX12_goOnOr 17 = .ok (.aload_n 0, 1) := by decide +kernel
theorem dX12_goOnOr_18 : decode cX12_goOnOr 18 = .ok (.dup, 1) := by decide +kernel
theorem dX12_goOnOr_19 : decode cX12_goOnOr 19 = .ok (.getfield 122, 3) := by decide +kernel
theorem dX12_goOnOr_22 : decode cX12_goOnOr 22 = .ok (.iconst 1, 1) := by decide +kernel
theorem dX12_goOnOr_23 : decode cX12_goOnOr 23 = .ok (.iadd, 1) := by decide +kernel
theorem dX12_goOnOr_24 : decode cX12_goOnOr 24 = .ok (.putfield 122, 3) := by decide +kernel
theorem dX12_goOnOr_27 : decode cX12_goOnOr 27 = .ok (.aload_n 0, 1) := by decide +kernel
theorem dX12_goOnOr_28 : decode cX12_goOnOr 28 = .ok (.invokevirtual 178, 3) := by decide +kernel
theorem dX12_goOnOr_31 : decode cX12_goOnOr 31 = .ok (.aload_n 0, 1) := by decide +kernel
theorem dX12_goOnOr_32 : decode cX12_goOnOr 32 = .ok (.invokevirtual 187, 3) := by decide +kernel
theorem dX12_goOnOr_35 : decode cX12_goOnOr 35 = .ok (.aload_n 0, 1) := by decide +kernel
theorem dX12_goOnOr_36 : decode cX12_goOnOr 36 = .ok (.bipush 11, 2) := by decide +kernel
theorem dX12_goOnOr_38 : decode cX12_goOnOr 38 = .ok (.iconst 0, 1) := by decide +kernel
theorem dX12_goOnOr_39 : decode cX12_goOnOr 39 = .ok (.invokevirtual 151, 3) := by decide +kernel
theorem dX12_goOnOr_42 : decode cX12_goOnOr 42 = .ok (.goto (-42), 3) := by decide +kernel
theorem dX12_goOnOr_45 : decode cX12_goOnOr 45 = .ok (.return_, 1) := by decide +kernel
set_option maxRecDepth 100000 in
theorem u_X12_goOnOr_0 {x : sm_Cx} {n : Nat} {F : sm_MI → sm_ML → Prop} {T : List sm_Sh} {I : sm_MI} {L : sm_ML}  (hB : sm_Bs T) (hx : sm_Ok x mX12_goOnOr (n + 1) (sm_KV T F))
    (h : (¬ (I 76 4) = (-1) → F I L) ∧ ((I 76 4) = (-1) → sm_CI n mX12_look T I L [.ref 76] (fun r2 I1 L1 => (¬ r2 = 124 → F I1 L1) ∧ (r2 = 124 → sm_CV n mX12_unit T (sm_uI I1 76 3 ((I1 76 3) + 1)) L1 [.ref 76] (fun I3 L3 => sm_CV n mX12_goOnAnd T I3 L3 [.ref 76] (fun I4 L4 => sm_CV n mX12_note T I4 L4 [.ref 76, .int 11, .int 0] (fun I5 L5 => sm_V x 0 0 T I5 L5 0 [some (.ref 76)] []))))))) :
    sm_V x 0 0 T I L 0 [some (.ref 76)] [] :=
  sm_aload_n (z := 76) hx dX12_goOnOr_0 rfl (sm_getI hx dX12_goOnOr_1 fl_X12_129_12 (t_76 hB) rfl (sm_iconst (v := (-1)) hx dX12_goOnOr_4 sm_kc_m1 (sm_icmpne (a := (I 76 4)) (b := (-1)) hx dX12_goOnOr_5 (tgt := 45) (by decide) (fun q2 => sm_vretV hx dX12_goOnOr_45 rfl (h.1 q2)) (fun q2 => sm_aload_n (z := 76) hx dX12_goOnOr_8 rfl (sm_callVI (args := []) (st := []) hx dX12_goOnOr_9 lv_X12_141_12 rfl rfl (t_76 hB) rfl rfl (h.2 q2) (fun r2 I1 L1 hI1 => sm_bipush (v := 124) hx dX12_goOnOr_12 sm_kb_124 (sm_icmpne (a := r2) (b := 124) hx dX12_goOnOr_14 (tgt := 45) (by decide) (fun q1 => sm_vretV hx dX12_goOnOr_45 rfl (hI1.1 q1)) (fun q1 => sm_aload_n (z := 76) hx dX12_goOnOr_17 rfl (sm_dup hx dX12_goOnOr_18 rfl (sm_getI hx dX12_goOnOr_19 fl_X12_122_12 (t_76 hB) rfl (sm_iconst (v := 1) hx dX12_goOnOr_22 sm_kc_1 (sm_iadd (a := (I1 76 3)) (b := 1) hx dX12_goOnOr_23 (sm_putI hx dX12_goOnOr_24 fl_X12_122_12 (t_76 hB) rfl (sm_aload_n (z := 76) hx dX12_goOnOr_27 rfl (sm_callVV (args := []) (st := []) hx dX12_goOnOr_28 lv_X12_178_12 rfl rfl (t_76 hB) rfl rfl (hI1.2 q1) (fun I3 L3 hI3 => sm_aload_n (z := 76) hx dX12_goOnOr_31 rfl (sm_callVV (args := []) (st := []) hx dX12_goOnOr_32 lv_X12_187_12 rfl rfl (t_76 hB) rfl rfl hI3 (fun I4 L4 hI4 => sm_aload_n (z := 76) hx dX12_goOnOr_35 rfl (sm_bipush (v := 11) hx dX12_goOnOr_36 sm_kb_11 (sm_iconst (v := 0) hx dX12_goOnOr_38 sm_kc_0 (sm_callVV (args := [.int 11, .int 0]) (st := []) hx dX12_goOnOr_39 lv_X12_151_12 rfl rfl (t_76 hB) rfl rfl hI4 (fun I5 L5 hI5 => sm_goto hx dX12_goOnOr_42 (tgt := 0) (by decide) (hI5)))))))))))))))))))))))
set_option maxRecDepth 100000 in
theorem c_X12_goOnOr {n : Nat} {F : sm_MI → sm_ML → Prop} {T : List sm_Sh} {I : sm_MI} {L : sm_ML}  (hB : sm_Bs T)
    (h : ∀ x : sm_Cx, sm_Ok x mX12_goOnOr (n + 1) (sm_KV T F) → sm_V x 0 0 T I L 0 [some (.ref 76)] []) :
    sm_CV (n + 1) mX12_goOnOr T I L [.ref 76] F :=
  sm_CV.of (by decide +kernel) rfl (fun x hx => show sm_V x 0 0 T I L 0 [some (.ref 76)] [] from h x hx)
theorem dX12_condition_0 : decode cX12_condition 0 = .ok (.aload_n 0, 1) := by decide +kernel
theorem dX12_condition_1 : decode cX12_condition 1 = .ok (.invokevirtual 178, 3) := by decide +kernel
theorem dX12_condition_4 : decode cX12_condition 4 = .ok (.aload_n 0, 1) := by decide +kernel
theorem dX12_condition_5 : decode cX12_condition 5 = .ok (.invokevirtual 187, 3) := by decide +kernel
theorem dX12_condition_8 : decode cX12_condition 8 = .ok (.aload_n 0, 1) := by decide +kernel
theorem dX12_condition_9 : decode cX12_condition 9 = .ok (.invokevirtual 190, 3) := by decide +kernel
theorem dX12_condition_12 : decode cX12_condition 12 = .ok (.return_, 1) := by decide +kernel
set_option maxRecDepth 100000 in
theorem c_X12_condition {n : Nat} {F : sm_MI → sm_ML → Prop} {T : List sm_Sh} {I : sm_MI} {L : sm_ML}  (hB : sm_Bs T)
    (h : sm_CV n mX12_unit T I L [.ref 76] (fun I1 L1 => sm_CV n mX12_goOnAnd T I1 L1 [.ref 76] (fun I2 L2 => sm_CV n mX12_goOnOr T I2 L2 [.ref 76] (fun I3 L3 => F I3 L3)))) :
    sm_CV (n + 1) mX12_condition T I L [.ref 76] F :=
  sm_CV.of (by decide +kernel) rfl (fun x hx => show sm_V x 0 0 T I L 0 [some (.ref 76)] [] from
  sm_aload_n (z := 76) hx dX12_condition_0 rfl (sm_callVV (args := []) (st := []) hx dX12_condition_1 lv_X12_178_12 rfl rfl (t_76 hB) rfl rfl h (fun I1 L1 hI1 => sm_aload_n (z := 76) hx dX12_condition_4 rfl (sm_callVV (args := []) (st := []) hx dX12_condition_5 lv_X12_187_12 rfl rfl (t_76 hB) rfl rfl hI1 (fun I2 L2 hI2 => sm_aload_n (z := 76) hx dX12_condition_8 rfl (sm_callVV (args := []) (st := []) hx dX12_condition_9 lv_X12_190_12 rfl rfl (t_76 hB) rfl rfl hI2 (fun I3 L3 hI3 => sm_vretV hx dX12_condition_12 rfl hI3)))))))
theorem dX12_clause_0 : decode cX12_clause 0 = .ok (.bipush 90, 2) := by decide +kernel
theorem dX12_clause_2 : decode cX12_clause 2 = .ok (.aload_n 0, 1) := by decide +kernel
theorem dX12_clause_3 : decode cX12_clause 3 = .ok (.getfield 132, 3) := by decide +kernel
theorem dX12_clause_6 : decode cX12_clause 6 = .ok (.imul, 1) := by decide +kernel
theorem dX12_clause_7 : decode cX12_clause 7 = .ok (.aload_n 0, 1) := by decide +kernel
theorem dX12_clause_8 : decode cX12_clause 8 = .ok (.getfield 22, 3) := by decide +kernel
theorem dX12_clause_11 : decode cX12_clause 11 = .ok (.aload_n 0, 1) := by decide +kernel
theorem dX12_clause_12 : decode cX12_clause 12 = .ok (.getfield 132, 3) := by decide +kernel
theorem dX12_clause_15 : decode cX12_clause 15 = .ok (.iaload, 1) := by decide +kernel
theorem dX12_clause_16 : decode cX12_clause 16 = .ok (.iadd, 1) := by decide +kernel
theorem dX12_clause_17 : decode cX12_clause 17 = .ok (.istore_n 1, 1) := by decide +kernel
theorem dX12_clause_18 : decode cX12_clause 18 = .ok (.aload_n 0, 1) := by decide +kernel
theorem dX12_clause_19 : decode cX12_clause 19 = .ok (.getfield 129, 3) := by decide +kernel
theorem dX12_clause_22 : decode cX12_clause 22 = .ok (.iconst (-1), 1) := by decide +kernel
theorem dX12_clause_23 : decode cX12_clause 23 = .ok (.if_icmp .ne 16, 3) := by decide +kernel
theorem dX12_clause_26 : decode cX12_clause 26 = .ok (.aload_n 0, 1) := by decide +kernel
theorem dX12_clause_27 : decode cX12_clause 27 = .ok (.invokevirtual 141, 3) := by decide +kernel
theorem dX12_clause_30 : decode cX12_clause 30 = .ok (.bipush 121, 2) := by decide +kernel
theorem dX12_clause_32 : decode cX12_clause 32 = .ok (.if_icmp .eq 7, 3) := by decide +kernel
theorem dX12_clause_35 : decode cX12_clause 35 = .ok (.aload_n 0, 1) := by decide +kernel
theorem dX12_clause_36 : decode cX12_clause 36 = .ok (.invokevirtual 138, 3) := by decide +kernel
theorem dX12_clause_39 : decode cX12_clause 39 = .ok (.aload_n 0, 1) := by decide +kernel
theorem dX12_clause_40 : decode cX12_clause 40 = .ok (.dup, 1) := by decide +kernel
theorem dX12_clause_41 : decode cX12_clause 41 = .ok (.getfield 122, 3) := by decide +kernel
theorem dX12_clause_44 : decode cX12_clause 44 = .ok (.iconst 1, 1) := by decide +kernel
theorem dX12_clause_45 : decode cX12_clause 45 = .ok (.iadd, 1) := by decide +kernel
theorem dX12_clause_46 : decode cX12_clause 46 = .ok (.putfield 122, 3) := by decide +kernel
theorem dX12_clause_49 : decode cX12_clause 49 = .ok (.aload_n 0, 1) := by decide +kernel
theorem dX12_clause_50 : decode cX12_clause 50 = .ok (.getfield 129, 3) := by decide +kernel
theorem dX12_clause_53 : decode cX12_clause 53 = .ok (.iconst (-1), 1) := by decide +kernel
theorem dX12_clause_54 : decode cX12_clause 54 = .ok (.if_icmp .ne 16, 3) := by decide +kernel
theorem dX12_clause_57 : decode cX12_clause 57 = .ok (.aload_n 0, 1) := by decide +kernel
theorem dX12_clause_58 : decode cX12_clause 58 = .ok (.invokevirtual 141, 3) := by decide +kernel
theorem dX12_clause_61 : decode cX12_clause 61 = .ok (.bipush 58, 2) := by decide +kernel
theorem dX12_clause_63 : decode cX12_clause 63 = .ok (.if_icmp .eq 7, 3) := by decide +kernel
theorem dX12_clause_66 : decode cX12_clause 66 = .ok (.aload_n 0, 1) := by decide +kernel
theorem dX12_clause_67 : decode cX12_clause 67 = .ok (.invokevirtual 138, 3) := by decide +kernel
theorem dX12_clause_70 : decode cX12_clause 70 = .ok (.aload_n 0, 1) := by decide +kernel
theorem dX12_clause_71 : decode cX12_clause 71 = .ok (.dup, 1) := by decide +kernel
theorem dX12_clause_72 : decode cX12_clause 72 = .ok (.getfield 122, 3) := by decide +kernel
theorem dX12_clause_75 : decode cX12_clause 75 = .ok (.iconst 1, 1) := by decide +kernel
theorem dX12_clause_76 : decode cX12_clause 76 = .ok (.iadd, 1) := by decide +kernel
theorem dX12_clause_77 : decode cX12_clause 77 = .ok (.putfield 122, 3) := by decide +kernel
theorem dX12_clause_80 : decode cX12_clause 80 = .ok (.aload_n 0, 1) := by decide +kernel
theorem dX12_clause_81 : decode cX12_clause 81 = .ok (.getfield 129, 3) := by decide +kernel
theorem dX12_clause_84 : decode cX12_clause 84 = .ok (.iconst (-1), 1) := by decide +kernel
theorem dX12_clause_85 : decode cX12_clause 85 = .ok (.if_icmp .eq 4, 3) := by decide +kernel
theorem dX12_clause_88 : decode cX12_clause 88 = .ok (.return_, 1) := by decide +kernel
theorem dX12_clause_89 : decode cX12_clause 89 = .ok (.aload_n 0, 1) := by decide +kernel
theorem dX12_clause_90 : decode cX12_clause 90 = .ok (.getfield 25, 3) := by decide +kernel
theorem dX12_clause_93 : decode cX12_clause 93 = .ok (.iload_n 1, 1) := by decide +kernel
theorem dX12_clause_94 : decode cX12_clause 94 = .ok (.aload_n 0, 1) := by decide +kernel
theorem dX12_clause_95 : decode cX12_clause 95 = .ok (.getfield 19, 3) := by decide +kernel
theorem dX12_clause_98 : decode cX12_clause 98 = .ok (.aload_n 0, 1) := by decide +kernel
theorem dX12_clause_99 : decode cX12_clause 99 = .ok (.getfield 132, 3) := by decide +kernel
theorem dX12_clause_102 : decode cX12_clause 102 = .ok (.iaload, 1) := by decide +kernel
theorem dX12_clause_103 : decode cX12_clause 103 = .ok (.iastore, 1) := by decide +kernel
theorem dX12_clause_104 : decode cX12_clause 104 = .ok (.aload_n 0, 1) := by decide +kernel
theorem dX12_clause_105 : decode cX12_clause 105 = .ok (.invokevirtual 141, 3) := by decide +kernel
theorem dX12_clause_108 : decode cX12_clause 108 = .ok (.bipush 33, 2) := by decide +kernel
theorem dX12_clause_110 : decode cX12_clause 110 = .ok (.if_icmp .eq 12, 3) := by decide +kernel
theorem dX12_clause_113 : decode cX12_clause 113 = .ok (.aload_n 0, 1) := by decide +kernel
theorem dX12_clause_114 : decode cX12_clause 114 = .ok (.invokevirtual 141, 3) := by decide +kernel
theorem dX12_clause_117 : decode cX12_clause 117 = .ok (.bipush 40, 2) := by decide +kernel
theorem dX12_clause_119 : decode cX12_clause 119 = .ok (.if_icmp .ne 7, 3) := by decide +kernel
theorem dX12_clause_122 : decode cX12_clause 122 = .ok (.iconst 1, 1) := by decide +kernel
theorem dX12_clause_123 : decode cX12_clause 123 = .ok (.goto 4, 3) := by decide +kernel
theorem dX12_clause_126 : decode cX12_clause 126 = .ok (.iconst 0, 1) := by decide +kernel
theorem dX12_clause_127 : decode cX12_clause 127 = .ok (.istore_n 2, 1) := by decide +kernel
theorem dX12_clause_128 : decode cX12_clause 128 = .ok (.iload_n 2, 1) := by decide +kernel
theorem dX12_clause_129 : decode cX12_clause 129 = .ok (.ifCond .eq 10, 3) := by decide +kernel
theorem dX12_clause_132 : decode cX12_clause 132 = .ok (.aload_n 0, 1) := by decide +kernel
theorem dX12_clause_133 : decode cX12_clause 133 = .ok (.invokevirtual 181, 3) := by decide +kernel
theorem dX12_clause_136 : decode cX12_clause 136 = .ok (.goto 47, 3) := by decide +kernel
theorem dX12_clause_139 : decode cX12_clause 139 = .ok (.aload_n 0, 1) := by decide +kernel
theorem dX12_clause_140 : decode cX12_clause 140 = .ok (.invokevirtual 162, 3) := by decide +kernel
theorem dX12_clause_143 : decode cX12_clause 143 = .ok (.aload_n 0, 1) := by decide +kernel
theorem dX12_clause_144 : decode cX12_clause 144 = .ok (.getfield 129, 3) := by decide +kernel
theorem dX12_clause_147 : decode cX12_clause 147 = .ok (.iconst (-1), 1) := by decide +kernel
theorem dX12_clause_148 : decode cX12_clause 148 = .ok (.if_icmp .ne 17, 3) := by decide +kernel
theorem dX12_clause_151 : decode cX12_clause 151 = .ok (.aload_n 0, 1) := by decide +kernel
theorem dX12_clause_152 : decode cX12_clause 152 = .ok (.invokevirtual 141, 3) := by decide +kernel
theorem dX12_clause_155 : decode cX12_clause 155 = .ok (.invokestatic 175, 3) := by decide +kernel
theorem dX12_clause_158 : decode cX12_clause 158 = .ok (.ifCond .eq 7, 3) := by decide +kernel
theorem dX12_clause_161 : decode cX12_clause 161 = .ok (.iconst 1, 1) := by decide +kernel
theorem dX12_clause_162 : decode cX12_clause 162 = .ok (.goto 4, 3) := by decide +kernel
theorem dX12_clause_165 : decode cX12_clause 165 = .ok (.iconst 0, 1) := by decide +kernel
theorem dX12_clause_166 : decode cX12_clause 166 = .ok (.istore_n 2, 1) := by decide +kernel
theorem dX12_clause_167 : decode cX12_clause 167 = .ok (.iload_n 2, 1) := by decide +kernel
theorem dX12_clause_168 : decode cX12_clause 168 = .ok (.ifCond .eq 15, 3) := by decide +kernel
theorem dX12_clause_171 : decode cX12_clause 171 = .ok (.aload_n 0, 1) := by decide +kernel
theorem dX12_clause_172 : decode cX12_clause 172 = .ok (.invokevirtual 184, 3) := by decide +kernel
theorem dX12_clause_175 : decode cX12_clause 175 = .ok (.aload_n 0, 1) := by decide +kernel
theorem dX12_clause_176 : decode cX12_clause 176 = .ok (.invokevirtual 187, 3) := by decide +kernel
theorem dX12_clause_179 : decode cX12_clause 179 = .ok (.aload_n 0, 1) := by decide +kernel
theorem dX12_clause_180 : decode cX12_clause 180 = .ok (.invokevirtual 190, 3) := by decide +kernel
theorem dX12_clause_183 : decode cX12_clause 183 = .ok (.aload_n 0, 1) := by decide +kernel
theorem dX12_clause_184 : decode cX12_clause 184 = .ok (.getfield 28, 3) := by decide +kernel
theorem dX12_clause_187 : decode cX12_clause 187 = .ok (.iload_n 1, 1) := by decide +kernel
theorem dX12_clause_188 : decode cX12_clause 188 = .ok (.aload_n 0, 1) := by decide +kernel
theorem dX12_clause_189 : decode cX12_clause 189 = .ok (.getfield 25, 3) := by decide +kernel
theorem dX12_clause_192 : decode cX12_clause 192 = .ok (.iload_n 1, 1) := by decide +kernel
theorem dX12_clause_193 : decode cX12_clause 193 = .ok (.iaload, 1) := by decide +kernel
theorem dX12_clause_194 : decode cX12_clause 194 = .ok (.iastore, 1) := by decide +kernel
theorem dX12_clause_195 : decode cX12_clause 195 = .ok (.iload_n 2, 1) := by decide +kernel
theorem dX12_clause_196 : decode cX12_clause 196 = .ok (.ifCond .eq 54, 3) := by decide +kernel
theorem dX12_clause_199 : decode cX12_clause 199 = .ok (.aload_n 0, 1) := by decide +kernel
theorem dX12_clause_200 : decode cX12_clause 200 = .ok (.getfield 129, 3) := by decide +kernel
theorem dX12_clause_203 : decode cX12_clause 203 = .ok (.iconst (-1), 1) := by decide +kernel
theorem dX12_clause_204 : decode cX12_clause 204 = .ok (.if_icmp .ne 46, 3) := by decide +kernel
theorem dX12_clause_207 : decode cX12_clause 207 = .ok (.aload_n 0, 1) := by decide +kernel
theorem dX12_clause_208 : decode cX12_clause 208 = .ok (.invokevirtual 141, 3) := by decide +kernel
theorem dX12_clause_211 : decode cX12_clause 211 = .ok (.bipush 63, 2) := by decide +kernel
theorem dX12_clause_213 : decode cX12_clause 213 = .ok (.if_icmp .eq 8, 3) := by decide +kernel
theorem dX12_clause_216 : decode cX12_clause 216 = .ok (.aload_n 0, 1) := by decide +kernel
theorem dX12_clause_217 : decode cX12_clause 217 = .ok (.invokevirtual 138, 3) := by decide +kernel
theorem dX12_clause_220 : decode cX12_clause 220 = .ok (.return_, 1) := by decide +kernel
theorem dX12_clause_221 : decode cX12_clause 221 = .ok (.aload_n 0, 1) := by decide +kernel
theorem dX12_clause_222 : decode cX12_clause 222 = .ok (.dup, 1) := by decide +kernel
theorem dX12_clause_223 : decode cX12_clause 223 = .ok (.getfield 122, 3) := by decide +kernel
theorem dX12_clause_226 : decode cX12_clause 226 = .ok (.iconst 1, 1) := by decide +kernel
theorem dX12_clause_227 : decode cX12_clause 227 = .ok (.iadd, 1) := by decide +kernel
theorem dX12_clause_228 : decode cX12_clause 228 = .ok (.putfield 122, 3) := by decide +kernel
theorem dX12_clause_231 : decode cX12_clause 231 = .ok (.aload_n 0, 1) := by decide +kernel
theorem dX12_clause_232 : decode cX12_clause 232 = .ok (.getfield 28, 3) := by decide +kernel
theorem dX12_clause_235 : decode cX12_clause 235 = .ok (.iload_n 1, 1) := by decide +kernel
theorem dX12_clause_236 : decode cX12_clause 236 = .ok (.aload_n 0, 1) := by decide +kernel
theorem dX12_clause_237 : decode cX12_clause 237 = .ok (.getfield 19, 3) := by decide +kernel
theorem dX12_clause_240 : decode cX12_clause 240 = .ok (.aload_n 0, 1) := by decide +kernel
theorem dX12_clause_241 : decode cX12_clause 241 = .ok (.getfield 132, 3) := by decide +kernel
theorem dX12_clause_244 : decode cX12_clause 244 = .ok (.iaload, 1) := by decide +kernel
theorem dX12_clause_245 : decode cX12_clause 245 = .ok (.iastore, 1) := by decide +kernel
theorem dX12_clause_246 : decode cX12_clause 246 = .ok (.aload_n 0, 1) := by decide +kernel
theorem dX12_clause_247 : decode cX12_clause 247 = .ok (.invokevirtual 162, 3) := by decide +kernel
theorem dX12_clause_250 : decode cX12_clause 250 = .ok (.aload_n 0, 1) := by decide +kernel
theorem dX12_clause_251 : decode cX12_clause 251 = .ok (.getfield 31, 3) := by decide +kernel
theorem dX12_clause_254 : decode cX12_clause 254 = .ok (.iload_n 1, 1) := by decide +kernel
theorem dX12_clause_255 : decode cX12_clause 255 = .ok (.aload_n 0, 1) := by decide +kernel
theorem dX12_clause_256 : decode cX12_clause 256 = .ok (.getfield 19, 3) := by decide +kernel
theorem dX12_clause_259 : decode cX12_clause 259 = .ok (.aload_n 0, 1) := by decide +kernel
theorem dX12_clause_260 : decode cX12_clause 260 = .ok (.getfield 132, 3) := by decide +kernel
theorem dX12_clause_263 : decode cX12_clause 263 = .ok (.iaload, 1) := by decide +kernel
theorem dX12_clause_264 : decode cX12_clause 264 = .ok (.iastore, 1) := by decide +kernel
theorem dX12_clause_265 : decode cX12_clause 265 = .ok (.aload_n 0, 1) := by decide +kernel
theorem dX12_clause_266 : decode cX12_clause 266 = .ok (.getfield 22, 3) := by decide +kernel
theorem dX12_clause_269 : decode cX12_clause 269 = .ok (.aload_n 0, 1) := by decide +kernel
theorem dX12_clause_270 : decode cX12_clause 270 = .ok (.getfield 132, 3) := by decide +kernel
theorem dX12_clause_273 : decode cX12_clause 273 = .ok (.dup2, 1) := by decide +kernel
theorem dX12_clause_274 : decode cX12_clause 274 = .ok (.iaload, 1) := by decide +kernel
theorem dX12_clause_275 : decode cX12_clause 275 = .ok (.iconst 1, 1) := by decide +kernel
theorem dX12_clause_276 : decode cX12_clause 276 = .ok (.iadd, 1) := by decide +kernel
theorem dX12_clause_277 : decode cX12_clause 277 = .ok (.iastore, 1) := by decide +kernel
theorem dX12_clause_278 : decode cX12_clause 278 = .ok (.return_, 1) := by decide +kernel
set_option maxRecDepth 100000 in
theorem u_X12_clause_70 {x : sm_Cx} {n : Nat} {F : sm_MI → sm_ML → Prop} {T : List sm_Sh} {I : sm_MI} {L : sm_ML} {a1 : Int32} (hB : sm_Bs T) (hx : sm_Ok x mX12_clause (n + 1) (sm_KV T F))
    (h : ∀ I1 : sm_MI, I1 = (sm_uI I 76 3 ((I 76 3) + 1)) → ((I1 76 4) = (-1) → vp_in (I1 76 14) 6 ∧ (vp_in a1 540 ∧ (sm_CI n mX12_look T (sm_uI I1 82 (Int32.toNatClampNeg (a1)) (I1 80 (Int32.toNatClampNeg ((I1 76 14))))) L [.ref 76] (fun r3 I2 L2 => (r3 = 33 → sm_V x 0 0 T I2 L2 127 [some (.ref 76), some (.int a1), none] [.int (sm_z true)]) ∧ (¬ r3 = 33 → sm_CI n mX12_look T I2 L2 [.ref 76] (fun r5 I4 L4 => (¬ r5 = 40 → sm_V x 0 0 T I4 L4 127 [some (.ref 76), some (.int a1), none] [.int (sm_z false)]) ∧ (r5 = 40 → sm_V x 0 0 T I4 L4 127 [some (.ref 76), some (.int a1), none] [.int (sm_z true)]))))))) ∧ (¬ (I1 76 4) = (-1) → F I1 L)) :
    sm_V x 0 0 T I L 70 [some (.ref 76), some (.int a1), none] [] :=
  sm_aload_n (z := 76) hx dX12_clause_70 rfl (sm_dup hx dX12_clause_71 rfl (sm_getI hx dX12_clause_72 fl_X12_122_12 (t_76 hB) rfl (sm_iconst (v := 1) hx dX12_clause_75 sm_kc_1 (sm_iadd (a := (I 76 3)) (b := 1) hx dX12_clause_76 (sm_putI hx dX12_clause_77 fl_X12_122_12 (t_76 hB) rfl (sm_aload_n (z := 76) hx dX12_clause_80 rfl (sm_getI hx dX12_clause_81 fl_X12_129_12 (t_76 hB) rfl (sm_iconst (v := (-1)) hx dX12_clause_84 sm_kc_m1 (sm_icmpeq (a := ((sm_uI I 76 3 ((I 76 3) + 1)) 76 4)) (b := (-1)) hx dX12_clause_85 (tgt := 89) (by decide) (fun q3 => sm_aload_n (z := 76) hx dX12_clause_89 rfl (sm_getR hx dX12_clause_90 fl_X12_25_12 (t_76 hB) rfl (sm_iload_n (z := a1) hx dX12_clause_93 rfl (sm_aload_n (z := 76) hx dX12_clause_94 rfl (sm_getR hx dX12_clause_95 fl_X12_19_12 (t_76 hB) rfl (sm_aload_n (z := 76) hx dX12_clause_98 rfl (sm_getI hx dX12_clause_99 fl_X12_132_12 (t_76 hB) rfl (sm_iald (i := ((sm_uI I 76 3 ((I 76 3) + 1)) 76 14)) hx dX12_clause_102 (t_80 hB) ((h _ rfl).1 q3).1 (sm_iast (i := a1) (v := ((sm_uI I 76 3 ((I 76 3) + 1)) 80 (Int32.toNatClampNeg (((sm_uI I 76 3 ((I 76 3) + 1)) 76 14))))) hx dX12_clause_103 (t_82 hB) ((h _ rfl).1 q3).2.1 (sm_aload_n (z := 76) hx dX12_clause_104 rfl (sm_callVI (args := []) (st := []) hx dX12_clause_105 lv_X12_141_12 rfl rfl (t_76 hB) rfl rfl ((h _ rfl).1 q3).2.2 (fun r3 I2 L2 hI2 => sm_bipush (v := 33) hx dX12_clause_108 sm_kb_33 (sm_icmpeq (a := r3) (b := 33) hx dX12_clause_110 (tgt := 122) (by decide) (fun q2 => sm_iconst (v := 1) hx dX12_clause_122 sm_kc_1 (sm_goto hx dX12_clause_123 (tgt := 127) (by decide) ((hI2.1 q2)))) (fun q2 => sm_aload_n (z := 76) hx dX12_clause_113 rfl (sm_callVI (args := []) (st := []) hx dX12_clause_114 lv_X12_141_12 rfl rfl (t_76 hB) rfl rfl (hI2.2 q2) (fun r5 I4 L4 hI4 => sm_bipush (v := 40) hx dX12_clause_117 sm_kb_40 (sm_icmpne (a := r5) (b := 40) hx dX12_clause_119 (tgt := 126) (by decide) (fun q1 => sm_iconst (v := 0) hx dX12_clause_126 sm_kc_0 ((hI4.1 q1))) (fun q1 => sm_iconst (v := 1) hx dX12_clause_122 sm_kc_1 (sm_goto hx dX12_clause_123 (tgt := 127) (by decide) ((hI4.2 q1))))))))))))))))))))) (fun q3 => sm_vretV hx dX12_clause_88 rfl ((h _ rfl).2 q3)))))))))))
set_option maxRecDepth 100000 in
theorem u_X12_clause_127 {x : sm_Cx} {n : Nat} {F : sm_MI → sm_ML → Prop} {T : List sm_Sh} {I : sm_MI} {L : sm_ML} {a1 : Int32} {bs0 : Bool} (hB : sm_Bs T) (hx : sm_Ok x mX12_clause (n + 1) (sm_KV T F))
    (h : (bs0 = false → sm_CV n mX12_sum T I L [.ref 76] (fun I1 L1 => (¬ (I1 76 4) = (-1) → sm_V x 0 0 T I1 L1 183 [some (.ref 76), some (.int a1), some (.int (sm_z false))] []) ∧ ((I1 76 4) = (-1) → sm_CI n mX12_look T I1 L1 [.ref 76] (fun r3 I2 L2 => sm_CZ n mX12_isSign T I2 L2 [.int r3] (fun r5 I4 L4 => (r5 = false → sm_V x 0 0 T I4 L4 183 [some (.ref 76), some (.int a1), some (.int (sm_z false))] []) ∧ (r5 = true → sm_CV n mX12_compare T I4 L4 [.ref 76] (fun I6 L6 => sm_CV n mX12_goOnAnd T I6 L6 [.ref 76] (fun I7 L7 => sm_CV n mX12_goOnOr T I7 L7 [.ref 76] (fun I8 L8 => sm_V x 0 0 T I8 L8 183 [some (.ref 76), some (.int a1), some (.int (sm_z true))] []))))))))) ∧ (bs0 = true → sm_CV n mX12_condition T I L [.ref 76] (fun I9 L9 => sm_V x 0 0 T I9 L9 183 [some (.ref 76), some (.int a1), some (.int (sm_z bs0))] []))) :
    sm_V x 0 0 T I L 127 [some (.ref 76), some (.int a1), none] [.int (sm_z bs0)] :=
  sm_istore_n (ls' := [some (.ref 76), some (.int a1), some (.int (sm_z bs0))]) hx dX12_clause_127 (by decide) rfl (sm_iload_n (z := (sm_z bs0)) hx dX12_clause_128 rfl (sm_ifeqZ (b := bs0) hx dX12_clause_129 (tgt := 139) (by decide) (fun q9 => sm_aload_n (z := 76) hx dX12_clause_139 rfl (sm_callVV (args := []) (st := []) hx dX12_clause_140 lv_X12_162_12 rfl rfl (t_76 hB) rfl rfl (h.1 q9) (fun I1 L1 hI1 => sm_aload_n (z := 76) hx dX12_clause_143 rfl (sm_getI hx dX12_clause_144 fl_X12_129_12 (t_76 hB) rfl (sm_iconst (v := (-1)) hx dX12_clause_147 sm_kc_m1 (sm_icmpne (a := (I1 76 4)) (b := (-1)) hx dX12_clause_148 (tgt := 165) (by decide) (fun q8 => sm_iconst (v := 0) hx dX12_clause_165 sm_kc_0 (sm_istore_n (ls' := [some (.ref 76), some (.int a1), some (.int 0)]) hx dX12_clause_166 (by decide) rfl (sm_iload_n (z := 0) hx dX12_clause_167 rfl (sm_ifeq (a := 0) hx dX12_clause_168 (tgt := 183) (by decide) (fun q4 => (hI1.1 q8)) (fun q4 => absurd q4 (by decide)))))) (fun q8 => sm_aload_n (z := 76) hx dX12_clause_151 rfl (sm_callVI (args := []) (st := []) hx dX12_clause_152 lv_X12_141_12 rfl rfl (t_76 hB) rfl rfl (hI1.2 q8) (fun r3 I2 L2 hI2 => sm_callSZ (args := [.int r3]) (st := []) hx dX12_clause_155 ls_X12_175 rfl rfl rfl hI2 (fun r5 I4 L4 hI4 => sm_ifeqZ (b := r5) hx dX12_clause_158 (tgt := 165) (by decide) (fun q7 => sm_iconst (v := 0) hx dX12_clause_165 sm_kc_0 (sm_istore_n (ls' := [some (.ref 76), some (.int a1), some (.int 0)]) hx dX12_clause_166 (by decide) rfl (sm_iload_n (z := 0) hx dX12_clause_167 rfl (sm_ifeq (a := 0) hx dX12_clause_168 (tgt := 183) (by decide) (fun q5 => (hI4.1 q7)) (fun q5 => absurd q5 (by decide)))))) (fun q7 => sm_iconst (v := 1) hx dX12_clause_161 sm_kc_1 (sm_goto hx dX12_clause_162 (tgt := 166) (by decide) (sm_istore_n (ls' := [some (.ref 76), some (.int a1), some (.int 1)]) hx dX12_clause_166 (by decide) rfl (sm_iload_n (z := 1) hx dX12_clause_167 rfl (sm_ifeq (a := 1) hx dX12_clause_168 (tgt := 183) (by decide) (fun q6 => absurd q6 (by decide)) (fun q6 => sm_aload_n (z := 76) hx dX12_clause_171 rfl (sm_callVV (args := []) (st := []) hx dX12_clause_172 lv_X12_184_12 rfl rfl (t_76 hB) rfl rfl (hI4.2 q7) (fun I6 L6 hI6 => sm_aload_n (z := 76) hx dX12_clause_175 rfl (sm_callVV (args := []) (st := []) hx dX12_clause_176 lv_X12_187_12 rfl rfl (t_76 hB) rfl rfl hI6 (fun I7 L7 hI7 => sm_aload_n (z := 76) hx dX12_clause_179 rfl (sm_callVV (args := []) (st := []) hx dX12_clause_180 lv_X12_190_12 rfl rfl (t_76 hB) rfl rfl hI7 (fun I8 L8 hI8 => hI8)))))))))))))))))))))) (fun q9 => sm_aload_n (z := 76) hx dX12_clause_132 rfl (sm_callVV (args := []) (st := []) hx dX12_clause_133 lv_X12_181_12 rfl rfl (t_76 hB) rfl rfl (h.2 q9) (fun I9 L9 hI9 => sm_goto hx dX12_clause_136 (tgt := 183) (by decide) (hI9))))))
set_option maxRecDepth 100000 in
theorem u_X12_clause_183 {x : sm_Cx} {n : Nat} {F : sm_MI → sm_ML → Prop} {T : List sm_Sh} {I : sm_MI} {L : sm_ML} {a1 : Int32} {b2 : Bool} (hB : sm_Bs T) (hx : sm_Ok x mX12_clause (n + 1) (sm_KV T F))
    (h : vp_in a1 540 ∧ (vp_in a1 540 ∧ ((b2 = false → ∀ I1 : sm_MI, I1 = (sm_uI I 83 (Int32.toNatClampNeg (a1)) (I 82 (Int32.toNatClampNeg (a1)))) → vp_in (I1 76 14) 6 ∧ (vp_in a1 540 ∧ (∀ I2 : sm_MI, I2 = (sm_uI I1 84 (Int32.toNatClampNeg (a1)) (I1 80 (Int32.toNatClampNeg ((I1 76 14))))) → vp_in (I2 76 14) 6 ∧ (vp_in (I2 76 14) 6 ∧ (F (sm_uI I2 81 (Int32.toNatClampNeg ((I2 76 14))) ((I2 81 (Int32.toNatClampNeg ((I2 76 14)))) + 1)) L))))) ∧ (b2 = true → ∀ I3 : sm_MI, I3 = (sm_uI I 83 (Int32.toNatClampNeg (a1)) (I 82 (Int32.toNatClampNeg (a1)))) → (¬ (I3 76 4) = (-1) → vp_in (I3 76 14) 6 ∧ (vp_in a1 540 ∧ (∀ I4 : sm_MI, I4 = (sm_uI I3 84 (Int32.toNatClampNeg (a1)) (I3 80 (Int32.toNatClampNeg ((I3 76 14))))) → vp_in (I4 76 14) 6 ∧ (vp_in (I4 76 14) 6 ∧ (F (sm_uI I4 81 (Int32.toNatClampNeg ((I4 76 14))) ((I4 81 (Int32.toNatClampNeg ((I4 76 14)))) + 1)) L))))) ∧ ((I3 76 4) = (-1) → sm_CI n mX12_look T I3 L [.ref 76] (fun r6 I5 L5 => (r6 = 63 → ∀ I7 : sm_MI, I7 = (sm_uI I5 76 3 ((I5 76 3) + 1)) → vp_in (I7 76 14) 6 ∧ (vp_in a1 540 ∧ (sm_CV n mX12_sum T (sm_uI I7 83 (Int32.toNatClampNeg (a1)) (I7 80 (Int32.toNatClampNeg ((I7 76 14))))) L5 [.ref 76] (fun I8 L8 => vp_in (I8 76 14) 6 ∧ (vp_in a1 540 ∧ (∀ I9 : sm_MI, I9 = (sm_uI I8 84 (Int32.toNatClampNeg (a1)) (I8 80 (Int32.toNatClampNeg ((I8 76 14))))) → vp_in (I9 76 14) 6 ∧ (vp_in (I9 76 14) 6 ∧ (F (sm_uI I9 81 (Int32.toNatClampNeg ((I9 76 14))) ((I9 81 (Int32.toNatClampNeg ((I9 76 14)))) + 1)) L8)))))))) ∧ (¬ r6 = 63 → sm_CV n mX12_bad T I5 L5 [.ref 76] (fun I10 L10 => F I10 L10)))))))) :
    sm_V x 0 0 T I L 183 [some (.ref 76), some (.int a1), some (.int (sm_z b2))] [] :=
  sm_aload_n (z := 76) hx dX12_clause_183 rfl (sm_getR hx dX12_clause_184 fl_X12_28_12 (t_76 hB) rfl (sm_iload_n (z := a1) hx dX12_clause_187 rfl (sm_aload_n (z := 76) hx dX12_clause_188 rfl (sm_getR hx dX12_clause_189 fl_X12_25_12 (t_76 hB) rfl (sm_iload_n (z := a1) hx dX12_clause_192 rfl (sm_iald (i := a1) hx dX12_clause_193 (t_82 hB) h.1 (sm_iast (i := a1) (v := (I 82 (Int32.toNatClampNeg (a1)))) hx dX12_clause_194 (t_83 hB) h.2.1 (sm_iload_n (z := (sm_z b2)) hx dX12_clause_195 rfl (sm_ifeqZ (b := b2) hx dX12_clause_196 (tgt := 250) (by decide) (fun q12 => sm_aload_n (z := 76) hx dX12_clause_250 rfl (sm_getR hx dX12_clause_251 fl_X12_31_12 (t_76 hB) rfl (sm_iload_n (z := a1) hx dX12_clause_254 rfl (sm_aload_n (z := 76) hx dX12_clause_255 rfl (sm_getR hx dX12_clause_256 fl_X12_19_12 (t_76 hB) rfl (sm_aload_n (z := 76) hx dX12_clause_259 rfl (sm_getI hx dX12_clause_260 fl_X12_132_12 (t_76 hB) rfl (sm_iald (i := ((sm_uI I 83 (Int32.toNatClampNeg (a1)) (I 82 (Int32.toNatClampNeg (a1)))) 76 14)) hx dX12_clause_263 (t_80 hB) ((h.2.2.1 q12) _ rfl).1 (sm_iast (i := a1) (v := ((sm_uI I 83 (Int32.toNatClampNeg (a1)) (I 82 (Int32.toNatClampNeg (a1)))) 80 (Int32.toNatClampNeg (((sm_uI I 83 (Int32.toNatClampNeg (a1)) (I 82 (Int32.toNatClampNeg (a1)))) 76 14))))) hx dX12_clause_264 (t_84 hB) ((h.2.2.1 q12) _ rfl).2.1 (sm_aload_n (z := 76) hx dX12_clause_265 rfl (sm_getR hx dX12_clause_266 fl_X12_22_12 (t_76 hB) rfl (sm_aload_n (z := 76) hx dX12_clause_269 rfl (sm_getI hx dX12_clause_270 fl_X12_132_12 (t_76 hB) rfl (sm_dup2 hx dX12_clause_273 rfl rfl (sm_iald (i := ((sm_uI (sm_uI I 83 (Int32.toNatClampNeg (a1)) (I 82 (Int32.toNatClampNeg (a1)))) 84 (Int32.toNatClampNeg (a1)) ((sm_uI I 83 (Int32.toNatClampNeg (a1)) (I 82 (Int32.toNatClampNeg (a1)))) 80 (Int32.toNatClampNeg (((sm_uI I 83 (Int32.toNatClampNeg (a1)) (I 82 (Int32.toNatClampNeg (a1)))) 76 14))))) 76 14)) hx dX12_clause_274 (t_81 hB) (((h.2.2.1 q12) _ rfl).2.2 _ rfl).1 (sm_iconst (v := 1) hx dX12_clause_275 sm_kc_1 (sm_iadd (a := ((sm_uI (sm_uI I 83 (Int32.toNatClampNeg (a1)) (I 82 (Int32.toNatClampNeg (a1)))) 84 (Int32.toNatClampNeg (a1)) ((sm_uI I 83 (Int32.toNatClampNeg (a1)) (I 82 (Int32.toNatClampNeg (a1)))) 80 (Int32.toNatClampNeg (((sm_uI I 83 (Int32.toNatClampNeg (a1)) (I 82 (Int32.toNatClampNeg (a1)))) 76 14))))) 81 (Int32.toNatClampNeg (((sm_uI (sm_uI I 83 (Int32.toNatClampNeg (a1)) (I 82 (Int32.toNatClampNeg (a1)))) 84 (Int32.toNatClampNeg (a1)) ((sm_uI I 83 (Int32.toNatClampNeg (a1)) (I 82 (Int32.toNatClampNeg (a1)))) 80 (Int32.toNatClampNeg (((sm_uI I 83 (Int32.toNatClampNeg (a1)) (I 82 (Int32.toNatClampNeg (a1)))) 76 14))))) 76 14))))) (b := 1) hx dX12_clause_276 (sm_iast (i := ((sm_uI (sm_uI I 83 (Int32.toNatClampNeg (a1)) (I 82 (Int32.toNatClampNeg (a1)))) 84 (Int32.toNatClampNeg (a1)) ((sm_uI I 83 (Int32.toNatClampNeg (a1)) (I 82 (Int32.toNatClampNeg (a1)))) 80 (Int32.toNatClampNeg (((sm_uI I 83 (Int32.toNatClampNeg (a1)) (I 82 (Int32.toNatClampNeg (a1)))) 76 14))))) 76 14)) (v := (((sm_uI (sm_uI I 83 (Int32.toNatClampNeg (a1)) (I 82 (Int32.toNatClampNeg (a1)))) 84 (Int32.toNatClampNeg (a1)) ((sm_uI I 83 (Int32.toNatClampNeg (a1)) (I 82 (Int32.toNatClampNeg (a1)))) 80 (Int32.toNatClampNeg (((sm_uI I 83 (Int32.toNatClampNeg (a1)) (I 82 (Int32.toNatClampNeg (a1)))) 76 14))))) 81 (Int32.toNatClampNeg (((sm_uI (sm_uI I 83 (Int32.toNatClampNeg (a1)) (I 82 (Int32.toNatClampNeg (a1)))) 84 (Int32.toNatClampNeg (a1)) ((sm_uI I 83 (Int32.toNatClampNeg (a1)) (I 82 (Int32.toNatClampNeg (a1)))) 80 (Int32.toNatClampNeg (((sm_uI I 83 (Int32.toNatClampNeg (a1)) (I 82 (Int32.toNatClampNeg (a1)))) 76 14))))) 76 14)))) + 1)) hx dX12_clause_277 (t_81 hB) (((h.2.2.1 q12) _ rfl).2.2 _ rfl).2.1 (sm_vretV hx dX12_clause_278 rfl (((h.2.2.1 q12) _ rfl).2.2 _ rfl).2.2))))))))))))))))))) (fun q12 => sm_aload_n (z := 76) hx dX12_clause_199 rfl (sm_getI hx dX12_clause_200 fl_X12_129_12 (t_76 hB) rfl (sm_iconst (v := (-1)) hx dX12_clause_203 sm_kc_m1 (sm_icmpne (a := ((sm_uI I 83 (Int32.toNatClampNeg (a1)) (I 82 (Int32.toNatClampNeg (a1)))) 76 4)) (b := (-1)) hx dX12_clause_204 (tgt := 250) (by decide) (fun q11 => sm_aload_n (z := 76) hx dX12_clause_250 rfl (sm_getR hx dX12_clause_251 fl_X12_31_12 (t_76 hB) rfl (sm_iload_n (z := a1) hx dX12_clause_254 rfl (sm_aload_n (z := 76) hx dX12_clause_255 rfl (sm_getR hx dX12_clause_256 fl_X12_19_12 (t_76 hB) rfl (sm_aload_n (z := 76) hx dX12_clause_259 rfl (sm_getI hx dX12_clause_260 fl_X12_132_12 (t_76 hB) rfl (sm_iald (i := ((sm_uI I 83 (Int32.toNatClampNeg (a1)) (I 82 (Int32.toNatClampNeg (a1)))) 76 14)) hx dX12_clause_263 (t_80 hB) (((h.2.2.2 q12) _ rfl).1 q11).1 (sm_iast (i := a1) (v := ((sm_uI I 83 (Int32.toNatClampNeg (a1)) (I 82 (Int32.toNatClampNeg (a1)))) 80 (Int32.toNatClampNeg (((sm_uI I 83 (Int32.toNatClampNeg (a1)) (I 82 (Int32.toNatClampNeg (a1)))) 76 14))))) hx dX12_clause_264 (t_84 hB) (((h.2.2.2 q12) _ rfl).1 q11).2.1 (sm_aload_n (z := 76) hx dX12_clause_265 rfl (sm_getR hx dX12_clause_266 fl_X12_22_12 (t_76 hB) rfl (sm_aload_n (z := 76) hx dX12_clause_269 rfl (sm_getI hx dX12_clause_270 fl_X12_132_12 (t_76 hB) rfl (sm_dup2 hx dX12_clause_273 rfl rfl (sm_iald (i := ((sm_uI (sm_uI I 83 (Int32.toNatClampNeg (a1)) (I 82 (Int32.toNatClampNeg (a1)))) 84 (Int32.toNatClampNeg (a1)) ((sm_uI I 83 (Int32.toNatClampNeg (a1)) (I 82 (Int32.toNatClampNeg (a1)))) 80 (Int32.toNatClampNeg (((sm_uI I 83 (Int32.toNatClampNeg (a1)) (I 82 (Int32.toNatClampNeg (a1)))) 76 14))))) 76 14)) hx dX12_clause_274 (t_81 hB) ((((h.2.2.2 q12) _ rfl).1 q11).2.2 _ rfl).1 (sm_iconst (v := 1) hx dX12_clause_275 sm_kc_1 (sm_iadd (a := ((sm_uI (sm_uI I 83 (Int32.toNatClampNeg (a1)) (I 82 (Int32.toNatClampNeg (a1)))) 84 (Int32.toNatClampNeg (a1)) ((sm_uI I 83 (Int32.toNatClampNeg (a1)) (I 82 (Int32.toNatClampNeg (a1)))) 80 (Int32.toNatClampNeg (((sm_uI I 83 (Int32.toNatClampNeg (a1)) (I 82 (Int32.toNatClampNeg (a1)))) 76 14))))) 81 (Int32.toNatClampNeg (((sm_uI (sm_uI I 83 (Int32.toNatClampNeg (a1)) (I 82 (Int32.toNatClampNeg (a1)))) 84 (Int32.toNatClampNeg (a1)) ((sm_uI I 83 (Int32.toNatClampNeg (a1)) (I 82 (Int32.toNatClampNeg (a1)))) 80 (Int32.toNatClampNeg (((sm_uI I 83 (Int32.toNatClampNeg (a1)) (I 82 (Int32.toNatClampNeg (a1)))) 76 14))))) 76 14))))) (b := 1) hx dX12_clause_276 (sm_iast (i := ((sm_uI (sm_uI I 83 (Int32.toNatClampNeg (a1)) (I 82 (Int32.toNatClampNeg (a1)))) 84 (Int32.toNatClampNeg (a1)) ((sm_uI I 83 (Int32.toNatClampNeg (a1)) (I 82 (Int32.toNatClampNeg (a1)))) 80 (Int32.toNatClampNeg (((sm_uI I 83 (Int32.toNatClampNeg (a1)) (I 82 (Int32.toNatClampNeg (a1)))) 76 14))))) 76 14)) (v := (((sm_uI (sm_uI I 83 (Int32.toNatClampNeg (a1)) (I 82 (Int32.toNatClampNeg (a1)))) 84 (Int32.toNatClampNeg (a1)) ((sm_uI I 83 (Int32.toNatClampNeg (a1)) (I 82 (Int32.toNatClampNeg (a1)))) 80 (Int32.toNatClampNeg (((sm_uI I 83 (Int32.toNatClampNeg (a1)) (I 82 (Int32.toNatClampNeg (a1)))) 76 14))))) 81 (Int32.toNatClampNeg (((sm_uI (sm_uI I 83 (Int32.toNatClampNeg (a1)) (I 82 (Int32.toNatClampNeg (a1)))) 84 (Int32.toNatClampNeg (a1)) ((sm_uI I 83 (Int32.toNatClampNeg (a1)) (I 82 (Int32.toNatClampNeg (a1)))) 80 (Int32.toNatClampNeg (((sm_uI I 83 (Int32.toNatClampNeg (a1)) (I 82 (Int32.toNatClampNeg (a1)))) 76 14))))) 76 14)))) + 1)) hx dX12_clause_277 (t_81 hB) ((((h.2.2.2 q12) _ rfl).1 q11).2.2 _ rfl).2.1 (sm_vretV hx dX12_clause_278 rfl ((((h.2.2.2 q12) _ rfl).1 q11).2.2 _ rfl).2.2))))))))))))))))))) (fun q11 => sm_aload_n (z := 76) hx dX12_clause_207 rfl (sm_callVI (args := []) (st := []) hx dX12_clause_208 lv_X12_141_12 rfl rfl (t_76 hB) rfl rfl (((h.2.2.2 q12) _ rfl).2 q11) (fun r6 I5 L5 hI5 => sm_bipush (v := 63) hx dX12_clause_211 sm_kb_63 (sm_icmpeq (a := r6) (b := 63) hx dX12_clause_213 (tgt := 221) (by decide) (fun q10 => sm_aload_n (z := 76) hx dX12_clause_221 rfl (sm_dup hx dX12_clause_222 rfl (sm_getI hx dX12_clause_223 fl_X12_122_12 (t_76 hB) rfl (sm_iconst (v := 1) hx dX12_clause_226 sm_kc_1 (sm_iadd (a := (I5 76 3)) (b := 1) hx dX12_clause_227 (sm_putI hx dX12_clause_228 fl_X12_122_12 (t_76 hB) rfl (sm_aload_n (z := 76) hx dX12_clause_231 rfl (sm_getR hx dX12_clause_232 fl_X12_28_12 (t_76 hB) rfl (sm_iload_n (z := a1) hx dX12_clause_235 rfl (sm_aload_n (z := 76) hx dX12_clause_236 rfl (sm_getR hx dX12_clause_237 fl_X12_19_12 (t_76 hB) rfl (sm_aload_n (z := 76) hx dX12_clause_240 rfl (sm_getI hx dX12_clause_241 fl_X12_132_12 (t_76 hB) rfl (sm_iald (i := ((sm_uI I5 76 3 ((I5 76 3) + 1)) 76 14)) hx dX12_clause_244 (t_80 hB) ((hI5.1 q10) _ rfl).1 (sm_iast (i := a1) (v := ((sm_uI I5 76 3 ((I5 76 3) + 1)) 80 (Int32.toNatClampNeg (((sm_uI I5 76 3 ((I5 76 3) + 1)) 76 14))))) hx dX12_clause_245 (t_83 hB) ((hI5.1 q10) _ rfl).2.1 (sm_aload_n (z := 76) hx dX12_clause_246 rfl (sm_callVV (args := []) (st := []) hx dX12_clause_247 lv_X12_162_12 rfl rfl (t_76 hB) rfl rfl ((hI5.1 q10) _ rfl).2.2 (fun I8 L8 hI8 => sm_aload_n (z := 76) hx dX12_clause_250 rfl (sm_getR hx dX12_clause_251 fl_X12_31_12 (t_76 hB) rfl (sm_iload_n (z := a1) hx dX12_clause_254 rfl (sm_aload_n (z := 76) hx dX12_clause_255 rfl (sm_getR hx dX12_clause_256 fl_X12_19_12 (t_76 hB) rfl (sm_aload_n (z := 76) hx dX12_clause_259 rfl (sm_getI hx dX12_clause_260 fl_X12_132_12 (t_76 hB) rfl (sm_iald (i := (I8 76 14)) hx dX12_clause_263 (t_80 hB) hI8.1 (sm_iast (i := a1) (v := (I8 80 (Int32.toNatClampNeg ((I8 76 14))))) hx dX12_clause_264 (t_84 hB) hI8.2.1 (sm_aload_n (z := 76) hx dX12_clause_265 rfl (sm_getR hx dX12_clause_266 fl_X12_22_12 (t_76 hB) rfl (sm_aload_n (z := 76) hx dX12_clause_269 rfl (sm_getI hx dX12_clause_270 fl_X12_132_12 (t_76 hB) rfl (sm_dup2 hx dX12_clause_273 rfl rfl (sm_iald (i := ((sm_uI I8 84 (Int32.toNatClampNeg (a1)) (I8 80 (Int32.toNatClampNeg ((I8 76 14))))) 76 14)) hx dX12_clause_274 (t_81 hB) (hI8.2.2 _ rfl).1 (sm_iconst (v := 1) hx dX12_clause_275 sm_kc_1 (sm_iadd (a := ((sm_uI I8 84 (Int32.toNatClampNeg (a1)) (I8 80 (Int32.toNatClampNeg ((I8 76 14))))) 81 (Int32.toNatClampNeg (((sm_uI I8 84 (Int32.toNatClampNeg (a1)) (I8 80 (Int32.toNatClampNeg ((I8 76 14))))) 76 14))))) (b := 1) hx dX12_clause_276 (sm_iast (i := ((sm_uI I8 84 (Int32.toNatClampNeg (a1)) (I8 80 (Int32.toNatClampNeg ((I8 76 14))))) 76 14)) (v := (((sm_uI I8 84 (Int32.toNatClampNeg (a1)) (I8 80 (Int32.toNatClampNeg ((I8 76 14))))) 81 (Int32.toNatClampNeg (((sm_uI I8 84 (Int32.toNatClampNeg (a1)) (I8 80 (Int32.toNatClampNeg ((I8 76 14))))) 76 14)))) + 1)) hx dX12_clause_277 (t_81 hB) (hI8.2.2 _ rfl).2.1 (sm_vretV hx dX12_clause_278 rfl (hI8.2.2 _ rfl).2.2)))))))))))))))))))))))))))))))))))) (fun q10 => sm_aload_n (z := 76) hx dX12_clause_216 rfl (sm_callVV (args := []) (st := []) hx dX12_clause_217 lv_X12_138_12 rfl rfl (t_76 hB) rfl rfl (hI5.2 q10) (fun I10 L10 hI10 => sm_vretV hx dX12_clause_220 rfl hI10))))))))))))))))))))
set_option maxRecDepth 100000 in
theorem c_X12_clause {n : Nat} {F : sm_MI → sm_ML → Prop} {T : List sm_Sh} {I : sm_MI} {L : sm_ML}  (hB : sm_Bs T)
    (h : ∀ x : sm_Cx, sm_Ok x mX12_clause (n + 1) (sm_KV T F) → vp_in (I 76 14) 6 ∧ (∀ v1 : Int32, v1 = ((90 * (I 76 14)) + (I 81 (Int32.toNatClampNeg ((I 76 14))))) → (¬ (I 76 4) = (-1) → ∀ I2 : sm_MI, I2 = (sm_uI I 76 3 ((I 76 3) + 1)) → (¬ (I2 76 4) = (-1) → sm_V x 0 0 T I2 L 70 [some (.ref 76), some (.int v1), none] []) ∧ ((I2 76 4) = (-1) → sm_CI n mX12_look T I2 L [.ref 76] (fun r4 I3 L3 => (r4 = 58 → sm_V x 0 0 T I3 L3 70 [some (.ref 76), some (.int v1), none] []) ∧ (¬ r4 = 58 → sm_CV n mX12_bad T I3 L3 [.ref 76] (fun I5 L5 => sm_V x 0 0 T I5 L5 70 [some (.ref 76), some (.int v1), none] []))))) ∧ ((I 76 4) = (-1) → sm_CI n mX12_look T I L [.ref 76] (fun r7 I6 L6 => (r7 = 121 → ∀ I8 : sm_MI, I8 = (sm_uI I6 76 3 ((I6 76 3) + 1)) → (¬ (I8 76 4) = (-1) → sm_V x 0 0 T I8 L6 70 [some (.ref 76), some (.int v1), none] []) ∧ ((I8 76 4) = (-1) → sm_CI n mX12_look T I8 L6 [.ref 76] (fun r10 I9 L9 => (r10 = 58 → sm_V x 0 0 T I9 L9 70 [some (.ref 76), some (.int v1), none] []) ∧ (¬ r10 = 58 → sm_CV n mX12_bad T I9 L9 [.ref 76] (fun I11 L11 => sm_V x 0 0 T I11 L11 70 [some (.ref 76), some (.int v1), none] []))))) ∧ (¬ r7 = 121 → sm_CV n mX12_bad T I6 L6 [.ref 76] (fun I12 L12 => ∀ I13 : sm_MI, I13 = (sm_uI I12 76 3 ((I12 76 3) + 1)) → (¬ (I13 76 4) = (-1) → sm_V x 0 0 T I13 L12 70 [some (.ref 76), some (.int v1), none] []) ∧ ((I13 76 4) = (-1) → sm_CI n mX12_look T I13 L12 [.ref 76] (fun r15 I14 L14 => (r15 = 58 → sm_V x 0 0 T I14 L14 70 [some (.ref 76), some (.int v1), none] []) ∧ (¬ r15 = 58 → sm_CV n mX12_bad T I14 L14 [.ref 76] (fun I16 L16 => sm_V x 0 0 T I16 L16 70 [some (.ref 76), some (.int v1), none] [])))))))))) :
    sm_CV (n + 1) mX12_clause T I L [.ref 76] F :=
  sm_CV.of (by decide +kernel) rfl (fun x hx => show sm_V x 0 0 T I L 0 [some (.ref 76), none, none] [] from
  sm_bipush (v := 90) hx dX12_clause_0 sm_kb_90 (sm_aload_n (z := 76) hx dX12_clause_2 rfl (sm_getI hx dX12_clause_3 fl_X12_132_12 (t_76 hB) rfl (sm_imul (a := 90) (b := (I 76 14)) hx dX12_clause_6 (sm_aload_n (z := 76) hx dX12_clause_7 rfl (sm_getR hx dX12_clause_8 fl_X12_22_12 (t_76 hB) rfl (sm_aload_n (z := 76) hx dX12_clause_11 rfl (sm_getI hx dX12_clause_12 fl_X12_132_12 (t_76 hB) rfl (sm_iald (i := (I 76 14)) hx dX12_clause_15 (t_81 hB) (h x hx).1 (sm_iadd (a := (90 * (I 76 14))) (b := (I 81 (Int32.toNatClampNeg ((I 76 14))))) hx dX12_clause_16 (sm_istore_n (ls' := [some (.ref 76), some (.int ((90 * (I 76 14)) + (I 81 (Int32.toNatClampNeg ((I 76 14)))))), none]) hx dX12_clause_17 (by decide) rfl (sm_aload_n (z := 76) hx dX12_clause_18 rfl (sm_getI hx dX12_clause_19 fl_X12_129_12 (t_76 hB) rfl (sm_iconst (v := (-1)) hx dX12_clause_22 sm_kc_m1 (sm_icmpne (a := (I 76 4)) (b := (-1)) hx dX12_clause_23 (tgt := 39) (by decide) (fun q20 => sm_aload_n (z := 76) hx dX12_clause_39 rfl (sm_dup hx dX12_clause_40 rfl (sm_getI hx dX12_clause_41 fl_X12_122_12 (t_76 hB) rfl (sm_iconst (v := 1) hx dX12_clause_44 sm_kc_1 (sm_iadd (a := (I 76 3)) (b := 1) hx dX12_clause_45 (sm_putI hx dX12_clause_46 fl_X12_122_12 (t_76 hB) rfl (sm_aload_n (z := 76) hx dX12_clause_49 rfl (sm_getI hx dX12_clause_50 fl_X12_129_12 (t_76 hB) rfl (sm_iconst (v := (-1)) hx dX12_clause_53 sm_kc_m1 (sm_icmpne (a := ((sm_uI I 76 3 ((I 76 3) + 1)) 76 4)) (b := (-1)) hx dX12_clause_54 (tgt := 70) (by decide) (fun q14 => (((((h x hx).2 _ rfl).1 q20) _ rfl).1 q14)) (fun q14 => sm_aload_n (z := 76) hx dX12_clause_57 rfl (sm_callVI (args := []) (st := []) hx dX12_clause_58 lv_X12_141_12 rfl rfl (t_76 hB) rfl rfl (((((h x hx).2 _ rfl).1 q20) _ rfl).2 q14) (fun r4 I3 L3 hI3 => sm_bipush (v := 58) hx dX12_clause_61 sm_kb_58 (sm_icmpeq (a := r4) (b := 58) hx dX12_clause_63 (tgt := 70) (by decide) (fun q13 => (hI3.1 q13)) (fun q13 => sm_aload_n (z := 76) hx dX12_clause_66 rfl (sm_callVV (args := []) (st := []) hx dX12_clause_67 lv_X12_138_12 rfl rfl (t_76 hB) rfl rfl (hI3.2 q13) (fun I5 L5 hI5 => hI5))))))))))))))))) (fun q20 => sm_aload_n (z := 76) hx dX12_clause_26 rfl (sm_callVI (args := []) (st := []) hx dX12_clause_27 lv_X12_141_12 rfl rfl (t_76 hB) rfl rfl (((h x hx).2 _ rfl).2 q20) (fun r7 I6 L6 hI6 => sm_bipush (v := 121) hx dX12_clause_30 sm_kb_121 (sm_icmpeq (a := r7) (b := 121) hx dX12_clause_32 (tgt := 39) (by decide) (fun q19 => sm_aload_n (z := 76) hx dX12_clause_39 rfl (sm_dup hx dX12_clause_40 rfl (sm_getI hx dX12_clause_41 fl_X12_122_12 (t_76 hB) rfl (sm_iconst (v := 1) hx dX12_clause_44 sm_kc_1 (sm_iadd (a := (I6 76 3)) (b := 1) hx dX12_clause_45 (sm_putI hx dX12_clause_46 fl_X12_122_12 (t_76 hB) rfl (sm_aload_n (z := 76) hx dX12_clause_49 rfl (sm_getI hx dX12_clause_50 fl_X12_129_12 (t_76 hB) rfl (sm_iconst (v := (-1)) hx dX12_clause_53 sm_kc_m1 (sm_icmpne (a := ((sm_uI I6 76 3 ((I6 76 3) + 1)) 76 4)) (b := (-1)) hx dX12_clause_54 (tgt := 70) (by decide) (fun q16 => (((hI6.1 q19) _ rfl).1 q16)) (fun q16 => sm_aload_n (z := 76) hx dX12_clause_57 rfl (sm_callVI (args := []) (st := []) hx dX12_clause_58 lv_X12_141_12 rfl rfl (t_76 hB) rfl rfl (((hI6.1 q19) _ rfl).2 q16) (fun r10 I9 L9 hI9 => sm_bipush (v := 58) hx dX12_clause_61 sm_kb_58 (sm_icmpeq (a := r10) (b := 58) hx dX12_clause_63 (tgt := 70) (by decide) (fun q15 => (hI9.1 q15)) (fun q15 => sm_aload_n (z := 76) hx dX12_clause_66 rfl (sm_callVV (args := []) (st := []) hx dX12_clause_67 lv_X12_138_12 rfl rfl (t_76 hB) rfl rfl (hI9.2 q15) (fun I11 L11 hI11 => hI11))))))))))))))))) (fun q19 => sm_aload_n (z := 76) hx dX12_clause_35 rfl (sm_callVV (args := []) (st := []) hx dX12_clause_36 lv_X12_138_12 rfl rfl (t_76 hB) rfl rfl (hI6.2 q19) (fun I12 L12 hI12 => sm_aload_n (z := 76) hx dX12_clause_39 rfl (sm_dup hx dX12_clause_40 rfl (sm_getI hx dX12_clause_41 fl_X12_122_12 (t_76 hB) rfl (sm_iconst (v := 1) hx dX12_clause_44 sm_kc_1 (sm_iadd (a := (I12 76 3)) (b := 1) hx dX12_clause_45 (sm_putI hx dX12_clause_46 fl_X12_122_12 (t_76 hB) rfl (sm_aload_n (z := 76) hx dX12_clause_49 rfl (sm_getI hx dX12_clause_50 fl_X12_129_12 (t_76 hB) rfl (sm_iconst (v := (-1)) hx dX12_clause_53 sm_kc_m1 (sm_icmpne (a := ((sm_uI I12 76 3 ((I12 76 3) + 1)) 76 4)) (b := (-1)) hx dX12_clause_54 (tgt := 70) (by decide) (fun q18 => ((hI12 _ rfl).1 q18)) (fun q18 => sm_aload_n (z := 76) hx dX12_clause_57 rfl (sm_callVI (args := []) (st := []) hx dX12_clause_58 lv_X12_141_12 rfl rfl (t_76 hB) rfl rfl ((hI12 _ rfl).2 q18) (fun r15 I14 L14 hI14 => sm_bipush (v := 58) hx dX12_clause_61 sm_kb_58 (sm_icmpeq (a := r15) (b := 58) hx dX12_clause_63 (tgt := 70) (by decide) (fun q17 => (hI14.1 q17)) (fun q17 => sm_aload_n (z := 76) hx dX12_clause_66 rfl (sm_callVV (args := []) (st := []) hx dX12_clause_67 lv_X12_138_12 rfl rfl (t_76 hB) rfl rfl (hI14.2 q17) (fun I16 L16 hI16 => hI16))))))))))))))))))))))))))))))))))))))
theorem dX12_open_0 : decode cX12_open 0 = .ok (.aload_n 0, 1) := by decide +kernel
theorem dX12_open_1 : decode cX12_open 1 = .ok (.iload_n 1, 1) := by decide +kernel
theorem dX12_open_2 : decode cX12_open 2 = .ok (.putfield 132, 3) := by decide +kernel
theorem dX12_open_5 : decode cX12_open 5 = .ok (.aload_n 0, 1) := by decide +kernel
theorem dX12_open_6 : decode cX12_open 6 = .ok (.iconst 0, 1) := by decide +kernel
theorem dX12_open_7 : decode cX12_open 7 = .ok (.putfield 122, 3) := by decide +kernel
theorem dX12_open_10 : decode cX12_open 10 = .ok (.aload_n 0, 1) := by decide +kernel
theorem dX12_open_11 : decode cX12_open 11 = .ok (.iconst (-1), 1) := by decide +kernel
theorem dX12_open_12 : decode cX12_open 12 = .ok (.putfield 129, 3) := by decide +kernel
theorem dX12_open_15 : decode cX12_open 15 = .ok (.aload_n 0, 1) := by decide +kernel
theorem dX12_open_16 : decode cX12_open 16 = .ok (.iconst 0, 1) := by decide +kernel
theorem dX12_open_17 : decode cX12_open 17 = .ok (.putfield 135, 3) := by decide +kernel
theorem dX12_open_20 : decode cX12_open 20 = .ok (.aload_n 0, 1) := by decide +kernel
theorem dX12_open_21 : decode cX12_open 21 = .ok (.getfield 19, 3) := by decide +kernel
theorem dX12_open_24 : decode cX12_open 24 = .ok (.iload_n 1, 1) := by decide +kernel
theorem dX12_open_25 : decode cX12_open 25 = .ok (.iconst 0, 1) := by decide +kernel
theorem dX12_open_26 : decode cX12_open 26 = .ok (.iastore, 1) := by decide +kernel
theorem dX12_open_27 : decode cX12_open 27 = .ok (.aload_n 0, 1) := by decide +kernel
theorem dX12_open_28 : decode cX12_open 28 = .ok (.getfield 22, 3) := by decide +kernel
theorem dX12_open_31 : decode cX12_open 31 = .ok (.iload_n 1, 1) := by decide +kernel
theorem dX12_open_32 : decode cX12_open 32 = .ok (.iconst 0, 1) := by decide +kernel
theorem dX12_open_33 : decode cX12_open 33 = .ok (.iastore, 1) := by decide +kernel
theorem dX12_open_34 : decode cX12_open 34 = .ok (.return_, 1) := by decide +kernel
set_option maxRecDepth 100000 in
theorem c_X12_open {n : Nat} {F : sm_MI → sm_ML → Prop} {T : List sm_Sh} {I : sm_MI} {L : sm_ML} {a1 : Int32} (hB : sm_Bs T)
    (h : vp_in a1 6 ∧ (vp_in a1 6 ∧ (F (sm_uI (sm_uI (sm_uI (sm_uI (sm_uI (sm_uI I 76 14 a1) 76 3 0) 76 4 (-1)) 76 5 0) 80 (Int32.toNatClampNeg (a1)) 0) 81 (Int32.toNatClampNeg (a1)) 0) L))) :
    sm_CV n mX12_open T I L [.ref 76, .int a1] F :=
  sm_CV.of (by decide +kernel) rfl (fun x hx => show sm_V x 0 0 T I L 0 [some (.ref 76), some (.int a1)] [] from
  sm_aload_n (z := 76) hx dX12_open_0 rfl (sm_iload_n (z := a1) hx dX12_open_1 rfl (sm_putI hx dX12_open_2 fl_X12_132_12 (t_76 hB) rfl (sm_aload_n (z := 76) hx dX12_open_5 rfl (sm_iconst (v := 0) hx dX12_open_6 sm_kc_0 (sm_putI hx dX12_open_7 fl_X12_122_12 (t_76 hB) rfl (sm_aload_n (z := 76) hx dX12_open_10 rfl (sm_iconst (v := (-1)) hx dX12_open_11 sm_kc_m1 (sm_putI hx dX12_open_12 fl_X12_129_12 (t_76 hB) rfl (sm_aload_n (z := 76) hx dX12_open_15 rfl (sm_iconst (v := 0) hx dX12_open_16 sm_kc_0 (sm_putI hx dX12_open_17 fl_X12_135_12 (t_76 hB) rfl (sm_aload_n (z := 76) hx dX12_open_20 rfl (sm_getR hx dX12_open_21 fl_X12_19_12 (t_76 hB) rfl (sm_iload_n (z := a1) hx dX12_open_24 rfl (sm_iconst (v := 0) hx dX12_open_25 sm_kc_0 (sm_iast (i := a1) (v := 0) hx dX12_open_26 (t_80 hB) h.1 (sm_aload_n (z := 76) hx dX12_open_27 rfl (sm_getR hx dX12_open_28 fl_X12_22_12 (t_76 hB) rfl (sm_iload_n (z := a1) hx dX12_open_31 rfl (sm_iconst (v := 0) hx dX12_open_32 sm_kc_0 (sm_iast (i := a1) (v := 0) hx dX12_open_33 (t_81 hB) h.2.1 (sm_vretV hx dX12_open_34 rfl h.2.2)))))))))))))))))))))))
theorem dX12_atEnd_0 : decode cX12_atEnd 0 = .ok (.aload_n 0, 1) := by decide +kernel
theorem dX12_atEnd_1 : decode cX12_atEnd 1 = .ok (.getfield 129, 3) := by decide +kernel
theorem dX12_atEnd_4 : decode cX12_atEnd 4 = .ok (.iconst (-1), 1) := by decide +kernel
theorem dX12_atEnd_5 : decode cX12_atEnd 5 = .ok (.if_icmp .ne 15, 3) := by decide +kernel
theorem dX12_atEnd_8 : decode cX12_atEnd 8 = .ok (.aload_n 0, 1) := by decide +kernel
theorem dX12_atEnd_9 : decode cX12_atEnd 9 = .ok (.invokevirtual 141, 3) := by decide +kernel
theorem dX12_atEnd_12 : decode cX12_atEnd 12 = .ok (.iconst (-1), 1) := by decide +kernel
theorem dX12_atEnd_13 : decode cX12_atEnd 13 = .ok (.if_icmp .eq 7, 3) := by decide +kernel
theorem dX12_atEnd_16 : decode cX12_atEnd 16 = .ok (.aload_n 0, 1) := by decide +kernel
theorem dX12_atEnd_17 : decode cX12_atEnd 17 = .ok (.invokevirtual 138, 3) := by decide +kernel
theorem dX12_atEnd_20 : decode cX12_atEnd 20 = .ok (.aload_n 0, 1) := by decide +kernel
theorem dX12_atEnd_21 : decode cX12_atEnd 21 = .ok (.getfield 129, 3) := by decide +kernel
theorem dX12_atEnd_24 : decode cX12_atEnd 24 = .ok (.ireturn, 1) := by decide +kernel
set_option maxRecDepth 100000 in
theorem c_X12_atEnd {n : Nat} {F : Int32 → sm_MI → sm_ML → Prop} {T : List sm_Sh} {I : sm_MI} {L : sm_ML}  (hB : sm_Bs T)
    (h : (¬ (I 76 4) = (-1) → F (I 76 4) I L) ∧ ((I 76 4) = (-1) → sm_CI n mX12_look T I L [.ref 76] (fun r2 I1 L1 => (r2 = (-1) → F (I1 76 4) I1 L1) ∧ (¬ r2 = (-1) → sm_CV n mX12_bad T I1 L1 [.ref 76] (fun I3 L3 => F (I3 76 4) I3 L3))))) :
    sm_CI (n + 1) mX12_atEnd T I L [.ref 76] F :=
  sm_CI.of (by decide +kernel) rfl (fun x hx => show sm_V x 0 0 T I L 0 [some (.ref 76)] [] from
  sm_aload_n (z := 76) hx dX12_atEnd_0 rfl (sm_getI hx dX12_atEnd_1 fl_X12_129_12 (t_76 hB) rfl (sm_iconst (v := (-1)) hx dX12_atEnd_4 sm_kc_m1 (sm_icmpne (a := (I 76 4)) (b := (-1)) hx dX12_atEnd_5 (tgt := 20) (by decide) (fun q2 => sm_aload_n (z := 76) hx dX12_atEnd_20 rfl (sm_getI hx dX12_atEnd_21 fl_X12_129_12 (t_76 hB) rfl (sm_iretI hx dX12_atEnd_24 rfl (h.1 q2)))) (fun q2 => sm_aload_n (z := 76) hx dX12_atEnd_8 rfl (sm_callVI (args := []) (st := []) hx dX12_atEnd_9 lv_X12_141_12 rfl rfl (t_76 hB) rfl rfl (h.2 q2) (fun r2 I1 L1 hI1 => sm_iconst (v := (-1)) hx dX12_atEnd_12 sm_kc_m1 (sm_icmpeq (a := r2) (b := (-1)) hx dX12_atEnd_13 (tgt := 20) (by decide) (fun q1 => sm_aload_n (z := 76) hx dX12_atEnd_20 rfl (sm_getI hx dX12_atEnd_21 fl_X12_129_12 (t_76 hB) rfl (sm_iretI hx dX12_atEnd_24 rfl (hI1.1 q1)))) (fun q1 => sm_aload_n (z := 76) hx dX12_atEnd_16 rfl (sm_callVV (args := []) (st := []) hx dX12_atEnd_17 lv_X12_138_12 rfl rfl (t_76 hB) rfl rfl (hI1.2 q1) (fun I3 L3 hI3 => sm_aload_n (z := 76) hx dX12_atEnd_20 rfl (sm_getI hx dX12_atEnd_21 fl_X12_129_12 (t_76 hB) rfl (sm_iretI hx dX12_atEnd_24 rfl hI3)))))))))))))
theorem dX12_readLaw_0 : decode cX12_readLaw 0 = .ok (.aload_n 0, 1) := by decide +kernel
theorem dX12_readLaw_1 : decode cX12_readLaw 1 = .ok (.iload_n 1, 1) := by decide +kernel
theorem dX12_readLaw_2 : decode cX12_readLaw 2 = .ok (.invokevirtual 193, 3) := by decide +kernel
theorem dX12_readLaw_5 : decode cX12_readLaw 5 = .ok (.aload_n 0, 1) := by decide +kernel
theorem dX12_readLaw_6 : decode cX12_readLaw 6 = .ok (.invokevirtual 196, 3) := by decide +kernel
theorem dX12_readLaw_9 : decode cX12_readLaw 9 = .ok (.aload_n 0, 1) := by decide +kernel
theorem dX12_readLaw_10 : decode cX12_readLaw 10 = .ok (.getfield 129, 3) := by decide +kernel
theorem dX12_readLaw_13 : decode cX12_readLaw 13 = .ok (.iconst (-1), 1) := by decide +kernel
theorem dX12_readLaw_14 : decode cX12_readLaw 14 = .ok (.if_icmp .ne 29, 3) := by decide +kernel
theorem dX12_readLaw_17 : decode cX12_readLaw 17 = .ok (.aload_n 0, 1) := by decide +kernel
theorem dX12_readLaw_18 : decode cX12_readLaw 18 = .ok (.invokevirtual 141, 3) := by decide +kernel
theorem dX12_readLaw_21 : decode cX12_readLaw 21 = .ok (.bipush 59, 2) := by decide +kernel
theorem dX12_readLaw_23 : decode cX12_readLaw 23 = .ok (.if_icmp .ne 20, 3) := by decide +kernel
theorem dX12_readLaw_26 : decode cX12_readLaw 26 = .ok (.aload_n 0, 1) := by decide +kernel
theorem dX12_readLaw_27 : decode cX12_readLaw 27 = .ok (.dup, 1) := by decide +kernel
theorem dX12_readLaw_28 : decode cX12_readLaw 28 = .ok (.getfield 122, 3) := by decide +kernel
theorem dX12_readLaw_31 : decode cX12_readLaw 31 = .ok (.iconst 1, 1) := by decide +kernel
theorem dX12_readLaw_32 : decode cX12_readLaw 32 = .ok (.iadd, 1) := by decide +kernel
theorem dX12_readLaw_33 : decode cX12_readLaw 33 = .ok (.putfield 122, 3) := by decide +kernel
theorem dX12_readLaw_36 : decode cX12_readLaw 36 = .ok (.aload_n 0, 1) := by decide +kernel
theorem dX12_readLaw_37 : decode cX12_readLaw 37 = .ok (.invokevirtual 196, 3) := by decide +kernel
theorem dX12_readLaw_40 : decode cX12_readLaw 40 = .ok (.goto (-31), 3) := by decide +kernel
theorem dX12_readLaw_43 : decode cX12_readLaw 43 = .ok (.aload_n 0, 1) := by decide +kernel
theorem dX12_readLaw_44 : decode cX12_readLaw 44 = .ok (.invokevirtual 199, 3) := by decide +kernel
theorem dX12_readLaw_47 : decode cX12_readLaw 47 = .ok (.ireturn, 1) := by decide +kernel
set_option maxRecDepth 100000 in
theorem u_X12_readLaw_9 {x : sm_Cx} {n : Nat} {F : Int32 → sm_MI → sm_ML → Prop} {T : List sm_Sh} {I : sm_MI} {L : sm_ML} {a1 : Int32} (hB : sm_Bs T) (hx : sm_Ok x mX12_readLaw (n + 1) (sm_KI T F))
    (h : (¬ (I 76 4) = (-1) → sm_CI n mX12_atEnd T I L [.ref 76] (fun r2 I1 L1 => F r2 I1 L1)) ∧ ((I 76 4) = (-1) → sm_CI n mX12_look T I L [.ref 76] (fun r4 I3 L3 => (¬ r4 = 59 → sm_CI n mX12_atEnd T I3 L3 [.ref 76] (fun r6 I5 L5 => F r6 I5 L5)) ∧ (r4 = 59 → sm_CV n mX12_clause T (sm_uI I3 76 3 ((I3 76 3) + 1)) L3 [.ref 76] (fun I7 L7 => sm_V x 0 0 T I7 L7 9 [some (.ref 76), some (.int a1)] []))))) :
    sm_V x 0 0 T I L 9 [some (.ref 76), some (.int a1)] [] :=
  sm_aload_n (z := 76) hx dX12_readLaw_9 rfl (sm_getI hx dX12_readLaw_10 fl_X12_129_12 (t_76 hB) rfl (sm_iconst (v := (-1)) hx dX12_readLaw_13 sm_kc_m1 (sm_icmpne (a := (I 76 4)) (b := (-1)) hx dX12_readLaw_14 (tgt := 43) (by decide) (fun q2 => sm_aload_n (z := 76) hx dX12_readLaw_43 rfl (sm_callVI (args := []) (st := []) hx dX12_readLaw_44 lv_X12_199_12 rfl rfl (t_76 hB) rfl rfl (h.1 q2) (fun r2 I1 L1 hI1 => sm_iretI hx dX12_readLaw_47 rfl hI1))) (fun q2 => sm_aload_n (z := 76) hx dX12_readLaw_17 rfl (sm_callVI (args := []) (st := []) hx dX12_readLaw_18 lv_X12_141_12 rfl rfl (t_76 hB) rfl rfl (h.2 q2) (fun r4 I3 L3 hI3 => sm_bipush (v := 59) hx dX12_readLaw_21 sm_kb_59 (sm_icmpne (a := r4) (b := 59) hx dX12_readLaw_23 (tgt := 43) (by decide) (fun q1 => sm_aload_n (z := 76) hx dX12_readLaw_43 rfl (sm_callVI (args := []) (st := []) hx dX12_readLaw_44 lv_X12_199_12 rfl rfl (t_76 hB) rfl rfl (hI3.1 q1) (fun r6 I5 L5 hI5 => sm_iretI hx dX12_readLaw_47 rfl hI5))) (fun q1 => sm_aload_n (z := 76) hx dX12_readLaw_26 rfl (sm_dup hx dX12_readLaw_27 rfl (sm_getI hx dX12_readLaw_28 fl_X12_122_12 (t_76 hB) rfl (sm_iconst (v := 1) hx dX12_readLaw_31 sm_kc_1 (sm_iadd (a := (I3 76 3)) (b := 1) hx dX12_readLaw_32 (sm_putI hx dX12_readLaw_33 fl_X12_122_12 (t_76 hB) rfl (sm_aload_n (z := 76) hx dX12_readLaw_36 rfl (sm_callVV (args := []) (st := []) hx dX12_readLaw_37 lv_X12_196_12 rfl rfl (t_76 hB) rfl rfl (hI3.2 q1) (fun I7 L7 hI7 => sm_goto hx dX12_readLaw_40 (tgt := 9) (by decide) (hI7)))))))))))))))))
set_option maxRecDepth 100000 in
theorem c_X12_readLaw {n : Nat} {F : Int32 → sm_MI → sm_ML → Prop} {T : List sm_Sh} {I : sm_MI} {L : sm_ML} {a1 : Int32} (hB : sm_Bs T)
    (h : ∀ x : sm_Cx, sm_Ok x mX12_readLaw (n + 1) (sm_KI T F) → sm_CV n mX12_open T I L [.ref 76, .int a1] (fun I1 L1 => sm_CV n mX12_clause T I1 L1 [.ref 76] (fun I2 L2 => sm_V x 0 0 T I2 L2 9 [some (.ref 76), some (.int a1)] []))) :
    sm_CI (n + 1) mX12_readLaw T I L [.ref 76, .int a1] F :=
  sm_CI.of (by decide +kernel) rfl (fun x hx => show sm_V x 0 0 T I L 0 [some (.ref 76), some (.int a1)] [] from
  sm_aload_n (z := 76) hx dX12_readLaw_0 rfl (sm_iload_n (z := a1) hx dX12_readLaw_1 rfl (sm_callVV (args := [.int a1]) (st := []) hx dX12_readLaw_2 lv_X12_193_12 rfl rfl (t_76 hB) rfl rfl (h x hx) (fun I1 L1 hI1 => sm_aload_n (z := 76) hx dX12_readLaw_5 rfl (sm_callVV (args := []) (st := []) hx dX12_readLaw_6 lv_X12_196_12 rfl rfl (t_76 hB) rfl rfl hI1 (fun I2 L2 hI2 => hI2))))))
theorem dX12_bounded_0 : decode cX12_bounded 0 = .ok (.ldc2_w 202, 3) := by decide +kernel
theorem dX12_bounded_3 : decode cX12_bounded 3 = .ok (.ldc2_w 204, 3) := by decide +kernel
theorem dX12_bounded_6 : decode cX12_bounded 6 = .ok (.lload_n 0, 1) := by decide +kernel
theorem dX12_bounded_7 : decode cX12_bounded 7 = .ok (.invokestatic 206, 3) := by decide +kernel
theorem dX12_bounded_10 : decode cX12_bounded 10 = .ok (.invokestatic 212, 3) := by decide +kernel
theorem dX12_bounded_13 : decode cX12_bounded 13 = .ok (.l2i, 1) := by decide +kernel
theorem dX12_bounded_14 : decode cX12_bounded 14 = .ok (.ireturn, 1) := by decide +kernel
set_option maxRecDepth 100000 in
theorem c_X12_bounded {n : Nat} {F : Int32 → sm_MI → sm_ML → Prop} {T : List sm_Sh} {I : sm_MI} {L : sm_ML} {l0 : Int64} (hB : sm_Bs T)
    (h : F (Int64.toInt32 (if (if l0 < 1000000 then l0 else 1000000) < (-1000000) then (-1000000) else (if l0 < 1000000 then l0 else 1000000))) I L) :
    sm_CI (n + 1) mX12_bounded T I L [.long l0] F :=
  sm_CI.of (by decide +kernel) rfl (fun x hx => show sm_V x 0 0 T I L 0 [some (.long l0), none] [] from
  sm_ldc2 (v := (-1000000)) hx dX12_bounded_0 k_X12_202 (sm_ldc2 (v := 1000000) hx dX12_bounded_3 k_X12_204 (sm_lload_n (z := l0) hx dX12_bounded_6 rfl (sm_mmin_long (a := 1000000) (b := l0) hx dX12_bounded_7 ml_X12_206 mm_min_long1 mm_2 mm_min_long3 rfl (sm_mmax_long (a := (-1000000)) (b := (if l0 < 1000000 then l0 else 1000000)) hx dX12_bounded_10 ml_X12_212 mm_max_long1 mm_2 mm_max_long3 rfl (sm_l2i (a := (if (if l0 < 1000000 then l0 else 1000000) < (-1000000) then (-1000000) else (if l0 < 1000000 then l0 else 1000000))) hx dX12_bounded_13 (sm_iretI hx dX12_bounded_14 rfl h)))))))
theorem dX12_worked_0 : decode cX12_worked 0 = .ok (.iload_n 0, 1) := by decide +kernel
theorem dX12_worked_1 : decode cX12_worked 1 = .ok (.tableswitch 143 2 10 #[51, 58, 65, 72, 89, 101, 113, 143, 125], 51) := by decide +kernel
theorem dX12_worked_52 : decode cX12_worked 52 = .ok (.lload_n 1, 1) := by decide +kernel
theorem dX12_worked_53 : decode cX12_worked 53 = .ok (.lload_n 3, 1) := by decide +kernel
theorem dX12_worked_54 : decode cX12_worked 54 = .ok (.ladd, 1) := by decide +kernel
theorem dX12_worked_55 : decode cX12_worked 55 = .ok (.invokestatic 215, 3) := by decide +kernel
theorem dX12_worked_58 : decode cX12_worked 58 = .ok (.ireturn, 1) := by decide +kernel
theorem dX12_worked_59 : decode cX12_worked 59 = .ok (.lload_n 1, 1) := by decide +kernel
theorem dX12_worked_60 : decode cX12_worked 60 = .ok (.lload_n 3, 1) := by decide +kernel
theorem dX12_worked_61 : decode cX12_worked 61 = .ok (.lsub, 1) := by decide +kernel
theorem dX12_worked_62 : decode cX12_worked 62 = .ok (.invokestatic 215, 3) := by decide +kernel
theorem dX12_worked_65 : decode cX12_worked 65 = .ok (.ireturn, 1) := by decide +kernel
theorem dX12_worked_66 : decode cX12_worked 66 = .ok (.lload_n 1, 1) := by decide +kernel
theorem dX12_worked_67 : decode cX12_worked 67 = .ok (.lload_n 3, 1) := by decide +kernel
theorem dX12_worked_68 : decode cX12_worked 68 = .ok (.lmul, 1) := by decide +kernel
theorem dX12_worked_69 : decode cX12_worked 69 = .ok (.invokestatic 215, 3) := by decide +kernel
theorem dX12_worked_72 : decode cX12_worked 72 = .ok (.ireturn, 1) := by decide +kernel
theorem dX12_worked_73 : decode cX12_worked 73 = .ok (.lload_n 3, 1) := by decide +kernel
theorem dX12_worked_74 : decode cX12_worked 74 = .ok (.lconst 0, 1) := by decide +kernel
theorem dX12_worked_75 : decode cX12_worked 75 = .ok (.lcmp, 1) := by decide +kernel
theorem dX12_worked_76 : decode cX12_worked 76 = .ok (.ifCond .ne 7, 3) := by decide +kernel
theorem dX12_worked_79 : decode cX12_worked 79 = .ok (.iconst 0, 1) := by decide +kernel
theorem dX12_worked_80 : decode cX12_worked 80 = .ok (.goto 9, 3) := by decide +kernel
theorem dX12_worked_83 : decode cX12_worked 83 = .ok (.lload_n 1, 1) := by decide +kernel
theorem dX12_worked_84 : decode cX12_worked 84 = .ok (.lload_n 3, 1) := by decide +kernel
theorem dX12_worked_85 : decode cX12_worked 85 = .ok (.ldiv, 1) := by decide +kernel
theorem dX12_worked_86 : decode cX12_worked 86 = .ok (.invokestatic 215, 3) := by decide +kernel
theorem dX12_worked_89 : decode cX12_worked 89 = .ok (.ireturn, 1) := by decide +kernel
theorem dX12_worked_90 : decode cX12_worked 90 = .ok (.lload_n 1, 1) := by decide +kernel
theorem dX12_worked_91 : decode cX12_worked 91 = .ok (.lload_n 3, 1) := by decide +kernel
theorem dX12_worked_92 : decode cX12_worked 92 = .ok (.lcmp, 1) := by decide +kernel
theorem dX12_worked_93 : decode cX12_worked 93 = .ok (.ifCond .ne 7, 3) := by decide +kernel
theorem dX12_worked_96 : decode cX12_worked 96 = .ok (.iconst 1, 1) := by decide +kernel
theorem dX12_worked_97 : decode cX12_worked 97 = .ok (.goto 4, 3) := by decide +kernel
theorem dX12_worked_100 : decode cX12_worked 100 = .ok (.iconst 0, 1) := by decide +kernel
theorem dX12_worked_101 : decode cX12_worked 101 = .ok (.ireturn, 1) := by decide +kernel
theorem dX12_worked_102 : decode cX12_worked 102 = .ok (.lload_n 1, 1) := by decide +kernel
theorem dX12_worked_103 : decode cX12_worked 103 = .ok (.lload_n 3, 1) := by decide +kernel
theorem dX12_worked_104 : decode cX12_worked 104 = .ok (.lcmp, 1) := by decide +kernel
theorem dX12_worked_105 : decode cX12_worked 105 = .ok (.ifCond .ge 7, 3) := by decide +kernel
theorem dX12_worked_108 : decode cX12_worked 108 = .ok (.iconst 1, 1) := by decide +kernel
theorem dX12_worked_109 : decode cX12_worked 109 = .ok (.goto 4, 3) := by decide +kernel
theorem dX12_worked_112 : decode cX12_worked 112 = .ok (.iconst 0, 1) := by decide +kernel
theorem dX12_worked_113 : decode cX12_worked 113 = .ok (.ireturn, 1) := by decide +kernel
theorem dX12_worked_114 : decode cX12_worked 114 = .ok (.lload_n 1, 1) := by decide +kernel
theorem dX12_worked_115 : decode cX12_worked 115 = .ok (.lload_n 3, 1) := by decide +kernel
theorem dX12_worked_116 : decode cX12_worked 116 = .ok (.lcmp, 1) := by decide +kernel
theorem dX12_worked_117 : decode cX12_worked 117 = .ok (.ifCond .le 7, 3) := by decide +kernel
theorem dX12_worked_120 : decode cX12_worked 120 = .ok (.iconst 1, 1) := by decide +kernel
theorem dX12_worked_121 : decode cX12_worked 121 = .ok (.goto 4, 3) := by decide +kernel
theorem dX12_worked_124 : decode cX12_worked 124 = .ok (.iconst 0, 1) := by decide +kernel
theorem dX12_worked_125 : decode cX12_worked 125 = .ok (.ireturn, 1) := by decide +kernel
theorem dX12_worked_126 : decode cX12_worked 126 = .ok (.lload_n 1, 1) := by decide +kernel
theorem dX12_worked_127 : decode cX12_worked 127 = .ok (.lconst 0, 1) := by decide +kernel
theorem dX12_worked_128 : decode cX12_worked 128 = .ok (.lcmp, 1) := by decide +kernel
theorem dX12_worked_129 : decode cX12_worked 129 = .ok (.ifCond .eq 13, 3) := by decide +kernel
theorem dX12_worked_132 : decode cX12_worked 132 = .ok (.lload_n 3, 1) := by decide +kernel
theorem dX12_worked_133 : decode cX12_worked 133 = .ok (.lconst 0, 1) := by decide +kernel
theorem dX12_worked_134 : decode cX12_worked 134 = .ok (.lcmp, 1) := by decide +kernel
theorem dX12_worked_135 : decode cX12_worked 135 = .ok (.ifCond .eq 7, 3) := by decide +kernel
theorem dX12_worked_138 : decode cX12_worked 138 = .ok (.iconst 1, 1) := by decide +kernel
theorem dX12_worked_139 : decode cX12_worked 139 = .ok (.goto 4, 3) := by decide +kernel
theorem dX12_worked_142 : decode cX12_worked 142 = .ok (.iconst 0, 1) := by decide +kernel
theorem dX12_worked_143 : decode cX12_worked 143 = .ok (.ireturn, 1) := by decide +kernel
theorem dX12_worked_144 : decode cX12_worked 144 = .ok (.lload_n 1, 1) := by decide +kernel
theorem dX12_worked_145 : decode cX12_worked 145 = .ok (.lconst 0, 1) := by decide +kernel
theorem dX12_worked_146 : decode cX12_worked 146 = .ok (.lcmp, 1) := by decide +kernel
theorem dX12_worked_147 : decode cX12_worked 147 = .ok (.ifCond .ne 9, 3) := by decide +kernel
theorem dX12_worked_150 : decode cX12_worked 150 = .ok (.lload_n 3, 1) := by decide +kernel
theorem dX12_worked_151 : decode cX12_worked 151 = .ok (.lconst 0, 1) := by decide +kernel
theorem dX12_worked_152 : decode cX12_worked 152 = .ok (.lcmp, 1) := by decide +kernel
theorem dX12_worked_153 : decode cX12_worked 153 = .ok (.ifCond .eq 7, 3) := by decide +kernel
theorem dX12_worked_156 : decode cX12_worked 156 = .ok (.iconst 1, 1) := by decide +kernel
theorem dX12_worked_157 : decode cX12_worked 157 = .ok (.goto 4, 3) := by decide +kernel
theorem dX12_worked_160 : decode cX12_worked 160 = .ok (.iconst 0, 1) := by decide +kernel
theorem dX12_worked_161 : decode cX12_worked 161 = .ok (.ireturn, 1) := by decide +kernel
set_option maxRecDepth 100000 in
theorem c_X12_worked {n : Nat} {F : Int32 → sm_MI → sm_ML → Prop} {T : List sm_Sh} {I : sm_MI} {L : sm_ML} {a0 : Int32} {l1 : Int64} {l3 : Int64} (hB : sm_Bs T)
    (h : (a0 = 2 → sm_CI n mX12_bounded T I L [.long (l1 + l3)] (fun r2 I1 L1 => F r2 I1 L1)) ∧ (a0 = 3 → sm_CI n mX12_bounded T I L [.long (l1 - l3)] (fun r4 I3 L3 => F r4 I3 L3)) ∧ (a0 = 4 → sm_CI n mX12_bounded T I L [.long (l1 * l3)] (fun r6 I5 L5 => F r6 I5 L5)) ∧ (a0 = 5 → (¬ (lg_cmp l3 0) = 0 → ¬ l3 = 0 ∧ (sm_CI n mX12_bounded T I L [.long (l1 / l3)] (fun r8 I7 L7 => F r8 I7 L7))) ∧ ((lg_cmp l3 0) = 0 → F 0 I L)) ∧ (a0 = 6 → (¬ (lg_cmp l1 l3) = 0 → F 0 I L) ∧ ((lg_cmp l1 l3) = 0 → F 1 I L)) ∧ (a0 = 7 → (0 ≤ (lg_cmp l1 l3) → F 0 I L) ∧ (¬ 0 ≤ (lg_cmp l1 l3) → F 1 I L)) ∧ (a0 = 8 → ((lg_cmp l1 l3) ≤ 0 → F 0 I L) ∧ (¬ (lg_cmp l1 l3) ≤ 0 → F 1 I L)) ∧ (a0 = 10 → ((lg_cmp l1 0) = 0 → F 0 I L) ∧ (¬ (lg_cmp l1 0) = 0 → ((lg_cmp l3 0) = 0 → F 0 I L) ∧ (¬ (lg_cmp l3 0) = 0 → F 1 I L))) ∧ (¬ a0 = 2 ∧ ¬ a0 = 3 ∧ ¬ a0 = 4 ∧ ¬ a0 = 5 ∧ ¬ a0 = 6 ∧ ¬ a0 = 7 ∧ ¬ a0 = 8 ∧ ¬ a0 = 10 → (¬ (lg_cmp l1 0) = 0 → F 1 I L) ∧ ((lg_cmp l1 0) = 0 → ((lg_cmp l3 0) = 0 → F 0 I L) ∧ (¬ (lg_cmp l3 0) = 0 → F 1 I L)))) :
    sm_CI (n + 1) mX12_worked T I L [.int a0, .long l1, .long l3] F :=
  sm_CI.of (by decide +kernel) rfl (fun x hx => show sm_V x 0 0 T I L 0 [some (.int a0), some (.long l1), none, some (.long l3), none] [] from
  sm_iload_n (z := a0) hx dX12_worked_0 rfl (sm_tsw (a := a0) hx dX12_worked_1 (by decide) (fun i hi q9 => match i, hi, q9 with | 0, _, q9 => ⟨51, 52, rfl, by decide, sm_lload_n (z := l1) hx dX12_worked_52 rfl (sm_lload_n (z := l3) hx dX12_worked_53 rfl (sm_ladd (a := l1) (b := l3) hx dX12_worked_54 (sm_callSI (args := [.long (l1 + l3)]) (st := []) hx dX12_worked_55 ls_X12_215 rfl rfl rfl (h.1 (sm_ti q9 (by decide))) (fun r2 I1 L1 hI1 => sm_iretI hx dX12_worked_58 rfl hI1))))⟩ | 1, _, q9 => ⟨58, 59, rfl, by decide, sm_lload_n (z := l1) hx dX12_worked_59 rfl (sm_lload_n (z := l3) hx dX12_worked_60 rfl (sm_lsub (a := l1) (b := l3) hx dX12_worked_61 (sm_callSI (args := [.long (l1 - l3)]) (st := []) hx dX12_worked_62 ls_X12_215 rfl rfl rfl (h.2.1 (sm_ti q9 (by decide))) (fun r4 I3 L3 hI3 => sm_iretI hx dX12_worked_65 rfl hI3))))⟩ | 2, _, q9 => ⟨65, 66, rfl, by decide, sm_lload_n (z := l1) hx dX12_worked_66 rfl (sm_lload_n (z := l3) hx dX12_worked_67 rfl (sm_lmul (a := l1) (b := l3) hx dX12_worked_68 (sm_callSI (args := [.long (l1 * l3)]) (st := []) hx dX12_worked_69 ls_X12_215 rfl rfl rfl (h.2.2.1 (sm_ti q9 (by decide))) (fun r6 I5 L5 hI5 => sm_iretI hx dX12_worked_72 rfl hI5))))⟩ | 3, _, q9 => ⟨72, 73, rfl, by decide, sm_lload_n (z := l3) hx dX12_worked_73 rfl (sm_lconst (v := 0) hx dX12_worked_74 rfl (sm_lcmp (a := l3) (b := 0) hx dX12_worked_75 (sm_ifne (a := (lg_cmp l3 0)) hx dX12_worked_76 (tgt := 83) (by decide) (fun q1 => sm_lload_n (z := l1) hx dX12_worked_83 rfl (sm_lload_n (z := l3) hx dX12_worked_84 rfl (sm_ldiv (a := l1) (b := l3) hx dX12_worked_85 ((h.2.2.2.1 (sm_ti q9 (by decide))).1 q1).1 (sm_callSI (args := [.long (l1 / l3)]) (st := []) hx dX12_worked_86 ls_X12_215 rfl rfl rfl ((h.2.2.2.1 (sm_ti q9 (by decide))).1 q1).2 (fun r8 I7 L7 hI7 => sm_iretI hx dX12_worked_89 rfl hI7))))) (fun q1 => sm_iconst (v := 0) hx dX12_worked_79 sm_kc_0 (sm_goto hx dX12_worked_80 (tgt := 89) (by decide) (sm_iretI hx dX12_worked_89 rfl ((h.2.2.2.1 (sm_ti q9 (by decide))).2 q1)))))))⟩ | 4, _, q9 => ⟨89, 90, rfl, by decide, sm_lload_n (z := l1) hx dX12_worked_90 rfl (sm_lload_n (z := l3) hx dX12_worked_91 rfl (sm_lcmp (a := l1) (b := l3) hx dX12_worked_92 (sm_ifne (a := (lg_cmp l1 l3)) hx dX12_worked_93 (tgt := 100) (by decide) (fun q2 => sm_iconst (v := 0) hx dX12_worked_100 sm_kc_0 (sm_iretI hx dX12_worked_101 rfl ((h.2.2.2.2.1 (sm_ti q9 (by decide))).1 q2))) (fun q2 => sm_iconst (v := 1) hx dX12_worked_96 sm_kc_1 (sm_goto hx dX12_worked_97 (tgt := 101) (by decide) (sm_iretI hx dX12_worked_101 rfl ((h.2.2.2.2.1 (sm_ti q9 (by decide))).2 q2)))))))⟩ | 5, _, q9 => ⟨101, 102, rfl, by decide, sm_lload_n (z := l1) hx dX12_worked_102 rfl (sm_lload_n (z := l3) hx dX12_worked_103 rfl (sm_lcmp (a := l1) (b := l3) hx dX12_worked_104 (sm_ifge (a := (lg_cmp l1 l3)) hx dX12_worked_105 (tgt := 112) (by decide) (fun q3 => sm_iconst (v := 0) hx dX12_worked_112 sm_kc_0 (sm_iretI hx dX12_worked_113 rfl ((h.2.2.2.2.2.1 (sm_ti q9 (by decide))).1 q3))) (fun q3 => sm_iconst (v := 1) hx dX12_worked_108 sm_kc_1 (sm_goto hx dX12_worked_109 (tgt := 113) (by decide) (sm_iretI hx dX12_worked_113 rfl ((h.2.2.2.2.2.1 (sm_ti q9 (by decide))).2 q3)))))))⟩ | 6, _, q9 => ⟨113, 114, rfl, by decide, sm_lload_n (z := l1) hx dX12_worked_114 rfl (sm_lload_n (z := l3) hx dX12_worked_115 rfl (sm_lcmp (a := l1) (b := l3) hx dX12_worked_116 (sm_ifle (a := (lg_cmp l1 l3)) hx dX12_worked_117 (tgt := 124) (by decide) (fun q4 => sm_iconst (v := 0) hx dX12_worked_124 sm_kc_0 (sm_iretI hx dX12_worked_125 rfl ((h.2.2.2.2.2.2.1 (sm_ti q9 (by decide))).1 q4))) (fun q4 => sm_iconst (v := 1) hx dX12_worked_120 sm_kc_1 (sm_goto hx dX12_worked_121 (tgt := 125) (by decide) (sm_iretI hx dX12_worked_125 rfl ((h.2.2.2.2.2.2.1 (sm_ti q9 (by decide))).2 q4)))))))⟩ | 7, _, q9 => ⟨143, 144, rfl, by decide, sm_lload_n (z := l1) hx dX12_worked_144 rfl (sm_lconst (v := 0) hx dX12_worked_145 rfl (sm_lcmp (a := l1) (b := 0) hx dX12_worked_146 (sm_ifne (a := (lg_cmp l1 0)) hx dX12_worked_147 (tgt := 156) (by decide) (fun q8 => sm_iconst (v := 1) hx dX12_worked_156 sm_kc_1 (sm_goto hx dX12_worked_157 (tgt := 161) (by decide) (sm_iretI hx dX12_worked_161 rfl ((h.2.2.2.2.2.2.2.2 ⟨by rw [sm_ti (k := 9) q9 (by decide)]; decide, by rw [sm_ti (k := 9) q9 (by decide)]; decide, by rw [sm_ti (k := 9) q9 (by decide)]; decide, by rw [sm_ti (k := 9) q9 (by decide)]; decide, by rw [sm_ti (k := 9) q9 (by decide)]; decide, by rw [sm_ti (k := 9) q9 (by decide)]; decide, by rw [sm_ti (k := 9) q9 (by decide)]; decide, by rw [sm_ti (k := 9) q9 (by decide)]; decide⟩).1 q8)))) (fun q8 => sm_lload_n (z := l3) hx dX12_worked_150 rfl (sm_lconst (v := 0) hx dX12_worked_151 rfl (sm_lcmp (a := l3) (b := 0) hx dX12_worked_152 (sm_ifeq (a := (lg_cmp l3 0)) hx dX12_worked_153 (tgt := 160) (by decide) (fun q7 => sm_iconst (v := 0) hx dX12_worked_160 sm_kc_0 (sm_iretI hx dX12_worked_161 rfl (((h.2.2.2.2.2.2.2.2 ⟨by rw [sm_ti (k := 9) q9 (by decide)]; decide, by rw [sm_ti (k := 9) q9 (by decide)]; decide, by rw [sm_ti (k := 9) q9 (by decide)]; decide, by rw [sm_ti (k := 9) q9 (by decide)]; decide, by rw [sm_ti (k := 9) q9 (by decide)]; decide, by rw [sm_ti (k := 9) q9 (by decide)]; decide, by rw [sm_ti (k := 9) q9 (by decide)]; decide, by rw [sm_ti (k := 9) q9 (by decide)]; decide⟩).2 q8).1 q7))) (fun q7 => sm_iconst (v := 1) hx dX12_worked_156 sm_kc_1 (sm_goto hx dX12_worked_157 (tgt := 161) (by decide) (sm_iretI hx dX12_worked_161 rfl (((h.2.2.2.2.2.2.2.2 ⟨by rw [sm_ti (k := 9) q9 (by decide)]; decide, by rw [sm_ti (k := 9) q9 (by decide)]; decide, by rw [sm_ti (k := 9) q9 (by decide)]; decide, by rw [sm_ti (k := 9) q9 (by decide)]; decide, by rw [sm_ti (k := 9) q9 (by decide)]; decide, by rw [sm_ti (k := 9) q9 (by decide)]; decide, by rw [sm_ti (k := 9) q9 (by decide)]; decide, by rw [sm_ti (k := 9) q9 (by decide)]; decide⟩).2 q8).2 q7)))))))))))⟩ | 8, _, q9 => ⟨125, 126, rfl, by decide, sm_lload_n (z := l1) hx dX12_worked_126 rfl (sm_lconst (v := 0) hx dX12_worked_127 rfl (sm_lcmp (a := l1) (b := 0) hx dX12_worked_128 (sm_ifeq (a := (lg_cmp l1 0)) hx dX12_worked_129 (tgt := 142) (by decide) (fun q6 => sm_iconst (v := 0) hx dX12_worked_142 sm_kc_0 (sm_iretI hx dX12_worked_143 rfl ((h.2.2.2.2.2.2.2.1 (sm_ti q9 (by decide))).1 q6))) (fun q6 => sm_lload_n (z := l3) hx dX12_worked_132 rfl (sm_lconst (v := 0) hx dX12_worked_133 rfl (sm_lcmp (a := l3) (b := 0) hx dX12_worked_134 (sm_ifeq (a := (lg_cmp l3 0)) hx dX12_worked_135 (tgt := 142) (by decide) (fun q5 => sm_iconst (v := 0) hx dX12_worked_142 sm_kc_0 (sm_iretI hx dX12_worked_143 rfl (((h.2.2.2.2.2.2.2.1 (sm_ti q9 (by decide))).2 q6).1 q5))) (fun q5 => sm_iconst (v := 1) hx dX12_worked_138 sm_kc_1 (sm_goto hx dX12_worked_139 (tgt := 143) (by decide) (sm_iretI hx dX12_worked_143 rfl (((h.2.2.2.2.2.2.2.1 (sm_ti q9 (by decide))).2 q6).2 q5)))))))))))⟩ | i + 9, hi, _ => absurd hi (Nat.not_lt.mpr (Nat.le_add_left 9 i))) (fun hhq9 => ⟨144, by decide, sm_lload_n (z := l1) hx dX12_worked_144 rfl (sm_lconst (v := 0) hx dX12_worked_145 rfl (sm_lcmp (a := l1) (b := 0) hx dX12_worked_146 (sm_ifne (a := (lg_cmp l1 0)) hx dX12_worked_147 (tgt := 156) (by decide) (fun q8 => sm_iconst (v := 1) hx dX12_worked_156 sm_kc_1 (sm_goto hx dX12_worked_157 (tgt := 161) (by decide) (sm_iretI hx dX12_worked_161 rfl ((h.2.2.2.2.2.2.2.2 ⟨fun e => hhq9 0 (by decide) (by rw [e]; decide), fun e => hhq9 1 (by decide) (by rw [e]; decide), fun e => hhq9 2 (by decide) (by rw [e]; decide), fun e => hhq9 3 (by decide) (by rw [e]; decide), fun e => hhq9 4 (by decide) (by rw [e]; decide), fun e => hhq9 5 (by decide) (by rw [e]; decide), fun e => hhq9 6 (by decide) (by rw [e]; decide), fun e => hhq9 8 (by decide) (by rw [e]; decide)⟩).1 q8)))) (fun q8 => sm_lload_n (z := l3) hx dX12_worked_150 rfl (sm_lconst (v := 0) hx dX12_worked_151 rfl (sm_lcmp (a := l3) (b := 0) hx dX12_worked_152 (sm_ifeq (a := (lg_cmp l3 0)) hx dX12_worked_153 (tgt := 160) (by decide) (fun q7 => sm_iconst (v := 0) hx dX12_worked_160 sm_kc_0 (sm_iretI hx dX12_worked_161 rfl (((h.2.2.2.2.2.2.2.2 ⟨fun e => hhq9 0 (by decide) (by rw [e]; decide), fun e => hhq9 1 (by decide) (by rw [e]; decide), fun e => hhq9 2 (by decide) (by rw [e]; decide), fun e => hhq9 3 (by decide) (by rw [e]; decide), fun e => hhq9 4 (by decide) (by rw [e]; decide), fun e => hhq9 5 (by decide) (by rw [e]; decide), fun e => hhq9 6 (by decide) (by rw [e]; decide), fun e => hhq9 8 (by decide) (by rw [e]; decide)⟩).2 q8).1 q7))) (fun q7 => sm_iconst (v := 1) hx dX12_worked_156 sm_kc_1 (sm_goto hx dX12_worked_157 (tgt := 161) (by decide) (sm_iretI hx dX12_worked_161 rfl (((h.2.2.2.2.2.2.2.2 ⟨fun e => hhq9 0 (by decide) (by rw [e]; decide), fun e => hhq9 1 (by decide) (by rw [e]; decide), fun e => hhq9 2 (by decide) (by rw [e]; decide), fun e => hhq9 3 (by decide) (by rw [e]; decide), fun e => hhq9 4 (by decide) (by rw [e]; decide), fun e => hhq9 5 (by decide) (by rw [e]; decide), fun e => hhq9 6 (by decide) (by rw [e]; decide), fun e => hhq9 8 (by decide) (by rw [e]; decide)⟩).2 q8).2 q7)))))))))))⟩)))
theorem dX12_workOut_0 : decode cX12_workOut 0 = .ok (.iconst 0, 1) := by decide +kernel
theorem dX12_workOut_1 : decode cX12_workOut 1 = .ok (.istore 4, 2) := by decide +kernel
theorem dX12_workOut_3 : decode cX12_workOut 3 = .ok (.sipush 340, 3) := by decide +kernel
theorem dX12_workOut_6 : decode cX12_workOut 6 = .ok (.iload_n 1, 1) := by decide +kernel
theorem dX12_workOut_7 : decode cX12_workOut 7 = .ok (.imul, 1) := by decide +kernel
theorem dX12_workOut_8 : decode cX12_workOut 8 = .ok (.iload_n 2, 1) := by decide +kernel
theorem dX12_workOut_9 : decode cX12_workOut 9 = .ok (.iadd, 1) := by decide +kernel
theorem dX12_workOut_10 : decode cX12_workOut 10 = .ok (.istore 5, 2) := by decide +kernel
theorem dX12_workOut_12 : decode cX12_workOut 12 = .ok (.iload 5, 2) := by decide +kernel
theorem dX12_workOut_14 : decode cX12_workOut 14 = .ok (.sipush 340, 3) := by decide +kernel
theorem dX12_workOut_17 : decode cX12_workOut 17 = .ok (.iload_n 1, 1) := by decide +kernel
theorem dX12_workOut_18 : decode cX12_workOut 18 = .ok (.imul, 1) := by decide +kernel
theorem dX12_workOut_19 : decode cX12_workOut 19 = .ok (.iload_n 3, 1) := by decide +kernel
theorem dX12_workOut_20 : decode cX12_workOut 20 = .ok (.iadd, 1) := by decide +kernel
theorem dX12_workOut_21 : decode cX12_workOut 21 = .ok (.if_icmp .ge 150, 3) := by decide +kernel
theorem dX12_workOut_24 : decode cX12_workOut 24 = .ok (.aload_n 0, 1) := by decide +kernel
theorem dX12_workOut_25 : decode cX12_workOut 25 = .ok (.getfield 13, 3) := by decide +kernel
theorem dX12_workOut_28 : decode cX12_workOut 28 = .ok (.iload 5, 2) := by decide +kernel
theorem dX12_workOut_30 : decode cX12_workOut 30 = .ok (.iaload, 1) := by decide +kernel
theorem dX12_workOut_31 : decode cX12_workOut 31 = .ok (.ifCond .eq 14, 3) := by decide +kernel
theorem dX12_workOut_34 : decode cX12_workOut 34 = .ok (.aload_n 0, 1) := by decide +kernel
theorem dX12_workOut_35 : decode cX12_workOut 35 = .ok (.getfield 13, 3) := by decide +kernel
theorem dX12_workOut_38 : decode cX12_workOut 38 = .ok (.iload 5, 2) := by decide +kernel
theorem dX12_workOut_40 : decode cX12_workOut 40 = .ok (.iaload, 1) := by decide +kernel
theorem dX12_workOut_41 : decode cX12_workOut 41 = .ok (.iconst 1, 1) := by decide +kernel
theorem dX12_workOut_42 : decode cX12_workOut 42 = .ok (.if_icmp .ne 48, 3) := by decide +kernel
theorem dX12_workOut_45 : decode cX12_workOut 45 = .ok (.aload_n 0, 1) := by decide +kernel
theorem dX12_workOut_46 : decode cX12_workOut 46 = .ok (.getfield 37, 3) := by decide +kernel
theorem dX12_workOut_49 : decode cX12_workOut 49 = .ok (.iload 4, 2) := by decide +kernel
theorem dX12_workOut_51 : decode cX12_workOut 51 = .ok (.aload_n 0, 1) := by decide +kernel
theorem dX12_workOut_52 : decode cX12_workOut 52 = .ok (.getfield 13, 3) := by decide +kernel
theorem dX12_workOut_55 : decode cX12_workOut 55 = .ok (.iload 5, 2) := by decide +kernel
theorem dX12_workOut_57 : decode cX12_workOut 57 = .ok (.iaload, 1) := by decide +kernel
theorem dX12_workOut_58 : decode cX12_workOut 58 = .ok (.ifCond .ne 13, 3) := by decide +kernel
theorem dX12_workOut_61 : decode cX12_workOut 61 = .ok (.aload_n 0, 1) := by decide +kernel
theorem dX12_workOut_62 : decode cX12_workOut 62 = .ok (.getfield 16, 3) := by decide +kernel
theorem dX12_workOut_65 : decode cX12_workOut 65 = .ok (.iload 5, 2) := by decide +kernel
theorem dX12_workOut_67 : decode cX12_workOut 67 = .ok (.iaload, 1) := by decide +kernel
theorem dX12_workOut_68 : decode cX12_workOut 68 = .ok (.goto 15, 3) := by decide +kernel
theorem dX12_workOut_71 : decode cX12_workOut 71 = .ok (.aload_n 0, 1) := by decide +kernel
theorem dX12_workOut_72 : decode cX12_workOut 72 = .ok (.getfield 34, 3) := by decide +kernel
theorem dX12_workOut_75 : decode cX12_workOut 75 = .ok (.aload_n 0, 1) := by decide +kernel
theorem dX12_workOut_76 : decode cX12_workOut 76 = .ok (.getfield 16, 3) := by decide +kernel
theorem dX12_workOut_79 : decode cX12_workOut 79 = .ok (.iload 5, 2) := by decide +kernel
theorem dX12_workOut_81 : decode cX12_workOut 81 = .ok (.iaload, 1) := by decide +kernel
theorem dX12_workOut_82 : decode cX12_workOut 82 = .ok (.iaload, 1) := by decide +kernel
theorem dX12_workOut_83 : decode cX12_workOut 83 = .ok (.iastore, 1) := by decide +kernel
theorem dX12_workOut_84 : decode cX12_workOut 84 = .ok (.iinc 4 1, 3) := by decide +kernel
theorem dX12_workOut_87 : decode cX12_workOut 87 = .ok (.goto 78, 3) := by decide +kernel
theorem dX12_workOut_90 : decode cX12_workOut 90 = .ok (.aload_n 0, 1) := by decide +kernel
theorem dX12_workOut_91 : decode cX12_workOut 91 = .ok (.getfield 13, 3) := by decide +kernel
theorem dX12_workOut_94 : decode cX12_workOut 94 = .ok (.iload 5, 2) := by decide +kernel
theorem dX12_workOut_96 : decode cX12_workOut 96 = .ok (.iaload, 1) := by decide +kernel
theorem dX12_workOut_97 : decode cX12_workOut 97 = .ok (.bipush 9, 2) := by decide +kernel
theorem dX12_workOut_99 : decode cX12_workOut 99 = .ok (.if_icmp .ne 26, 3) := by decide +kernel
theorem dX12_workOut_102 : decode cX12_workOut 102 = .ok (.aload_n 0, 1) := by decide +kernel
theorem dX12_workOut_103 : decode cX12_workOut 103 = .ok (.getfield 37, 3) := by decide +kernel
theorem dX12_workOut_106 : decode cX12_workOut 106 = .ok (.iload 4, 2) := by decide +kernel
theorem dX12_workOut_108 : decode cX12_workOut 108 = .ok (.iconst 1, 1) := by decide +kernel
theorem dX12_workOut_109 : decode cX12_workOut 109 = .ok (.isub, 1) := by decide +kernel
theorem dX12_workOut_110 : decode cX12_workOut 110 = .ok (.iconst 1, 1) := by decide +kernel
theorem dX12_workOut_111 : decode cX12_workOut 111 = .ok (.aload_n 0, 1) := by decide +kernel
theorem dX12_workOut_112 : decode cX12_workOut 112 = .ok (.getfield 37, 3) := by decide +kernel
theorem dX12_workOut_115 : decode cX12_workOut 115 = .ok (.iload 4, 2) := by decide +kernel
theorem dX12_workOut_117 : decode cX12_workOut 117 = .ok (.iconst 1, 1) := by decide +kernel
theorem dX12_workOut_118 : decode cX12_workOut 118 = .ok (.isub, 1) := by decide +kernel
theorem dX12_workOut_119 : decode cX12_workOut 119 = .ok (.iaload, 1) := by decide +kernel
theorem dX12_workOut_120 : decode cX12_workOut 120 = .ok (.isub, 1) := by decide +kernel
theorem dX12_workOut_121 : decode cX12_workOut 121 = .ok (.iastore, 1) := by decide +kernel
theorem dX12_workOut_122 : decode cX12_workOut 122 = .ok (.goto 43, 3) := by decide +kernel
theorem dX12_workOut_125 : decode cX12_workOut 125 = .ok (.iinc 4 (-1), 3) := by decide +kernel
theorem dX12_workOut_128 : decode cX12_workOut 128 = .ok (.aload_n 0, 1) := by decide +kernel
theorem dX12_workOut_129 : decode cX12_workOut 129 = .ok (.getfield 37, 3) := by decide +kernel
theorem dX12_workOut_132 : decode cX12_workOut 132 = .ok (.iload 4, 2) := by decide +kernel
theorem dX12_workOut_134 : decode cX12_workOut 134 = .ok (.iconst 1, 1) := by decide +kernel
theorem dX12_workOut_135 : decode cX12_workOut 135 = .ok (.isub, 1) := by decide +kernel
theorem dX12_workOut_136 : decode cX12_workOut 136 = .ok (.aload_n 0, 1) := by decide +kernel
theorem dX12_workOut_137 : decode cX12_workOut 137 = .ok (.getfield 13, 3) := by decide +kernel
theorem dX12_workOut_140 : decode cX12_workOut 140 = .ok (.iload 5, 2) := by decide +kernel
theorem dX12_workOut_142 : decode cX12_workOut 142 = .ok (.iaload, 1) := by decide +kernel
theorem dX12_workOut_143 : decode cX12_workOut 143 = .ok (.aload_n 0, 1) := by decide +kernel
theorem dX12_workOut_144 : decode cX12_workOut 144 = .ok (.getfield 37, 3) := by decide +kernel
theorem dX12_workOut_147 : decode cX12_workOut 147 = .ok (.iload 4, 2) := by decide +kernel
theorem dX12_workOut_149 : decode cX12_workOut 149 = .ok (.iconst 1, 1) := by decide +kernel
theorem dX12_workOut_150 : decode cX12_workOut 150 = .ok (.isub, 1) := by decide +kernel
theorem dX12_workOut_151 : decode cX12_workOut 151 = .ok (.iaload, 1) := by decide +kernel
theorem dX12_workOut_152 : decode cX12_workOut 152 = .ok (.i2l, 1) := by decide +kernel
theorem dX12_workOut_153 : decode cX12_workOut 153 = .ok (.aload_n 0, 1) := by decide +kernel
theorem dX12_workOut_154 : decode cX12_workOut 154 = .ok (.getfield 37, 3) := by decide +kernel
theorem dX12_workOut_157 : decode cX12_workOut 157 = .ok (.iload 4, 2) := by decide +kernel
theorem dX12_workOut_159 : decode cX12_workOut 159 = .ok (.iaload, 1) := by decide +kernel
theorem dX12_workOut_160 : decode cX12_workOut 160 = .ok (.i2l, 1) := by decide +kernel
theorem dX12_workOut_161 : decode cX12_workOut 161 = .ok (.invokestatic 219, 3) := by decide +kernel
theorem dX12_workOut_164 : decode cX12_workOut 164 = .ok (.iastore, 1) := by decide +kernel
theorem dX12_workOut_165 : decode cX12_workOut 165 = .ok (.iinc 5 1, 3) := by decide +kernel
theorem dX12_workOut_168 : decode cX12_workOut 168 = .ok (.goto (-156), 3) := by decide +kernel
theorem dX12_workOut_171 : decode cX12_workOut 171 = .ok (.aload_n 0, 1) := by decide +kernel
theorem dX12_workOut_172 : decode cX12_workOut 172 = .ok (.getfield 37, 3) := by decide +kernel
theorem dX12_workOut_175 : decode cX12_workOut 175 = .ok (.iconst 0, 1) := by decide +kernel
theorem dX12_workOut_176 : decode cX12_workOut 176 = .ok (.iaload, 1) := by decide +kernel
theorem dX12_workOut_177 : decode cX12_workOut 177 = .ok (.ireturn, 1) := by decide +kernel
set_option maxRecDepth 100000 in
theorem u_X12_workOut_12 {x : sm_Cx} {n : Nat} {F : Int32 → sm_MI → sm_ML → Prop} {T : List sm_Sh} {I : sm_MI} {L : sm_ML} {a1 : Int32} {a2 : Int32} {a3 : Int32} {a4 : Int32} {a5 : Int32} (hB : sm_Bs T) (hx : sm_Ok x mX12_workOut (n + 1) (sm_KI T F))
    (h : (((340 * a1) + a3) ≤ a5 → vp_in 0 80 ∧ (F (I 86 (Int32.toNatClampNeg (0))) I L)) ∧ (¬ ((340 * a1) + a3) ≤ a5 → vp_in a5 2040 ∧ (((I 78 (Int32.toNatClampNeg (a5))) = 0 → sm_V x 0 0 T I L 45 [some (.ref 76), some (.int a1), some (.int a2), some (.int a3), some (.int a4), some (.int a5)] []) ∧ (¬ (I 78 (Int32.toNatClampNeg (a5))) = 0 → vp_in a5 2040 ∧ ((¬ (I 78 (Int32.toNatClampNeg (a5))) = 1 → vp_in a5 2040 ∧ ((¬ (I 78 (Int32.toNatClampNeg (a5))) = 9 → vp_in a5 2040 ∧ (vp_in ((a4 + (-1)) - 1) 80 ∧ (vp_in (a4 + (-1)) 80 ∧ (sm_CI n mX12_worked T I L [.int (I 78 (Int32.toNatClampNeg (a5))), .long (Int32.toInt64 (I 86 (Int32.toNatClampNeg (((a4 + (-1)) - 1))))), .long (Int32.toInt64 (I 86 (Int32.toNatClampNeg ((a4 + (-1))))))] (fun r2 I1 L1 => vp_in ((a4 + (-1)) - 1) 80 ∧ (sm_V x 0 0 T (sm_uI I1 86 (Int32.toNatClampNeg (((a4 + (-1)) - 1))) r2) L1 12 [some (.ref 76), some (.int a1), some (.int a2), some (.int a3), some (.int (a4 + (-1))), some (.int (a5 + 1))] [])))))) ∧ ((I 78 (Int32.toNatClampNeg (a5))) = 9 → vp_in (a4 - 1) 80 ∧ (vp_in (a4 - 1) 80 ∧ (sm_V x 0 0 T (sm_uI I 86 (Int32.toNatClampNeg ((a4 - 1))) (1 - (I 86 (Int32.toNatClampNeg ((a4 - 1)))))) L 12 [some (.ref 76), some (.int a1), some (.int a2), some (.int a3), some (.int a4), some (.int (a5 + 1))] []))))) ∧ ((I 78 (Int32.toNatClampNeg (a5))) = 1 → sm_V x 0 0 T I L 45 [some (.ref 76), some (.int a1), some (.int a2), some (.int a3), some (.int a4), some (.int a5)] [])))))) :
    sm_V x 0 0 T I L 12 [some (.ref 76), some (.int a1), some (.int a2), some (.int a3), some (.int a4), some (.int a5)] [] :=
  sm_iload (z := a5) hx dX12_workOut_12 rfl (sm_sipush (v := 340) hx dX12_workOut_14 sm_ks_340 (sm_iload_n (z := a1) hx dX12_workOut_17 rfl (sm_imul (a := 340) (b := a1) hx dX12_workOut_18 (sm_iload_n (z := a3) hx dX12_workOut_19 rfl (sm_iadd (a := (340 * a1)) (b := a3) hx dX12_workOut_20 (sm_icmpge (a := a5) (b := ((340 * a1) + a3)) hx dX12_workOut_21 (tgt := 171) (by decide) (fun q4 => sm_aload_n (z := 76) hx dX12_workOut_171 rfl (sm_getR hx dX12_workOut_172 fl_X12_37_12 (t_76 hB) rfl (sm_iconst (v := 0) hx dX12_workOut_175 sm_kc_0 (sm_iald (i := 0) hx dX12_workOut_176 (t_86 hB) (h.1 q4).1 (sm_iretI hx dX12_workOut_177 rfl (h.1 q4).2))))) (fun q4 => sm_aload_n (z := 76) hx dX12_workOut_24 rfl (sm_getR hx dX12_workOut_25 fl_X12_13_12 (t_76 hB) rfl (sm_iload (z := a5) hx dX12_workOut_28 rfl (sm_iald (i := a5) hx dX12_workOut_30 (t_78 hB) (h.2 q4).1 (sm_ifeq (a := (I 78 (Int32.toNatClampNeg (a5)))) hx dX12_workOut_31 (tgt := 45) (by decide) (fun q3 => ((h.2 q4).2.1 q3)) (fun q3 => sm_aload_n (z := 76) hx dX12_workOut_34 rfl (sm_getR hx dX12_workOut_35 fl_X12_13_12 (t_76 hB) rfl (sm_iload (z := a5) hx dX12_workOut_38 rfl (sm_iald (i := a5) hx dX12_workOut_40 (t_78 hB) ((h.2 q4).2.2 q3).1 (sm_iconst (v := 1) hx dX12_workOut_41 sm_kc_1 (sm_icmpne (a := (I 78 (Int32.toNatClampNeg (a5)))) (b := 1) hx dX12_workOut_42 (tgt := 90) (by decide) (fun q2 => sm_aload_n (z := 76) hx dX12_workOut_90 rfl (sm_getR hx dX12_workOut_91 fl_X12_13_12 (t_76 hB) rfl (sm_iload (z := a5) hx dX12_workOut_94 rfl (sm_iald (i := a5) hx dX12_workOut_96 (t_78 hB) (((h.2 q4).2.2 q3).2.1 q2).1 (sm_bipush (v := 9) hx dX12_workOut_97 sm_kb_9 (sm_icmpne (a := (I 78 (Int32.toNatClampNeg (a5)))) (b := 9) hx dX12_workOut_99 (tgt := 125) (by decide) (fun q1 => sm_iinc (ls' := [some (.ref 76), some (.int a1), some (.int a2), some (.int a3), some (.int (a4 + (-1))), some (.int a5)]) (z := a4) (v := (a4 + (-1))) hx dX12_workOut_125 rfl (sm_kii_m1 _) (by decide) rfl (sm_aload_n (z := 76) hx dX12_workOut_128 rfl (sm_getR hx dX12_workOut_129 fl_X12_37_12 (t_76 hB) rfl (sm_iload (z := (a4 + (-1))) hx dX12_workOut_132 rfl (sm_iconst (v := 1) hx dX12_workOut_134 sm_kc_1 (sm_isub (a := (a4 + (-1))) (b := 1) hx dX12_workOut_135 (sm_aload_n (z := 76) hx dX12_workOut_136 rfl (sm_getR hx dX12_workOut_137 fl_X12_13_12 (t_76 hB) rfl (sm_iload (z := a5) hx dX12_workOut_140 rfl (sm_iald (i := a5) hx dX12_workOut_142 (t_78 hB) ((((h.2 q4).2.2 q3).2.1 q2).2.1 q1).1 (sm_aload_n (z := 76) hx dX12_workOut_143 rfl (sm_getR hx dX12_workOut_144 fl_X12_37_12 (t_76 hB) rfl (sm_iload (z := (a4 + (-1))) hx dX12_workOut_147 rfl (sm_iconst (v := 1) hx dX12_workOut_149 sm_kc_1 (sm_isub (a := (a4 + (-1))) (b := 1) hx dX12_workOut_150 (sm_iald (i := ((a4 + (-1)) - 1)) hx dX12_workOut_151 (t_86 hB) ((((h.2 q4).2.2 q3).2.1 q2).2.1 q1).2.1 (sm_i2l (a := (I 86 (Int32.toNatClampNeg (((a4 + (-1)) - 1))))) hx dX12_workOut_152 (sm_aload_n (z := 76) hx dX12_workOut_153 rfl (sm_getR hx dX12_workOut_154 fl_X12_37_12 (t_76 hB) rfl (sm_iload (z := (a4 + (-1))) hx dX12_workOut_157 rfl (sm_iald (i := (a4 + (-1))) hx dX12_workOut_159 (t_86 hB) ((((h.2 q4).2.2 q3).2.1 q2).2.1 q1).2.2.1 (sm_i2l (a := (I 86 (Int32.toNatClampNeg ((a4 + (-1)))))) hx dX12_workOut_160 (sm_callSI (args := [.int (I 78 (Int32.toNatClampNeg (a5))), .long (Int32.toInt64 (I 86 (Int32.toNatClampNeg (((a4 + (-1)) - 1))))), .long (Int32.toInt64 (I 86 (Int32.toNatClampNeg ((a4 + (-1))))))]) (st := [.int ((a4 + (-1)) - 1), .ref 86]) hx dX12_workOut_161 ls_X12_219 rfl rfl rfl ((((h.2 q4).2.2 q3).2.1 q2).2.1 q1).2.2.2 (fun r2 I1 L1 hI1 => sm_iast (i := ((a4 + (-1)) - 1)) (v := r2) hx dX12_workOut_164 (t_86 hB) hI1.1 (sm_iinc (ls' := [some (.ref 76), some (.int a1), some (.int a2), some (.int a3), some (.int (a4 + (-1))), some (.int (a5 + 1))]) (z := a5) (v := (a5 + 1)) hx dX12_workOut_165 rfl (sm_kii_1 _) (by decide) rfl (sm_goto hx dX12_workOut_168 (tgt := 12) (by decide) (hI1.2))))))))))))))))))))))))))) (fun q1 => sm_aload_n (z := 76) hx dX12_workOut_102 rfl (sm_getR hx dX12_workOut_103 fl_X12_37_12 (t_76 hB) rfl (sm_iload (z := a4) hx dX12_workOut_106 rfl (sm_iconst (v := 1) hx dX12_workOut_108 sm_kc_1 (sm_isub (a := a4) (b := 1) hx dX12_workOut_109 (sm_iconst (v := 1) hx dX12_workOut_110 sm_kc_1 (sm_aload_n (z := 76) hx dX12_workOut_111 rfl (sm_getR hx dX12_workOut_112 fl_X12_37_12 (t_76 hB) rfl (sm_iload (z := a4) hx dX12_workOut_115 rfl (sm_iconst (v := 1) hx dX12_workOut_117 sm_kc_1 (sm_isub (a := a4) (b := 1) hx dX12_workOut_118 (sm_iald (i := (a4 - 1)) hx dX12_workOut_119 (t_86 hB) ((((h.2 q4).2.2 q3).2.1 q2).2.2 q1).1 (sm_isub (a := 1) (b := (I 86 (Int32.toNatClampNeg ((a4 - 1))))) hx dX12_workOut_120 (sm_iast (i := (a4 - 1)) (v := (1 - (I 86 (Int32.toNatClampNeg ((a4 - 1)))))) hx dX12_workOut_121 (t_86 hB) ((((h.2 q4).2.2 q3).2.1 q2).2.2 q1).2.1 (sm_goto hx dX12_workOut_122 (tgt := 165) (by decide) (sm_iinc (ls' := [some (.ref 76), some (.int a1), some (.int a2), some (.int a3), some (.int a4), some (.int (a5 + 1))]) (z := a5) (v := (a5 + 1)) hx dX12_workOut_165 rfl (sm_kii_1 _) (by decide) rfl (sm_goto hx dX12_workOut_168 (tgt := 12) (by decide) (((((h.2 q4).2.2 q3).2.1 q2).2.2 q1).2.2)))))))))))))))))))))))) (fun q2 => (((h.2 q4).2.2 q3).2.2 q2)))))))))))))))))))
set_option maxRecDepth 100000 in
theorem u_X12_workOut_45 {x : sm_Cx} {n : Nat} {F : Int32 → sm_MI → sm_ML → Prop} {T : List sm_Sh} {I : sm_MI} {L : sm_ML} {a1 : Int32} {a2 : Int32} {a3 : Int32} {a4 : Int32} {a5 : Int32} (hB : sm_Bs T) (hx : sm_Ok x mX12_workOut (n + 1) (sm_KI T F))
    (h : vp_in a5 2040 ∧ ((¬ (I 78 (Int32.toNatClampNeg (a5))) = 0 → vp_in a5 2040 ∧ (vp_in (I 79 (Int32.toNatClampNeg (a5))) 6 ∧ (vp_in a4 80 ∧ (sm_V x 0 0 T (sm_uI I 86 (Int32.toNatClampNeg (a4)) (I 85 (Int32.toNatClampNeg ((I 79 (Int32.toNatClampNeg (a5))))))) L 12 [some (.ref 76), some (.int a1), some (.int a2), some (.int a3), some (.int (a4 + 1)), some (.int (a5 + 1))] [])))) ∧ ((I 78 (Int32.toNatClampNeg (a5))) = 0 → vp_in a5 2040 ∧ (vp_in a4 80 ∧ (sm_V x 0 0 T (sm_uI I 86 (Int32.toNatClampNeg (a4)) (I 79 (Int32.toNatClampNeg (a5)))) L 12 [some (.ref 76), some (.int a1), some (.int a2), some (.int a3), some (.int (a4 + 1)), some (.int (a5 + 1))] []))))) :
    sm_V x 0 0 T I L 45 [some (.ref 76), some (.int a1), some (.int a2), some (.int a3), some (.int a4), some (.int a5)] [] :=
  sm_aload_n (z := 76) hx dX12_workOut_45 rfl (sm_getR hx dX12_workOut_46 fl_X12_37_12 (t_76 hB) rfl (sm_iload (z := a4) hx dX12_workOut_49 rfl (sm_aload_n (z := 76) hx dX12_workOut_51 rfl (sm_getR hx dX12_workOut_52 fl_X12_13_12 (t_76 hB) rfl (sm_iload (z := a5) hx dX12_workOut_55 rfl (sm_iald (i := a5) hx dX12_workOut_57 (t_78 hB) h.1 (sm_ifne (a := (I 78 (Int32.toNatClampNeg (a5)))) hx dX12_workOut_58 (tgt := 71) (by decide) (fun q5 => sm_aload_n (z := 76) hx dX12_workOut_71 rfl (sm_getR hx dX12_workOut_72 fl_X12_34_12 (t_76 hB) rfl (sm_aload_n (z := 76) hx dX12_workOut_75 rfl (sm_getR hx dX12_workOut_76 fl_X12_16_12 (t_76 hB) rfl (sm_iload (z := a5) hx dX12_workOut_79 rfl (sm_iald (i := a5) hx dX12_workOut_81 (t_79 hB) (h.2.1 q5).1 (sm_iald (i := (I 79 (Int32.toNatClampNeg (a5)))) hx dX12_workOut_82 (t_85 hB) (h.2.1 q5).2.1 (sm_iast (i := a4) (v := (I 85 (Int32.toNatClampNeg ((I 79 (Int32.toNatClampNeg (a5))))))) hx dX12_workOut_83 (t_86 hB) (h.2.1 q5).2.2.1 (sm_iinc (ls' := [some (.ref 76), some (.int a1), some (.int a2), some (.int a3), some (.int (a4 + 1)), some (.int a5)]) (z := a4) (v := (a4 + 1)) hx dX12_workOut_84 rfl (sm_kii_1 _) (by decide) rfl (sm_goto hx dX12_workOut_87 (tgt := 165) (by decide) (sm_iinc (ls' := [some (.ref 76), some (.int a1), some (.int a2), some (.int a3), some (.int (a4 + 1)), some (.int (a5 + 1))]) (z := a5) (v := (a5 + 1)) hx dX12_workOut_165 rfl (sm_kii_1 _) (by decide) rfl (sm_goto hx dX12_workOut_168 (tgt := 12) (by decide) ((h.2.1 q5).2.2.2))))))))))))) (fun q5 => sm_aload_n (z := 76) hx dX12_workOut_61 rfl (sm_getR hx dX12_workOut_62 fl_X12_16_12 (t_76 hB) rfl (sm_iload (z := a5) hx dX12_workOut_65 rfl (sm_iald (i := a5) hx dX12_workOut_67 (t_79 hB) (h.2.2 q5).1 (sm_goto hx dX12_workOut_68 (tgt := 83) (by decide) (sm_iast (i := a4) (v := (I 79 (Int32.toNatClampNeg (a5)))) hx dX12_workOut_83 (t_86 hB) (h.2.2 q5).2.1 (sm_iinc (ls' := [some (.ref 76), some (.int a1), some (.int a2), some (.int a3), some (.int (a4 + 1)), some (.int a5)]) (z := a4) (v := (a4 + 1)) hx dX12_workOut_84 rfl (sm_kii_1 _) (by decide) rfl (sm_goto hx dX12_workOut_87 (tgt := 165) (by decide) (sm_iinc (ls' := [some (.ref 76), some (.int a1), some (.int a2), some (.int a3), some (.int (a4 + 1)), some (.int (a5 + 1))]) (z := a5) (v := (a5 + 1)) hx dX12_workOut_165 rfl (sm_kii_1 _) (by decide) rfl (sm_goto hx dX12_workOut_168 (tgt := 12) (by decide) ((h.2.2 q5).2.2))))))))))))))))))
set_option maxRecDepth 100000 in
theorem c_X12_workOut {n : Nat} {F : Int32 → sm_MI → sm_ML → Prop} {T : List sm_Sh} {I : sm_MI} {L : sm_ML} {a1 : Int32} {a2 : Int32} {a3 : Int32} (hB : sm_Bs T)
    (h : ∀ x : sm_Cx, sm_Ok x mX12_workOut (n + 1) (sm_KI T F) → sm_V x 0 0 T I L 12 [some (.ref 76), some (.int a1), some (.int a2), some (.int a3), some (.int 0), some (.int ((340 * a1) + a2))] []) :
    sm_CI (n + 1) mX12_workOut T I L [.ref 76, .int a1, .int a2, .int a3] F :=
  sm_CI.of (by decide +kernel) rfl (fun x hx => show sm_V x 0 0 T I L 0 [some (.ref 76), some (.int a1), some (.int a2), some (.int a3), none, none] [] from
  sm_iconst (v := 0) hx dX12_workOut_0 sm_kc_0 (sm_istore (ls' := [some (.ref 76), some (.int a1), some (.int a2), some (.int a3), some (.int 0), none]) hx dX12_workOut_1 (by decide) rfl (sm_sipush (v := 340) hx dX12_workOut_3 sm_ks_340 (sm_iload_n (z := a1) hx dX12_workOut_6 rfl (sm_imul (a := 340) (b := a1) hx dX12_workOut_7 (sm_iload_n (z := a2) hx dX12_workOut_8 rfl (sm_iadd (a := (340 * a1)) (b := a2) hx dX12_workOut_9 (sm_istore (ls' := [some (.ref 76), some (.int a1), some (.int a2), some (.int a3), some (.int 0), some (.int ((340 * a1) + a2))]) hx dX12_workOut_10 (by decide) rfl ((h x hx))))))))))
theorem dX12_worthOf_0 : decode cX12_worthOf 0 = .ok (.bipush 90, 2) := by decide +kernel
theorem dX12_worthOf_2 : decode cX12_worthOf 2 = .ok (.iload_n 1, 1) := by decide +kernel
theorem dX12_worthOf_3 : decode cX12_worthOf 3 = .ok (.imul, 1) := by decide +kernel
theorem dX12_worthOf_4 : decode cX12_worthOf 4 = .ok (.istore_n 2, 1) := by decide +kernel
theorem dX12_worthOf_5 : decode cX12_worthOf 5 = .ok (.iload_n 2, 1) := by decide +kernel
theorem dX12_worthOf_6 : decode cX12_worthOf 6 = .ok (.bipush 90, 2) := by decide +kernel
theorem dX12_worthOf_8 : decode cX12_worthOf 8 = .ok (.iload_n 1, 1) := by decide +kernel
theorem dX12_worthOf_9 : decode cX12_worthOf 9 = .ok (.imul, 1) := by decide +kernel
theorem dX12_worthOf_10 : decode cX12_worthOf 10 = .ok (.aload_n 0, 1) := by decide +kernel
theorem dX12_worthOf_11 : decode cX12_worthOf 11 = .ok (.getfield 22, 3) := by decide +kernel
theorem dX12_worthOf_14 : decode cX12_worthOf 14 = .ok (.iload_n 1, 1) := by decide +kernel
theorem dX12_worthOf_15 : decode cX12_worthOf 15 = .ok (.iaload, 1) := by decide +kernel
theorem dX12_worthOf_16 : decode cX12_worthOf 16 = .ok (.iadd, 1) := by decide +kernel
theorem dX12_worthOf_17 : decode cX12_worthOf 17 = .ok (.if_icmp .ge 62, 3) := by decide +kernel
theorem dX12_worthOf_20 : decode cX12_worthOf 20 = .ok (.aload_n 0, 1) := by decide +kernel
theorem dX12_worthOf_21 : decode cX12_worthOf 21 = .ok (.getfield 25, 3) := by decide +kernel
theorem dX12_worthOf_24 : decode cX12_worthOf 24 = .ok (.iload_n 2, 1) := by decide +kernel
theorem dX12_worthOf_25 : decode cX12_worthOf 25 = .ok (.iaload, 1) := by decide +kernel
theorem dX12_worthOf_26 : decode cX12_worthOf 26 = .ok (.aload_n 0, 1) := by decide +kernel
theorem dX12_worthOf_27 : decode cX12_worthOf 27 = .ok (.getfield 28, 3) := by decide +kernel
theorem dX12_worthOf_30 : decode cX12_worthOf 30 = .ok (.iload_n 2, 1) := by decide +kernel
theorem dX12_worthOf_31 : decode cX12_worthOf 31 = .ok (.iaload, 1) := by decide +kernel
theorem dX12_worthOf_32 : decode cX12_worthOf 32 = .ok (.if_icmp .eq 23, 3) := by decide +kernel
theorem dX12_worthOf_35 : decode cX12_worthOf 35 = .ok (.aload_n 0, 1) := by decide +kernel
theorem dX12_worthOf_36 : decode cX12_worthOf 36 = .ok (.iload_n 1, 1) := by decide +kernel
theorem dX12_worthOf_37 : decode cX12_worthOf 37 = .ok (.aload_n 0, 1) := by decide +kernel
theorem dX12_worthOf_38 : decode cX12_worthOf 38 = .ok (.getfield 25, 3) := by decide +kernel
theorem dX12_worthOf_41 : decode cX12_worthOf 41 = .ok (.iload_n 2, 1) := by decide +kernel
theorem dX12_worthOf_42 : decode cX12_worthOf 42 = .ok (.iaload, 1) := by decide +kernel
theorem dX12_worthOf_43 : decode cX12_worthOf 43 = .ok (.aload_n 0, 1) := by decide +kernel
theorem dX12_worthOf_44 : decode cX12_worthOf 44 = .ok (.getfield 28, 3) := by decide +kernel
theorem dX12_worthOf_47 : decode cX12_worthOf 47 = .ok (.iload_n 2, 1) := by decide +kernel
theorem dX12_worthOf_48 : decode cX12_worthOf 48 = .ok (.iaload, 1) := by decide +kernel
theorem dX12_worthOf_49 : decode cX12_worthOf 49 = .ok (.invokevirtual 223, 3) := by decide +kernel
theorem dX12_worthOf_52 : decode cX12_worthOf 52 = .ok (.ifCond .eq 21, 3) := by decide +kernel
theorem dX12_worthOf_55 : decode cX12_worthOf 55 = .ok (.aload_n 0, 1) := by decide +kernel
theorem dX12_worthOf_56 : decode cX12_worthOf 56 = .ok (.iload_n 1, 1) := by decide +kernel
theorem dX12_worthOf_57 : decode cX12_worthOf 57 = .ok (.aload_n 0, 1) := by decide +kernel
theorem dX12_worthOf_58 : decode cX12_worthOf 58 = .ok (.getfield 28, 3) := by decide +kernel
theorem dX12_worthOf_61 : decode cX12_worthOf 61 = .ok (.iload_n 2, 1) := by decide +kernel
theorem dX12_worthOf_62 : decode cX12_worthOf 62 = .ok (.iaload, 1) := by decide +kernel
theorem dX12_worthOf_63 : decode cX12_worthOf 63 = .ok (.aload_n 0, 1) := by decide +kernel
theorem dX12_worthOf_64 : decode cX12_worthOf 64 = .ok (.getfield 31, 3) := by decide +kernel
theorem dX12_worthOf_67 : decode cX12_worthOf 67 = .ok (.iload_n 2, 1) := by decide +kernel
theorem dX12_worthOf_68 : decode cX12_worthOf 68 = .ok (.iaload, 1) := by decide +kernel
theorem dX12_worthOf_69 : decode cX12_worthOf 69 = .ok (.invokevirtual 223, 3) := by decide +kernel
theorem dX12_worthOf_72 : decode cX12_worthOf 72 = .ok (.ireturn, 1) := by decide +kernel
theorem dX12_worthOf_73 : decode cX12_worthOf 73 = .ok (.iinc 2 1, 3) := by decide +kernel
theorem dX12_worthOf_76 : decode cX12_worthOf 76 = .ok (.goto (-71), 3) := by decide +kernel
theorem dX12_worthOf_79 : decode cX12_worthOf 79 = .ok (.iconst 0, 1) := by decide +kernel
theorem dX12_worthOf_80 : decode cX12_worthOf 80 = .ok (.ireturn, 1) := by decide +kernel
set_option maxRecDepth 100000 in
theorem u_X12_worthOf_5 {x : sm_Cx} {n : Nat} {F : Int32 → sm_MI → sm_ML → Prop} {T : List sm_Sh} {I : sm_MI} {L : sm_ML} {a1 : Int32} {a2 : Int32} (hB : sm_Bs T) (hx : sm_Ok x mX12_worthOf (n + 1) (sm_KI T F))
    (h : vp_in a1 6 ∧ ((((90 * a1) + (I 81 (Int32.toNatClampNeg (a1)))) ≤ a2 → F 0 I L) ∧ (¬ ((90 * a1) + (I 81 (Int32.toNatClampNeg (a1)))) ≤ a2 → vp_in a2 540 ∧ (vp_in a2 540 ∧ (((I 82 (Int32.toNatClampNeg (a2))) = (I 83 (Int32.toNatClampNeg (a2))) → vp_in a2 540 ∧ (vp_in a2 540 ∧ (sm_CI n mX12_workOut T I L [.ref 76, .int a1, .int (I 83 (Int32.toNatClampNeg (a2))), .int (I 84 (Int32.toNatClampNeg (a2)))] (fun r2 I1 L1 => F r2 I1 L1)))) ∧ (¬ (I 82 (Int32.toNatClampNeg (a2))) = (I 83 (Int32.toNatClampNeg (a2))) → vp_in a2 540 ∧ (vp_in a2 540 ∧ (sm_CI n mX12_workOut T I L [.ref 76, .int a1, .int (I 82 (Int32.toNatClampNeg (a2))), .int (I 83 (Int32.toNatClampNeg (a2)))] (fun r4 I3 L3 => (r4 = 0 → sm_V x 0 0 T I3 L3 5 [some (.ref 76), some (.int a1), some (.int (a2 + 1))] []) ∧ (¬ r4 = 0 → vp_in a2 540 ∧ (vp_in a2 540 ∧ (sm_CI n mX12_workOut T I3 L3 [.ref 76, .int a1, .int (I3 83 (Int32.toNatClampNeg (a2))), .int (I3 84 (Int32.toNatClampNeg (a2)))] (fun r6 I5 L5 => F r6 I5 L5))))))))))))) :
    sm_V x 0 0 T I L 5 [some (.ref 76), some (.int a1), some (.int a2)] [] :=
  sm_iload_n (z := a2) hx dX12_worthOf_5 rfl (sm_bipush (v := 90) hx dX12_worthOf_6 sm_kb_90 (sm_iload_n (z := a1) hx dX12_worthOf_8 rfl (sm_imul (a := 90) (b := a1) hx dX12_worthOf_9 (sm_aload_n (z := 76) hx dX12_worthOf_10 rfl (sm_getR hx dX12_worthOf_11 fl_X12_22_12 (t_76 hB) rfl (sm_iload_n (z := a1) hx dX12_worthOf_14 rfl (sm_iald (i := a1) hx dX12_worthOf_15 (t_81 hB) h.1 (sm_iadd (a := (90 * a1)) (b := (I 81 (Int32.toNatClampNeg (a1)))) hx dX12_worthOf_16 (sm_icmpge (a := a2) (b := ((90 * a1) + (I 81 (Int32.toNatClampNeg (a1))))) hx dX12_worthOf_17 (tgt := 79) (by decide) (fun q3 => sm_iconst (v := 0) hx dX12_worthOf_79 sm_kc_0 (sm_iretI hx dX12_worthOf_80 rfl (h.2.1 q3))) (fun q3 => sm_aload_n (z := 76) hx dX12_worthOf_20 rfl (sm_getR hx dX12_worthOf_21 fl_X12_25_12 (t_76 hB) rfl (sm_iload_n (z := a2) hx dX12_worthOf_24 rfl (sm_iald (i := a2) hx dX12_worthOf_25 (t_82 hB) (h.2.2 q3).1 (sm_aload_n (z := 76) hx dX12_worthOf_26 rfl (sm_getR hx dX12_worthOf_27 fl_X12_28_12 (t_76 hB) rfl (sm_iload_n (z := a2) hx dX12_worthOf_30 rfl (sm_iald (i := a2) hx dX12_worthOf_31 (t_83 hB) (h.2.2 q3).2.1 (sm_icmpeq (a := (I 82 (Int32.toNatClampNeg (a2)))) (b := (I 83 (Int32.toNatClampNeg (a2)))) hx dX12_worthOf_32 (tgt := 55) (by decide) (fun q2 => sm_aload_n (z := 76) hx dX12_worthOf_55 rfl (sm_iload_n (z := a1) hx dX12_worthOf_56 rfl (sm_aload_n (z := 76) hx dX12_worthOf_57 rfl (sm_getR hx dX12_worthOf_58 fl_X12_28_12 (t_76 hB) rfl (sm_iload_n (z := a2) hx dX12_worthOf_61 rfl (sm_iald (i := a2) hx dX12_worthOf_62 (t_83 hB) ((h.2.2 q3).2.2.1 q2).1 (sm_aload_n (z := 76) hx dX12_worthOf_63 rfl (sm_getR hx dX12_worthOf_64 fl_X12_31_12 (t_76 hB) rfl (sm_iload_n (z := a2) hx dX12_worthOf_67 rfl (sm_iald (i := a2) hx dX12_worthOf_68 (t_84 hB) ((h.2.2 q3).2.2.1 q2).2.1 (sm_callVI (args := [.int a1, .int (I 83 (Int32.toNatClampNeg (a2))), .int (I 84 (Int32.toNatClampNeg (a2)))]) (st := []) hx dX12_worthOf_69 lv_X12_223_12 rfl rfl (t_76 hB) rfl rfl ((h.2.2 q3).2.2.1 q2).2.2 (fun r2 I1 L1 hI1 => sm_iretI hx dX12_worthOf_72 rfl hI1)))))))))))) (fun q2 => sm_aload_n (z := 76) hx dX12_worthOf_35 rfl (sm_iload_n (z := a1) hx dX12_worthOf_36 rfl (sm_aload_n (z := 76) hx dX12_worthOf_37 rfl (sm_getR hx dX12_worthOf_38 fl_X12_25_12 (t_76 hB) rfl (sm_iload_n (z := a2) hx dX12_worthOf_41 rfl (sm_iald (i := a2) hx dX12_worthOf_42 (t_82 hB) ((h.2.2 q3).2.2.2 q2).1 (sm_aload_n (z := 76) hx dX12_worthOf_43 rfl (sm_getR hx dX12_worthOf_44 fl_X12_28_12 (t_76 hB) rfl (sm_iload_n (z := a2) hx dX12_worthOf_47 rfl (sm_iald (i := a2) hx dX12_worthOf_48 (t_83 hB) ((h.2.2 q3).2.2.2 q2).2.1 (sm_callVI (args := [.int a1, .int (I 82 (Int32.toNatClampNeg (a2))), .int (I 83 (Int32.toNatClampNeg (a2)))]) (st := []) hx dX12_worthOf_49 lv_X12_223_12 rfl rfl (t_76 hB) rfl rfl ((h.2.2 q3).2.2.2 q2).2.2 (fun r4 I3 L3 hI3 => sm_ifeq (a := r4) hx dX12_worthOf_52 (tgt := 73) (by decide) (fun q1 => sm_iinc (ls' := [some (.ref 76), some (.int a1), some (.int (a2 + 1))]) (z := a2) (v := (a2 + 1)) hx dX12_worthOf_73 rfl (sm_kii_1 _) (by decide) rfl (sm_goto hx dX12_worthOf_76 (tgt := 5) (by decide) ((hI3.1 q1)))) (fun q1 => sm_aload_n (z := 76) hx dX12_worthOf_55 rfl (sm_iload_n (z := a1) hx dX12_worthOf_56 rfl (sm_aload_n (z := 76) hx dX12_worthOf_57 rfl (sm_getR hx dX12_worthOf_58 fl_X12_28_12 (t_76 hB) rfl (sm_iload_n (z := a2) hx dX12_worthOf_61 rfl (sm_iald (i := a2) hx dX12_worthOf_62 (t_83 hB) (hI3.2 q1).1 (sm_aload_n (z := 76) hx dX12_worthOf_63 rfl (sm_getR hx dX12_worthOf_64 fl_X12_31_12 (t_76 hB) rfl (sm_iload_n (z := a2) hx dX12_worthOf_67 rfl (sm_iald (i := a2) hx dX12_worthOf_68 (t_84 hB) (hI3.2 q1).2.1 (sm_callVI (args := [.int a1, .int (I3 83 (Int32.toNatClampNeg (a2))), .int (I3 84 (Int32.toNatClampNeg (a2)))]) (st := []) hx dX12_worthOf_69 lv_X12_223_12 rfl rfl (t_76 hB) rfl rfl (hI3.2 q1).2.2 (fun r6 I5 L5 hI5 => sm_iretI hx dX12_worthOf_72 rfl hI5))))))))))))))))))))))))))))))))))))))))))
set_option maxRecDepth 100000 in
theorem c_X12_worthOf {n : Nat} {F : Int32 → sm_MI → sm_ML → Prop} {T : List sm_Sh} {I : sm_MI} {L : sm_ML} {a1 : Int32} (hB : sm_Bs T)
    (h : ∀ x : sm_Cx, sm_Ok x mX12_worthOf (n + 1) (sm_KI T F) → sm_V x 0 0 T I L 5 [some (.ref 76), some (.int a1), some (.int (90 * a1))] []) :
    sm_CI (n + 1) mX12_worthOf T I L [.ref 76, .int a1] F :=
  sm_CI.of (by decide +kernel) rfl (fun x hx => show sm_V x 0 0 T I L 0 [some (.ref 76), some (.int a1), none] [] from
  sm_bipush (v := 90) hx dX12_worthOf_0 sm_kb_90 (sm_iload_n (z := a1) hx dX12_worthOf_2 rfl (sm_imul (a := 90) (b := a1) hx dX12_worthOf_3 (sm_istore_n (ls' := [some (.ref 76), some (.int a1), some (.int (90 * a1))]) hx dX12_worthOf_4 (by decide) rfl ((h x hx))))))
theorem dX12_digit_0 : decode cX12_digit 0 = .ok (.aload_n 0, 1) := by decide +kernel
theorem dX12_digit_1 : decode cX12_digit 1 = .ok (.invokevirtual 141, 3) := by decide +kernel
theorem dX12_digit_4 : decode cX12_digit 4 = .ok (.bipush 48, 2) := by decide +kernel
theorem dX12_digit_6 : decode cX12_digit 6 = .ok (.isub, 1) := by decide +kernel
theorem dX12_digit_7 : decode cX12_digit 7 = .ok (.istore_n 3, 1) := by decide +kernel
theorem dX12_digit_8 : decode cX12_digit 8 = .ok (.iload_n 3, 1) := by decide +kernel
theorem dX12_digit_9 : decode cX12_digit 9 = .ok (.iconst 0, 1) := by decide +kernel
theorem dX12_digit_10 : decode cX12_digit 10 = .ok (.bipush 9, 2) := by decide +kernel
theorem dX12_digit_12 : decode cX12_digit 12 = .ok (.invokestatic 227, 3) := by decide +kernel
theorem dX12_digit_15 : decode cX12_digit 15 = .ok (.ifCond .eq 12, 3) := by decide +kernel
theorem dX12_digit_18 : decode cX12_digit 18 = .ok (.iload_n 3, 1) := by decide +kernel
theorem dX12_digit_19 : decode cX12_digit 19 = .ok (.iload_n 1, 1) := by decide +kernel
theorem dX12_digit_20 : decode cX12_digit 20 = .ok (.iload_n 2, 1) := by decide +kernel
theorem dX12_digit_21 : decode cX12_digit 21 = .ok (.invokestatic 227, 3) := by decide +kernel
theorem dX12_digit_24 : decode cX12_digit 24 = .ok (.ifCond .ne 9, 3) := by decide +kernel
theorem dX12_digit_27 : decode cX12_digit 27 = .ok (.aload_n 0, 1) := by decide +kernel
theorem dX12_digit_28 : decode cX12_digit 28 = .ok (.invokevirtual 138, 3) := by decide +kernel
theorem dX12_digit_31 : decode cX12_digit 31 = .ok (.iload_n 1, 1) := by decide +kernel
theorem dX12_digit_32 : decode cX12_digit 32 = .ok (.ireturn, 1) := by decide +kernel
theorem dX12_digit_33 : decode cX12_digit 33 = .ok (.aload_n 0, 1) := by decide +kernel
theorem dX12_digit_34 : decode cX12_digit 34 = .ok (.dup, 1) := by decide +kernel
theorem dX12_digit_35 : decode cX12_digit 35 = .ok (.getfield 122, 3) := by decide +kernel
theorem dX12_digit_38 : decode cX12_digit 38 = .ok (.iconst 1, 1) := by decide +kernel
theorem dX12_digit_39 : decode cX12_digit 39 = .ok (.iadd, 1) := by decide +kernel
theorem dX12_digit_40 : decode cX12_digit 40 = .ok (.putfield 122, 3) := by decide +kernel
theorem dX12_digit_43 : decode cX12_digit 43 = .ok (.aload_n 0, 1) := by decide +kernel
theorem dX12_digit_44 : decode cX12_digit 44 = .ok (.invokevirtual 125, 3) := by decide +kernel
theorem dX12_digit_47 : decode cX12_digit 47 = .ok (.invokestatic 144, 3) := by decide +kernel
theorem dX12_digit_50 : decode cX12_digit 50 = .ok (.ifCond .eq 7, 3) := by decide +kernel
theorem dX12_digit_53 : decode cX12_digit 53 = .ok (.aload_n 0, 1) := by decide +kernel
theorem dX12_digit_54 : decode cX12_digit 54 = .ok (.invokevirtual 138, 3) := by decide +kernel
theorem dX12_digit_57 : decode cX12_digit 57 = .ok (.iload_n 3, 1) := by decide +kernel
theorem dX12_digit_58 : decode cX12_digit 58 = .ok (.ireturn, 1) := by decide +kernel
set_option maxRecDepth 100000 in
theorem c_X12_digit {n : Nat} {F : Int32 → sm_MI → sm_ML → Prop} {T : List sm_Sh} {I : sm_MI} {L : sm_ML} {a1 : Int32} {a2 : Int32} (hB : sm_Bs T)
    (h : sm_CI n mX12_look T I L [.ref 76] (fun r2 I1 L1 => sm_CZ n mX12_in T I1 L1 [.int (r2 - 48), .int 0, .int 9] (fun r4 I3 L3 => (r4 = false → sm_CV n mX12_bad T I3 L3 [.ref 76] (fun I5 L5 => F a1 I5 L5)) ∧ (r4 = true → sm_CZ n mX12_in T I3 L3 [.int (r2 - 48), .int a1, .int a2] (fun r7 I6 L6 => (r7 = true → sm_CI n mX12_here T (sm_uI I6 76 3 ((I6 76 3) + 1)) L6 [.ref 76] (fun r9 I8 L8 => sm_CZ n mX12_isDigit T I8 L8 [.int r9] (fun r11 I10 L10 => (r11 = false → F (r2 - 48) I10 L10) ∧ (r11 = true → sm_CV n mX12_bad T I10 L10 [.ref 76] (fun I12 L12 => F (r2 - 48) I12 L12))))) ∧ (r7 = false → sm_CV n mX12_bad T I6 L6 [.ref 76] (fun I13 L13 => F a1 I13 L13))))))) :
    sm_CI (n + 1) mX12_digit T I L [.ref 76, .int a1, .int a2] F :=
  sm_CI.of (by decide +kernel) rfl (fun x hx => show sm_V x 0 0 T I L 0 [some (.ref 76), some (.int a1), some (.int a2), none] [] from
  sm_aload_n (z := 76) hx dX12_digit_0 rfl (sm_callVI (args := []) (st := []) hx dX12_digit_1 lv_X12_141_12 rfl rfl (t_76 hB) rfl rfl h (fun r2 I1 L1 hI1 => sm_bipush (v := 48) hx dX12_digit_4 sm_kb_48 (sm_isub (a := r2) (b := 48) hx dX12_digit_6 (sm_istore_n (ls' := [some (.ref 76), some (.int a1), some (.int a2), some (.int (r2 - 48))]) hx dX12_digit_7 (by decide) rfl (sm_iload_n (z := (r2 - 48)) hx dX12_digit_8 rfl (sm_iconst (v := 0) hx dX12_digit_9 sm_kc_0 (sm_bipush (v := 9) hx dX12_digit_10 sm_kb_9 (sm_callSZ (args := [.int (r2 - 48), .int 0, .int 9]) (st := []) hx dX12_digit_12 ls_X12_227 rfl rfl rfl hI1 (fun r4 I3 L3 hI3 => sm_ifeqZ (b := r4) hx dX12_digit_15 (tgt := 27) (by decide) (fun q3 => sm_aload_n (z := 76) hx dX12_digit_27 rfl (sm_callVV (args := []) (st := []) hx dX12_digit_28 lv_X12_138_12 rfl rfl (t_76 hB) rfl rfl (hI3.1 q3) (fun I5 L5 hI5 => sm_iload_n (z := a1) hx dX12_digit_31 rfl (sm_iretI hx dX12_digit_32 rfl hI5)))) (fun q3 => sm_iload_n (z := (r2 - 48)) hx dX12_digit_18 rfl (sm_iload_n (z := a1) hx dX12_digit_19 rfl (sm_iload_n (z := a2) hx dX12_digit_20 rfl (sm_callSZ (args := [.int (r2 - 48), .int a1, .int a2]) (st := []) hx dX12_digit_21 ls_X12_227 rfl rfl rfl (hI3.2 q3) (fun r7 I6 L6 hI6 => sm_ifneZ (b := r7) hx dX12_digit_24 (tgt := 33) (by decide) (fun q2 => sm_aload_n (z := 76) hx dX12_digit_33 rfl (sm_dup hx dX12_digit_34 rfl (sm_getI hx dX12_digit_35 fl_X12_122_12 (t_76 hB) rfl (sm_iconst (v := 1) hx dX12_digit_38 sm_kc_1 (sm_iadd (a := (I6 76 3)) (b := 1) hx dX12_digit_39 (sm_putI hx dX12_digit_40 fl_X12_122_12 (t_76 hB) rfl (sm_aload_n (z := 76) hx dX12_digit_43 rfl (sm_callVI (args := []) (st := []) hx dX12_digit_44 lv_X12_125_12 rfl rfl (t_76 hB) rfl rfl (hI6.1 q2) (fun r9 I8 L8 hI8 => sm_callSZ (args := [.int r9]) (st := []) hx dX12_digit_47 ls_X12_144 rfl rfl rfl hI8 (fun r11 I10 L10 hI10 => sm_ifeqZ (b := r11) hx dX12_digit_50 (tgt := 57) (by decide) (fun q1 => sm_iload_n (z := (r2 - 48)) hx dX12_digit_57 rfl (sm_iretI hx dX12_digit_58 rfl (hI10.1 q1))) (fun q1 => sm_aload_n (z := 76) hx dX12_digit_53 rfl (sm_callVV (args := []) (st := []) hx dX12_digit_54 lv_X12_138_12 rfl rfl (t_76 hB) rfl rfl (hI10.2 q1) (fun I12 L12 hI12 => sm_iload_n (z := (r2 - 48)) hx dX12_digit_57 rfl (sm_iretI hx dX12_digit_58 rfl hI12)))))))))))))) (fun q2 => sm_aload_n (z := 76) hx dX12_digit_27 rfl (sm_callVV (args := []) (st := []) hx dX12_digit_28 lv_X12_138_12 rfl rfl (t_76 hB) rfl rfl (hI6.2 q2) (fun I13 L13 hI13 => sm_iload_n (z := a1) hx dX12_digit_31 rfl (sm_iretI hx dX12_digit_32 rfl hI13)))))))))))))))))))
theorem dX12_sleeperItem_0 : decode cX12_sleeperItem 0 = .ok (.iload_n 0, 1) := by decide +kernel
theorem dX12_sleeperItem_1 : decode cX12_sleeperItem 1 = .ok (.bipush 97, 2) := by decide +kernel
theorem dX12_sleeperItem_3 : decode cX12_sleeperItem 3 = .ok (.if_icmp .ne 7, 3) := by decide +kernel
theorem dX12_sleeperItem_6 : decode cX12_sleeperItem 6 = .ok (.iconst 0, 1) := by decide +kernel
theorem dX12_sleeperItem_7 : decode cX12_sleeperItem 7 = .ok (.goto 34, 3) := by decide +kernel
theorem dX12_sleeperItem_10 : decode cX12_sleeperItem 10 = .ok (.iload_n 0, 1) := by decide +kernel
theorem dX12_sleeperItem_11 : decode cX12_sleeperItem 11 = .ok (.bipush 115, 2) := by decide +kernel
theorem dX12_sleeperItem_13 : decode cX12_sleeperItem 13 = .ok (.if_icmp .ne 7, 3) := by decide +kernel
theorem dX12_sleeperItem_16 : decode cX12_sleeperItem 16 = .ok (.iconst 1, 1) := by decide +kernel
theorem dX12_sleeperItem_17 : decode cX12_sleeperItem 17 = .ok (.goto 24, 3) := by decide +kernel
theorem dX12_sleeperItem_20 : decode cX12_sleeperItem 20 = .ok (.iload_n 0, 1) := by decide +kernel
theorem dX12_sleeperItem_21 : decode cX12_sleeperItem 21 = .ok (.bipush 107, 2) := by decide +kernel
theorem dX12_sleeperItem_23 : decode cX12_sleeperItem 23 = .ok (.if_icmp .ne 7, 3) := by decide +kernel
theorem dX12_sleeperItem_26 : decode cX12_sleeperItem 26 = .ok (.iconst 2, 1) := by decide +kernel
theorem dX12_sleeperItem_27 : decode cX12_sleeperItem 27 = .ok (.goto 14, 3) := by decide +kernel
theorem dX12_sleeperItem_30 : decode cX12_sleeperItem 30 = .ok (.iload_n 0, 1) := by decide +kernel
theorem dX12_sleeperItem_31 : decode cX12_sleeperItem 31 = .ok (.bipush 101, 2) := by decide +kernel
theorem dX12_sleeperItem_33 : decode cX12_sleeperItem 33 = .ok (.if_icmp .ne 7, 3) := by decide +kernel
theorem dX12_sleeperItem_36 : decode cX12_sleeperItem 36 = .ok (.iconst 3, 1) := by decide +kernel
theorem dX12_sleeperItem_37 : decode cX12_sleeperItem 37 = .ok (.goto 4, 3) := by decide +kernel
theorem dX12_sleeperItem_40 : decode cX12_sleeperItem 40 = .ok (.iconst (-1), 1) := by decide +kernel
theorem dX12_sleeperItem_41 : decode cX12_sleeperItem 41 = .ok (.ireturn, 1) := by decide +kernel
set_option maxRecDepth 100000 in
theorem c_X12_sleeperItem {n : Nat} {F : Int32 → sm_MI → sm_ML → Prop} {T : List sm_Sh} {I : sm_MI} {L : sm_ML} {a0 : Int32} (hB : sm_Bs T)
    (h : (¬ a0 = 97 → (¬ a0 = 115 → (¬ a0 = 107 → (¬ a0 = 101 → F (-1) I L) ∧ (a0 = 101 → F 3 I L)) ∧ (a0 = 107 → F 2 I L)) ∧ (a0 = 115 → F 1 I L)) ∧ (a0 = 97 → F 0 I L)) :
    sm_CI n mX12_sleeperItem T I L [.int a0] F :=
  sm_CI.of (by decide +kernel) rfl (fun x hx => show sm_V x 0 0 T I L 0 [some (.int a0)] [] from
  sm_iload_n (z := a0) hx dX12_sleeperItem_0 rfl (sm_bipush (v := 97) hx dX12_sleeperItem_1 sm_kb_97 (sm_icmpne (a := a0) (b := 97) hx dX12_sleeperItem_3 (tgt := 10) (by decide) (fun q4 => sm_iload_n (z := a0) hx dX12_sleeperItem_10 rfl (sm_bipush (v := 115) hx dX12_sleeperItem_11 sm_kb_115 (sm_icmpne (a := a0) (b := 115) hx dX12_sleeperItem_13 (tgt := 20) (by decide) (fun q3 => sm_iload_n (z := a0) hx dX12_sleeperItem_20 rfl (sm_bipush (v := 107) hx dX12_sleeperItem_21 sm_kb_107 (sm_icmpne (a := a0) (b := 107) hx dX12_sleeperItem_23 (tgt := 30) (by decide) (fun q2 => sm_iload_n (z := a0) hx dX12_sleeperItem_30 rfl (sm_bipush (v := 101) hx dX12_sleeperItem_31 sm_kb_101 (sm_icmpne (a := a0) (b := 101) hx dX12_sleeperItem_33 (tgt := 40) (by decide) (fun q1 => sm_iconst (v := (-1)) hx dX12_sleeperItem_40 sm_kc_m1 (sm_iretI hx dX12_sleeperItem_41 rfl ((((h.1 q4).1 q3).1 q2).1 q1))) (fun q1 => sm_iconst (v := 3) hx dX12_sleeperItem_36 sm_kc_3 (sm_goto hx dX12_sleeperItem_37 (tgt := 41) (by decide) (sm_iretI hx dX12_sleeperItem_41 rfl ((((h.1 q4).1 q3).1 q2).2 q1))))))) (fun q2 => sm_iconst (v := 2) hx dX12_sleeperItem_26 sm_kc_2 (sm_goto hx dX12_sleeperItem_27 (tgt := 41) (by decide) (sm_iretI hx dX12_sleeperItem_41 rfl (((h.1 q4).1 q3).2 q2))))))) (fun q3 => sm_iconst (v := 1) hx dX12_sleeperItem_16 sm_kc_1 (sm_goto hx dX12_sleeperItem_17 (tgt := 41) (by decide) (sm_iretI hx dX12_sleeperItem_41 rfl ((h.1 q4).2 q3))))))) (fun q4 => sm_iconst (v := 0) hx dX12_sleeperItem_6 sm_kc_0 (sm_goto hx dX12_sleeperItem_7 (tgt := 41) (by decide) (sm_iretI hx dX12_sleeperItem_41 rfl (h.2 q4)))))))
theorem dX12_highest_0 : decode cX12_highest 0 = .ok (.iload_n 1, 1) := by decide +kernel
theorem dX12_highest_1 : decode cX12_highest 1 = .ok (.ifCond .ne 12, 3) := by decide +kernel
theorem dX12_highest_4 : decode cX12_highest 4 = .ok (.aload_n 0, 1) := by decide +kernel
theorem dX12_highest_5 : decode cX12_highest 5 = .ok (.getfield 231, 3) := by decide +kernel
theorem dX12_highest_8 : decode cX12_highest 8 = .ok (.iconst 1, 1) := by decide +kernel
theorem dX12_highest_9 : decode cX12_highest 9 = .ok (.isub, 1) := by decide +kernel
theorem dX12_highest_10 : decode cX12_highest 10 = .ok (.goto 23, 3) := by decide +kernel
theorem dX12_highest_13 : decode cX12_highest 13 = .ok (.iload_n 1, 1) := by decide +kernel
theorem dX12_highest_14 : decode cX12_highest 14 = .ok (.iconst 1, 1) := by decide +kernel
theorem dX12_highest_15 : decode cX12_highest 15 = .ok (.if_icmp .ne 8, 3) := by decide +kernel
theorem dX12_highest_18 : decode cX12_highest 18 = .ok (.bipush 7, 2) := by decide +kernel
theorem dX12_highest_20 : decode cX12_highest 20 = .ok (.goto 13, 3) := by decide +kernel
theorem dX12_highest_23 : decode cX12_highest 23 = .ok (.iload_n 1, 1) := by decide +kernel
theorem dX12_highest_24 : decode cX12_highest 24 = .ok (.iconst 2, 1) := by decide +kernel
theorem dX12_highest_25 : decode cX12_highest 25 = .ok (.if_icmp .ne 7, 3) := by decide +kernel
theorem dX12_highest_28 : decode cX12_highest 28 = .ok (.iconst 4, 1) := by decide +kernel
theorem dX12_highest_29 : decode cX12_highest 29 = .ok (.goto 4, 3) := by decide +kernel
theorem dX12_highest_32 : decode cX12_highest 32 = .ok (.iconst 1, 1) := by decide +kernel
theorem dX12_highest_33 : decode cX12_highest 33 = .ok (.ireturn, 1) := by decide +kernel
set_option maxRecDepth 100000 in
theorem c_X12_highest {n : Nat} {F : Int32 → sm_MI → sm_ML → Prop} {T : List sm_Sh} {I : sm_MI} {L : sm_ML} {a1 : Int32} (hB : sm_Bs T)
    (h : (¬ a1 = 0 → (¬ a1 = 1 → (¬ a1 = 2 → F 1 I L) ∧ (a1 = 2 → F 4 I L)) ∧ (a1 = 1 → F 7 I L)) ∧ (a1 = 0 → F ((I 76 19) - 1) I L)) :
    sm_CI n mX12_highest T I L [.ref 76, .int a1] F :=
  sm_CI.of (by decide +kernel) rfl (fun x hx => show sm_V x 0 0 T I L 0 [some (.ref 76), some (.int a1)] [] from
  sm_iload_n (z := a1) hx dX12_highest_0 rfl (sm_ifne (a := a1) hx dX12_highest_1 (tgt := 13) (by decide) (fun q3 => sm_iload_n (z := a1) hx dX12_highest_13 rfl (sm_iconst (v := 1) hx dX12_highest_14 sm_kc_1 (sm_icmpne (a := a1) (b := 1) hx dX12_highest_15 (tgt := 23) (by decide) (fun q2 => sm_iload_n (z := a1) hx dX12_highest_23 rfl (sm_iconst (v := 2) hx dX12_highest_24 sm_kc_2 (sm_icmpne (a := a1) (b := 2) hx dX12_highest_25 (tgt := 32) (by decide) (fun q1 => sm_iconst (v := 1) hx dX12_highest_32 sm_kc_1 (sm_iretI hx dX12_highest_33 rfl (((h.1 q3).1 q2).1 q1))) (fun q1 => sm_iconst (v := 4) hx dX12_highest_28 sm_kc_4 (sm_goto hx dX12_highest_29 (tgt := 33) (by decide) (sm_iretI hx dX12_highest_33 rfl (((h.1 q3).1 q2).2 q1))))))) (fun q2 => sm_bipush (v := 7) hx dX12_highest_18 sm_kb_7 (sm_goto hx dX12_highest_20 (tgt := 33) (by decide) (sm_iretI hx dX12_highest_33 rfl ((h.1 q3).2 q2))))))) (fun q3 => sm_aload_n (z := 76) hx dX12_highest_4 rfl (sm_getI hx dX12_highest_5 fl_X12_231_12 (t_76 hB) rfl (sm_iconst (v := 1) hx dX12_highest_8 sm_kc_1 (sm_isub (a := (I 76 19)) (b := 1) hx dX12_highest_9 (sm_goto hx dX12_highest_10 (tgt := 33) (by decide) (sm_iretI hx dX12_highest_33 rfl (h.2 q3)))))))))
theorem dX12_sleeperText_0 : decode cX12_sleeperText 0 = .ok (.aload_n 0, 1) := by decide +kernel
theorem dX12_sleeperText_1 : decode cX12_sleeperText 1 = .ok (.getfield 234, 3) := by decide +kernel
theorem dX12_sleeperText_4 : decode cX12_sleeperText 4 = .ok (.iconst 5, 1) := by decide +kernel
theorem dX12_sleeperText_5 : decode cX12_sleeperText 5 = .ok (.if_icmp .ne 8, 3) := by decide +kernel
theorem dX12_sleeperText_8 : decode cX12_sleeperText 8 = .ok (.aload_n 0, 1) := by decide +kernel
theorem dX12_sleeperText_9 : decode cX12_sleeperText 9 = .ok (.invokevirtual 138, 3) := by decide +kernel
theorem dX12_sleeperText_12 : decode cX12_sleeperText 12 = .ok (.return_, 1) := by decide +kernel
theorem dX12_sleeperText_13 : decode cX12_sleeperText 13 = .ok (.aload_n 0, 1) := by decide +kernel
theorem dX12_sleeperText_14 : decode cX12_sleeperText 14 = .ok (.dup, 1) := by decide +kernel
theorem dX12_sleeperText_15 : decode cX12_sleeperText 15 = .ok (.getfield 122, 3) := by decide +kernel
theorem dX12_sleeperText_18 : decode cX12_sleeperText 18 = .ok (.iconst 1, 1) := by decide +kernel
theorem dX12_sleeperText_19 : decode cX12_sleeperText 19 = .ok (.iadd, 1) := by decide +kernel
theorem dX12_sleeperText_20 : decode cX12_sleeperText 20 = .ok (.putfield 122, 3) := by decide +kernel
theorem dX12_sleeperText_23 : decode cX12_sleeperText 23 = .ok (.iconst 4, 1) := by decide +kernel
theorem dX12_sleeperText_24 : decode cX12_sleeperText 24 = .ok (.aload_n 0, 1) := by decide +kernel
theorem dX12_sleeperText_25 : decode cX12_sleeperText 25 = .ok (.getfield 234, 3) := by decide +kernel
theorem dX12_sleeperText_28 : decode cX12_sleeperText 28 = .ok (.imul, 1) := by decide +kernel
theorem dX12_sleeperText_29 : decode cX12_sleeperText 29 = .ok (.istore_n 1, 1) := by decide +kernel
theorem dX12_sleeperText_30 : decode cX12_sleeperText 30 = .ok (.iconst 0, 1) := by decide +kernel
theorem dX12_sleeperText_31 : decode cX12_sleeperText 31 = .ok (.istore_n 2, 1) := by decide +kernel
theorem dX12_sleeperText_32 : decode cX12_sleeperText 32 = .ok (.iload_n 2, 1) := by decide +kernel
theorem dX12_sleeperText_33 : decode cX12_sleeperText 33 = .ok (.iconst 4, 1) := by decide +kernel
theorem dX12_sleeperText_34 : decode cX12_sleeperText 34 = .ok (.if_icmp .ge 27, 3) := by decide +kernel
theorem dX12_sleeperText_37 : decode cX12_sleeperText 37 = .ok (.aload_n 0, 1) := by decide +kernel
theorem dX12_sleeperText_38 : decode cX12_sleeperText 38 = .ok (.getfield 40, 3) := by decide +kernel
theorem dX12_sleeperText_41 : decode cX12_sleeperText 41 = .ok (.iload_n 1, 1) := by decide +kernel
theorem dX12_sleeperText_42 : decode cX12_sleeperText 42 = .ok (.iload_n 2, 1) := by decide +kernel
theorem dX12_sleeperText_43 : decode cX12_sleeperText 43 = .ok (.iadd, 1) := by decide +kernel
theorem dX12_sleeperText_44 : decode cX12_sleeperText 44 = .ok (.iload_n 2, 1) := by decide +kernel
theorem dX12_sleeperText_45 : decode cX12_sleeperText 45 = .ok (.iconst 1, 1) := by decide +kernel
theorem dX12_sleeperText_46 : decode cX12_sleeperText 46 = .ok (.if_icmp .ne 7, 3) := by decide +kernel
theorem dX12_sleeperText_49 : decode cX12_sleeperText 49 = .ok (.iconst 1, 1) := by decide +kernel
theorem dX12_sleeperText_50 : decode cX12_sleeperText 50 = .ok (.goto 4, 3) := by decide +kernel
theorem dX12_sleeperText_53 : decode cX12_sleeperText 53 = .ok (.iconst 0, 1) := by decide +kernel
theorem dX12_sleeperText_54 : decode cX12_sleeperText 54 = .ok (.iastore, 1) := by decide +kernel
theorem dX12_sleeperText_55 : decode cX12_sleeperText 55 = .ok (.iinc 2 1, 3) := by decide +kernel
theorem dX12_sleeperText_58 : decode cX12_sleeperText 58 = .ok (.goto (-26), 3) := by decide +kernel
theorem dX12_sleeperText_61 : decode cX12_sleeperText 61 = .ok (.iconst 0, 1) := by decide +kernel
theorem dX12_sleeperText_62 : decode cX12_sleeperText 62 = .ok (.istore_n 2, 1) := by decide +kernel
theorem dX12_sleeperText_63 : decode cX12_sleeperText 63 = .ok (.aload_n 0, 1) := by decide +kernel
theorem dX12_sleeperText_64 : decode cX12_sleeperText 64 = .ok (.invokevirtual 141, 3) := by decide +kernel
theorem dX12_sleeperText_67 : decode cX12_sleeperText 67 = .ok (.invokestatic 237, 3) := by decide +kernel
theorem dX12_sleeperText_70 : decode cX12_sleeperText 70 = .ok (.istore_n 3, 1) := by decide +kernel
theorem dX12_sleeperText_71 : decode cX12_sleeperText 71 = .ok (.aload_n 0, 1) := by decide +kernel
theorem dX12_sleeperText_72 : decode cX12_sleeperText 72 = .ok (.getfield 129, 3) := by decide +kernel
theorem dX12_sleeperText_75 : decode cX12_sleeperText 75 = .ok (.iconst (-1), 1) := by decide +kernel
theorem dX12_sleeperText_76 : decode cX12_sleeperText 76 = .ok (.if_icmp .ne 61, 3) := by decide +kernel
theorem dX12_sleeperText_79 : decode cX12_sleeperText 79 = .ok (.iload_n 3, 1) := by decide +kernel
theorem dX12_sleeperText_80 : decode cX12_sleeperText 80 = .ok (.iconst (-1), 1) := by decide +kernel
theorem dX12_sleeperText_81 : decode cX12_sleeperText 81 = .ok (.if_icmp .eq 56, 3) := by decide +kernel
theorem dX12_sleeperText_84 : decode cX12_sleeperText 84 = .ok (.iload_n 2, 1) := by decide +kernel
theorem dX12_sleeperText_85 : decode cX12_sleeperText 85 = .ok (.iload_n 3, 1) := by decide +kernel
theorem dX12_sleeperText_86 : decode cX12_sleeperText 86 = .ok (.invokestatic 240, 3) := by decide +kernel
theorem dX12_sleeperText_89 : decode cX12_sleeperText 89 = .ok (.ifCond .ne 48, 3) := by decide +kernel
theorem dX12_sleeperText_92 : decode cX12_sleeperText 92 = .ok (.iload_n 2, 1) := by decide +kernel
theorem dX12_sleeperText_93 : decode cX12_sleeperText 93 = .ok (.iconst 1, 1) := by decide +kernel
theorem dX12_sleeperText_94 : decode cX12_sleeperText 94 = .ok (.iload_n 3, 1) := by decide +kernel
theorem dX12_sleeperText_95 : decode cX12_sleeperText 95 = .ok (.ishl, 1) := by decide +kernel
theorem dX12_sleeperText_96 : decode cX12_sleeperText 96 = .ok (.ior, 1) := by decide +kernel
theorem dX12_sleeperText_97 : decode cX12_sleeperText 97 = .ok (.istore_n 2, 1) := by decide +kernel
theorem dX12_sleeperText_98 : decode cX12_sleeperText 98 = .ok (.aload_n 0, 1) := by decide +kernel
theorem dX12_sleeperText_99 : decode cX12_sleeperText 99 = .ok (.dup, 1) := by decide +kernel
theorem dX12_sleeperText_100 : decode cX12_sleeperText 100 = .ok (.getfield 122, 3) := by decide +kernel
theorem dX12_sleeperText_103 : decode cX12_sleeperText 103 = .ok (.iconst 1, 1) := by decide +kernel
theorem dX12_sleeperText_104 : decode cX12_sleeperText 104 = .ok (.iadd, 1) := by decide +kernel
theorem dX12_sleeperText_105 : decode cX12_sleeperText 105 = .ok (.putfield 122, 3) := by decide +kernel
theorem dX12_sleeperText_108 : decode cX12_sleeperText 108 = .ok (.aload_n 0, 1) := by decide +kernel
theorem dX12_sleeperText_109 : decode cX12_sleeperText 109 = .ok (.getfield 40, 3) := by decide +kernel
theorem dX12_sleeperText_112 : decode cX12_sleeperText 112 = .ok (.iload_n 1, 1) := by decide +kernel
theorem dX12_sleeperText_113 : decode cX12_sleeperText 113 = .ok (.iload_n 3, 1) := by decide +kernel
theorem dX12_sleeperText_114 : decode cX12_sleeperText 114 = .ok (.iadd, 1) := by decide +kernel
theorem dX12_sleeperText_115 : decode cX12_sleeperText 115 = .ok (.aload_n 0, 1) := by decide +kernel
theorem dX12_sleeperText_116 : decode cX12_sleeperText 116 = .ok (.iconst 0, 1) := by decide +kernel
theorem dX12_sleeperText_117 : decode cX12_sleeperText 117 = .ok (.aload_n 0, 1) := by decide +kernel
theorem dX12_sleeperText_118 : decode cX12_sleeperText 118 = .ok (.iload_n 3, 1) := by decide +kernel
theorem dX12_sleeperText_119 : decode cX12_sleeperText 119 = .ok (.invokevirtual 244, 3) := by decide +kernel
theorem dX12_sleeperText_122 : decode cX12_sleeperText 122 = .ok (.invokevirtual 247, 3) := by decide +kernel
theorem dX12_sleeperText_125 : decode cX12_sleeperText 125 = .ok (.iastore, 1) := by decide +kernel
theorem dX12_sleeperText_126 : decode cX12_sleeperText 126 = .ok (.aload_n 0, 1) := by decide +kernel
theorem dX12_sleeperText_127 : decode cX12_sleeperText 127 = .ok (.invokevirtual 141, 3) := by decide +kernel
theorem dX12_sleeperText_130 : decode cX12_sleeperText 130 = .ok (.invokestatic 237, 3) := by decide +kernel
theorem dX12_sleeperText_133 : decode cX12_sleeperText 133 = .ok (.istore_n 3, 1) := by decide +kernel
theorem dX12_sleeperText_134 : decode cX12_sleeperText 134 = .ok (.goto (-63), 3) := by decide +kernel
theorem dX12_sleeperText_137 : decode cX12_sleeperText 137 = .ok (.aload_n 0, 1) := by decide +kernel
theorem dX12_sleeperText_138 : decode cX12_sleeperText 138 = .ok (.dup, 1) := by decide +kernel
theorem dX12_sleeperText_139 : decode cX12_sleeperText 139 = .ok (.getfield 234, 3) := by decide +kernel
theorem dX12_sleeperText_142 : decode cX12_sleeperText 142 = .ok (.iconst 1, 1) := by decide +kernel
theorem dX12_sleeperText_143 : decode cX12_sleeperText 143 = .ok (.iadd, 1) := by decide +kernel
theorem dX12_sleeperText_144 : decode cX12_sleeperText 144 = .ok (.putfield 234, 3) := by decide +kernel
theorem dX12_sleeperText_147 : decode cX12_sleeperText 147 = .ok (.return_, 1) := by decide +kernel
set_option maxRecDepth 100000 in
theorem u_X12_sleeperText_32 {x : sm_Cx} {n : Nat} {F : sm_MI → sm_ML → Prop} {T : List sm_Sh} {I : sm_MI} {L : sm_ML} {a1 : Int32} {a2 : Int32} (hB : sm_Bs T) (hx : sm_Ok x mX12_sleeperText (n + 1) (sm_KV T F))
    (h : (4 ≤ a2 → sm_CI n mX12_look T I L [.ref 76] (fun r2 I1 L1 => sm_CI n mX12_sleeperItem T I1 L1 [.int r2] (fun r4 I3 L3 => sm_V x 0 0 T I3 L3 71 [some (.ref 76), some (.int a1), some (.int 0), some (.int r4)] []))) ∧ (¬ 4 ≤ a2 → (¬ a2 = 1 → vp_in (a1 + a2) 20 ∧ (sm_V x 0 0 T (sm_uI I 87 (Int32.toNatClampNeg ((a1 + a2))) 0) L 32 [some (.ref 76), some (.int a1), some (.int (a2 + 1)), none] [])) ∧ (a2 = 1 → vp_in (a1 + a2) 20 ∧ (sm_V x 0 0 T (sm_uI I 87 (Int32.toNatClampNeg ((a1 + a2))) 1) L 32 [some (.ref 76), some (.int a1), some (.int (a2 + 1)), none] [])))) :
    sm_V x 0 0 T I L 32 [some (.ref 76), some (.int a1), some (.int a2), none] [] :=
  sm_iload_n (z := a2) hx dX12_sleeperText_32 rfl (sm_iconst (v := 4) hx dX12_sleeperText_33 sm_kc_4 (sm_icmpge (a := a2) (b := 4) hx dX12_sleeperText_34 (tgt := 61) (by decide) (fun q2 => sm_iconst (v := 0) hx dX12_sleeperText_61 sm_kc_0 (sm_istore_n (ls' := [some (.ref 76), some (.int a1), some (.int 0), none]) hx dX12_sleeperText_62 (by decide) rfl (sm_aload_n (z := 76) hx dX12_sleeperText_63 rfl (sm_callVI (args := []) (st := []) hx dX12_sleeperText_64 lv_X12_141_12 rfl rfl (t_76 hB) rfl rfl (h.1 q2) (fun r2 I1 L1 hI1 => sm_callSI (args := [.int r2]) (st := []) hx dX12_sleeperText_67 ls_X12_237 rfl rfl rfl hI1 (fun r4 I3 L3 hI3 => sm_istore_n (ls' := [some (.ref 76), some (.int a1), some (.int 0), some (.int r4)]) hx dX12_sleeperText_70 (by decide) rfl (hI3))))))) (fun q2 => sm_aload_n (z := 76) hx dX12_sleeperText_37 rfl (sm_getR hx dX12_sleeperText_38 fl_X12_40_12 (t_76 hB) rfl (sm_iload_n (z := a1) hx dX12_sleeperText_41 rfl (sm_iload_n (z := a2) hx dX12_sleeperText_42 rfl (sm_iadd (a := a1) (b := a2) hx dX12_sleeperText_43 (sm_iload_n (z := a2) hx dX12_sleeperText_44 rfl (sm_iconst (v := 1) hx dX12_sleeperText_45 sm_kc_1 (sm_icmpne (a := a2) (b := 1) hx dX12_sleeperText_46 (tgt := 53) (by decide) (fun q1 => sm_iconst (v := 0) hx dX12_sleeperText_53 sm_kc_0 (sm_iast (i := (a1 + a2)) (v := 0) hx dX12_sleeperText_54 (t_87 hB) ((h.2 q2).1 q1).1 (sm_iinc (ls' := [some (.ref 76), some (.int a1), some (.int (a2 + 1)), none]) (z := a2) (v := (a2 + 1)) hx dX12_sleeperText_55 rfl (sm_kii_1 _) (by decide) rfl (sm_goto hx dX12_sleeperText_58 (tgt := 32) (by decide) (((h.2 q2).1 q1).2))))) (fun q1 => sm_iconst (v := 1) hx dX12_sleeperText_49 sm_kc_1 (sm_goto hx dX12_sleeperText_50 (tgt := 54) (by decide) (sm_iast (i := (a1 + a2)) (v := 1) hx dX12_sleeperText_54 (t_87 hB) ((h.2 q2).2 q1).1 (sm_iinc (ls' := [some (.ref 76), some (.int a1), some (.int (a2 + 1)), none]) (z := a2) (v := (a2 + 1)) hx dX12_sleeperText_55 rfl (sm_kii_1 _) (by decide) rfl (sm_goto hx dX12_sleeperText_58 (tgt := 32) (by decide) (((h.2 q2).2 q1).2))))))))))))))))
set_option maxRecDepth 100000 in
theorem u_X12_sleeperText_71 {x : sm_Cx} {n : Nat} {F : sm_MI → sm_ML → Prop} {T : List sm_Sh} {I : sm_MI} {L : sm_ML} {a1 : Int32} {a2 : Int32} {a3 : Int32} (hB : sm_Bs T) (hx : sm_Ok x mX12_sleeperText (n + 1) (sm_KV T F))
    (h : (¬ (I 76 4) = (-1) → F (sm_uI I 76 20 ((I 76 20) + 1)) L) ∧ ((I 76 4) = (-1) → (a3 = (-1) → F (sm_uI I 76 20 ((I 76 20) + 1)) L) ∧ (¬ a3 = (-1) → sm_CZ n mX12_has T I L [.int a2, .int a3] (fun r2 I1 L1 => (r2 = true → F (sm_uI I1 76 20 ((I1 76 20) + 1)) L1) ∧ (r2 = false → sm_CI n mX12_highest T (sm_uI I1 76 3 ((I1 76 3) + 1)) L1 [.ref 76, .int a3] (fun r4 I3 L3 => sm_CI n mX12_digit T I3 L3 [.ref 76, .int 0, .int r4] (fun r6 I5 L5 => vp_in (a1 + a3) 20 ∧ (sm_CI n mX12_look T (sm_uI I5 87 (Int32.toNatClampNeg ((a1 + a3))) r6) L5 [.ref 76] (fun r8 I7 L7 => sm_CI n mX12_sleeperItem T I7 L7 [.int r8] (fun r10 I9 L9 => sm_V x 0 0 T I9 L9 71 [some (.ref 76), some (.int a1), some (.int (a2 ||| (1 <<< (a3 &&& 31)))), some (.int r10)] [])))))))))) :
    sm_V x 0 0 T I L 71 [some (.ref 76), some (.int a1), some (.int a2), some (.int a3)] [] :=
  sm_aload_n (z := 76) hx dX12_sleeperText_71 rfl (sm_getI hx dX12_sleeperText_72 fl_X12_129_12 (t_76 hB) rfl (sm_iconst (v := (-1)) hx dX12_sleeperText_75 sm_kc_m1 (sm_icmpne (a := (I 76 4)) (b := (-1)) hx dX12_sleeperText_76 (tgt := 137) (by decide) (fun q5 => sm_aload_n (z := 76) hx dX12_sleeperText_137 rfl (sm_dup hx dX12_sleeperText_138 rfl (sm_getI hx dX12_sleeperText_139 fl_X12_234_12 (t_76 hB) rfl (sm_iconst (v := 1) hx dX12_sleeperText_142 sm_kc_1 (sm_iadd (a := (I 76 20)) (b := 1) hx dX12_sleeperText_143 (sm_putI hx dX12_sleeperText_144 fl_X12_234_12 (t_76 hB) rfl (sm_vretV hx dX12_sleeperText_147 rfl (h.1 q5)))))))) (fun q5 => sm_iload_n (z := a3) hx dX12_sleeperText_79 rfl (sm_iconst (v := (-1)) hx dX12_sleeperText_80 sm_kc_m1 (sm_icmpeq (a := a3) (b := (-1)) hx dX12_sleeperText_81 (tgt := 137) (by decide) (fun q4 => sm_aload_n (z := 76) hx dX12_sleeperText_137 rfl (sm_dup hx dX12_sleeperText_138 rfl (sm_getI hx dX12_sleeperText_139 fl_X12_234_12 (t_76 hB) rfl (sm_iconst (v := 1) hx dX12_sleeperText_142 sm_kc_1 (sm_iadd (a := (I 76 20)) (b := 1) hx dX12_sleeperText_143 (sm_putI hx dX12_sleeperText_144 fl_X12_234_12 (t_76 hB) rfl (sm_vretV hx dX12_sleeperText_147 rfl ((h.2 q5).1 q4)))))))) (fun q4 => sm_iload_n (z := a2) hx dX12_sleeperText_84 rfl (sm_iload_n (z := a3) hx dX12_sleeperText_85 rfl (sm_callSZ (args := [.int a2, .int a3]) (st := []) hx dX12_sleeperText_86 ls_X12_240 rfl rfl rfl ((h.2 q5).2 q4) (fun r2 I1 L1 hI1 => sm_ifneZ (b := r2) hx dX12_sleeperText_89 (tgt := 137) (by decide) (fun q3 => sm_aload_n (z := 76) hx dX12_sleeperText_137 rfl (sm_dup hx dX12_sleeperText_138 rfl (sm_getI hx dX12_sleeperText_139 fl_X12_234_12 (t_76 hB) rfl (sm_iconst (v := 1) hx dX12_sleeperText_142 sm_kc_1 (sm_iadd (a := (I1 76 20)) (b := 1) hx dX12_sleeperText_143 (sm_putI hx dX12_sleeperText_144 fl_X12_234_12 (t_76 hB) rfl (sm_vretV hx dX12_sleeperText_147 rfl (hI1.1 q3)))))))) (fun q3 => sm_iload_n (z := a2) hx dX12_sleeperText_92 rfl (sm_iconst (v := 1) hx dX12_sleeperText_93 sm_kc_1 (sm_iload_n (z := a3) hx dX12_sleeperText_94 rfl (sm_ishl (a := 1) (b := a3) hx dX12_sleeperText_95 (sm_ior (a := a2) (b := (1 <<< (a3 &&& 31))) hx dX12_sleeperText_96 (sm_istore_n (ls' := [some (.ref 76), some (.int a1), some (.int (a2 ||| (1 <<< (a3 &&& 31)))), some (.int a3)]) hx dX12_sleeperText_97 (by decide) rfl (sm_aload_n (z := 76) hx dX12_sleeperText_98 rfl (sm_dup hx dX12_sleeperText_99 rfl (sm_getI hx dX12_sleeperText_100 fl_X12_122_12 (t_76 hB) rfl (sm_iconst (v := 1) hx dX12_sleeperText_103 sm_kc_1 (sm_iadd (a := (I1 76 3)) (b := 1) hx dX12_sleeperText_104 (sm_putI hx dX12_sleeperText_105 fl_X12_122_12 (t_76 hB) rfl (sm_aload_n (z := 76) hx dX12_sleeperText_108 rfl (sm_getR hx dX12_sleeperText_109 fl_X12_40_12 (t_76 hB) rfl (sm_iload_n (z := a1) hx dX12_sleeperText_112 rfl (sm_iload_n (z := a3) hx dX12_sleeperText_113 rfl (sm_iadd (a := a1) (b := a3) hx dX12_sleeperText_114 (sm_aload_n (z := 76) hx dX12_sleeperText_115 rfl (sm_iconst (v := 0) hx dX12_sleeperText_116 sm_kc_0 (sm_aload_n (z := 76) hx dX12_sleeperText_117 rfl (sm_iload_n (z := a3) hx dX12_sleeperText_118 rfl (sm_callVI (args := [.int a3]) (st := [.int 0, .ref 76, .int (a1 + a3), .ref 87]) hx dX12_sleeperText_119 lv_X12_244_12 rfl rfl (t_76 hB) rfl rfl (hI1.2 q3) (fun r4 I3 L3 hI3 => sm_callVI (args := [.int 0, .int r4]) (st := [.int (a1 + a3), .ref 87]) hx dX12_sleeperText_122 lv_X12_247_12 rfl rfl (t_76 hB) rfl rfl hI3 (fun r6 I5 L5 hI5 => sm_iast (i := (a1 + a3)) (v := r6) hx dX12_sleeperText_125 (t_87 hB) hI5.1 (sm_aload_n (z := 76) hx dX12_sleeperText_126 rfl (sm_callVI (args := []) (st := []) hx dX12_sleeperText_127 lv_X12_141_12 rfl rfl (t_76 hB) rfl rfl hI5.2 (fun r8 I7 L7 hI7 => sm_callSI (args := [.int r8]) (st := []) hx dX12_sleeperText_130 ls_X12_237 rfl rfl rfl hI7 (fun r10 I9 L9 hI9 => sm_istore_n (ls' := [some (.ref 76), some (.int a1), some (.int (a2 ||| (1 <<< (a3 &&& 31)))), some (.int r10)]) hx dX12_sleeperText_133 (by decide) rfl (sm_goto hx dX12_sleeperText_134 (tgt := 71) (by decide) (hI9))))))))))))))))))))))))))))))))))))))))
set_option maxRecDepth 100000 in
theorem c_X12_sleeperText {n : Nat} {F : sm_MI → sm_ML → Prop} {T : List sm_Sh} {I : sm_MI} {L : sm_ML}  (hB : sm_Bs T)
    (h : ∀ x : sm_Cx, sm_Ok x mX12_sleeperText (n + 1) (sm_KV T F) → (¬ (I 76 20) = 5 → ∀ I1 : sm_MI, I1 = (sm_uI I 76 3 ((I 76 3) + 1)) → sm_V x 0 0 T I1 L 32 [some (.ref 76), some (.int (4 * (I1 76 20))), some (.int 0), none] []) ∧ ((I 76 20) = 5 → sm_CV n mX12_bad T I L [.ref 76] (fun I2 L2 => F I2 L2))) :
    sm_CV (n + 1) mX12_sleeperText T I L [.ref 76] F :=
  sm_CV.of (by decide +kernel) rfl (fun x hx => show sm_V x 0 0 T I L 0 [some (.ref 76), none, none, none] [] from
  sm_aload_n (z := 76) hx dX12_sleeperText_0 rfl (sm_getI hx dX12_sleeperText_1 fl_X12_234_12 (t_76 hB) rfl (sm_iconst (v := 5) hx dX12_sleeperText_4 sm_kc_5 (sm_icmpne (a := (I 76 20)) (b := 5) hx dX12_sleeperText_5 (tgt := 13) (by decide) (fun q6 => sm_aload_n (z := 76) hx dX12_sleeperText_13 rfl (sm_dup hx dX12_sleeperText_14 rfl (sm_getI hx dX12_sleeperText_15 fl_X12_122_12 (t_76 hB) rfl (sm_iconst (v := 1) hx dX12_sleeperText_18 sm_kc_1 (sm_iadd (a := (I 76 3)) (b := 1) hx dX12_sleeperText_19 (sm_putI hx dX12_sleeperText_20 fl_X12_122_12 (t_76 hB) rfl (sm_iconst (v := 4) hx dX12_sleeperText_23 sm_kc_4 (sm_aload_n (z := 76) hx dX12_sleeperText_24 rfl (sm_getI hx dX12_sleeperText_25 fl_X12_234_12 (t_76 hB) rfl (sm_imul (a := 4) (b := ((sm_uI I 76 3 ((I 76 3) + 1)) 76 20)) hx dX12_sleeperText_28 (sm_istore_n (ls' := [some (.ref 76), some (.int (4 * ((sm_uI I 76 3 ((I 76 3) + 1)) 76 20))), none, none]) hx dX12_sleeperText_29 (by decide) rfl (sm_iconst (v := 0) hx dX12_sleeperText_30 sm_kc_0 (sm_istore_n (ls' := [some (.ref 76), some (.int (4 * ((sm_uI I 76 3 ((I 76 3) + 1)) 76 20))), some (.int 0), none]) hx dX12_sleeperText_31 (by decide) rfl ((((h x hx).1 q6) _ rfl))))))))))))))) (fun q6 => sm_aload_n (z := 76) hx dX12_sleeperText_8 rfl (sm_callVV (args := []) (st := []) hx dX12_sleeperText_9 lv_X12_138_12 rfl rfl (t_76 hB) rfl rfl ((h x hx).2 q6) (fun I2 L2 hI2 => sm_vretV hx dX12_sleeperText_12 rfl hI2)))))))
