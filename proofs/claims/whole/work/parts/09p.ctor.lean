section
variable {x : sm_Cx} {md : sm_MD} {n : Nat} {K : sm_K} {bc bs : Nat} {T0 T : List sm_Sh} {I0 I : sm_MI} {L0 L : sm_ML} {pc pc5 k ci m s t : Nat} {fs : List Value} {l : List sm_Sh} {ls : List (Option Value)} {st : List Value}
theorem ST_set0 (hk : k < T0.length) {fs' : List Value} : (ST T0 k ci fs l).set k (.inr (ci, fs')) = ST T0 k ci fs' l := by
  have := ST_set (T0 := T0) (k := k) (ci := ci) (fs := fs) (l := l) (fs' := fs') (r := []) hk
  rw [List.append_nil, List.append_nil] at this
  exact this
theorem pInt2 {i3 j : Nat} {z : Int32} (hx : sm_Ok x md n K) (hk : k < T0.length) (hZ : ZI T0 I0 L0 m I L) (hI : I0 k j = 0) (h0 : ls[0]? = some (some (.ref k))) (da : decode md.2.1 pc = .ok (.aload_n 0, 1)) (dc : decode md.2.1 (pc + 1) = .ok (.iconst 0, 1)) (dp : decode md.2.1 (pc + 1 + 1) = .ok (.putfield i3, 3)) (lk : sm_FLk md.1.cls i3 ci j .int false) (hf : fs[j]? = some (.int z)) (kk : sm_V x bc bs (ST T0 k ci fs l) I L (pc + 1 + 1 + 3) ls []) : sm_V x bc bs (ST T0 k ci fs l) I L pc ls [] := by
  refine sm_aload_n (z := k) hx da h0 (sm_iconst (v := 0) hx dc sm_kc_0 (sm_putI hx dp lk (ST_k hk) hf ?_))
  rw [uI_z (by rw [(hZ.1 k hk).1, hI])]
  exact kk
theorem pM1 {i3 j : Nat} {z : Int32} (hx : sm_Ok x md n K) (hk : k < T0.length) (hZ : ZI T0 I0 L0 m I L) (h0 : ls[0]? = some (some (.ref k))) (da : decode md.2.1 pc = .ok (.aload_n 0, 1)) (dc : decode md.2.1 (pc + 1) = .ok (.iconst (-1), 1)) (dp : decode md.2.1 (pc + 1 + 1) = .ok (.putfield i3, 3)) (lk : sm_FLk md.1.cls i3 ci j .int false) (hf : fs[j]? = some (.int z)) (kk : ∀ I', ZI T0 (sm_uI I0 k j (-1)) L0 m I' L → sm_V x bc bs (ST T0 k ci fs l) I' L (pc + 1 + 1 + 3) ls []) : sm_V x bc bs (ST T0 k ci fs l) I L pc ls [] := by
  refine sm_aload_n (z := k) hx da h0 (sm_iconst (v := -1) hx dc sm_kc_m1 (sm_putI hx dp lk (ST_k hk) hf (kk _ ⟨fun a ha => ⟨?_, (hZ.1 a ha).2⟩, fun a h1 h2 => ⟨?_, (hZ.2 a h1 h2).2⟩⟩)))
  · funext b
    unfold sm_uI
    rw [(hZ.1 a ha).1]
  · rw [sm_uI_ne (by omega)]; exact (hZ.2 a h1 h2).1
set_option maxRecDepth 100000 in
theorem k_Dream (hk : T[k]? = some (.inr (1, [.int 0, .int 0, .int 0, .long 0, .null, .null, .null, .null, .null, .int 0, .int 0, .int 0, .int 0, .int 0, .int 0, .int 0, .int 0, .null, .null, .null, .null]))) (hI : I k = fun _ => 0) (hL : L k = fun _ => 0) (hl : T.length + 15 < 1000000) : sm_Call (n + 4) 14 5952 mX0_init T I L [.ref k, .ref s, .ref t] (kCt T (sm_uI (sm_uI I k 10 (-1)) k 11 (-1)) L k (.inr (1, [.int 0, .int 0, .int 0, .long 0, .ref s, .ref t, .ref T.length, .ref (T.length + 2), .ref (T.length + 4), .int 0, .int 0, .int 0, .int 0, .int 0, .int 0, .int 0, .int 0, .ref (T.length + 6), .ref (T.length + 8), .ref (T.length + 10), .ref (T.length + 12)])) [.inr (3, [.ref (T.length + 1)]), .inl (.int, 5, []), .inr (3, [.ref (T.length + 3)]), .inl (.int, 6, []), .inr (3, [.ref (T.length + 5)]), .inl (.int, 8, []), .inr (3, [.ref (T.length + 7)]), .inl (.int, 6, []), .inr (3, [.ref (T.length + 9)]), .inl (.int, 160, []), .inr (3, [.ref (T.length + 11)]), .inl (.int, 2880, []), .inr (3, [.ref (T.length + 13)]), .inl (.int, 2880, [])]) := by
  have hkl := lt_of hk
  refine sm_Call.of (by decide +kernel) rfl (fun x hx => ?_)
  show sm_V x 14 5952 T I L 0 [some (.ref k), some (.ref s), some (.ref t)] []
  refine sm_aload_n (z := k) hx dX0_init_0 rfl ?_
  refine sm_callI (args := []) (k := k) (bc' := 0) (bs' := 0) hx dX0_init_1 li_X0_5 rfl rfl rfl (by omega) (by omega) (k_StandD (n := n + 1) hk hI hL) (fun v T2 I2 L2 q => ?_)
  obtain ⟨rfl, rfl, a1, -⟩ := q
  show sm_V x 14 5952 (ST T k 1 [.int 0, .int 0, .int 0, .long 0, .null, .null, .null, .null, .null, .int 0, .int 0, .int 0, .int 0, .int 0, .int 0, .int 0, .int 0, .null, .null, .null, .null] []) I2 L2 4 [some (.ref k), some (.ref s), some (.ref t)] []
  refine pRow (n := n + 2) (m := 5) (pc := 4) (pc5 := 10) (j := 6) hx hkl (ZI_c a1) rfl dX0_init_4 dX0_init_5 kc_X0_11 dX0_init_8 (fun _ _ _ _ _ _ h => sm_iconst (v := nI 5) hx dX0_init_9 (by decide) h) dX0_init_10 li_X0_13 dX0_init_13 ff_X0_16_1 rfl rfl (by show (6 : Nat) < 21; decide) (by decide) (by show T.length + 0 + 2 < 1000000; omega) (by decide) (by decide) rfl (fun I3 L3 z1 => ?_)
  refine pRow (n := n + 2) (m := 6) (pc := 16) (pc5 := 23) (j := 7) hx hkl z1 rfl dX0_init_16 dX0_init_17 kc_X0_11 dX0_init_20 (fun _ _ _ _ _ _ h => sm_bipush (v := nI 6) hx dX0_init_21 (by decide) h) dX0_init_23 li_X0_13 dX0_init_26 ff_X0_20_1 rfl rfl (by show (7 : Nat) < 21; decide) (by decide) (by show T.length + 2 + 2 < 1000000; omega) (by decide) (by decide) rfl (fun I4 L4 z2 => ?_)
  refine pRow (n := n + 2) (m := 8) (pc := 29) (pc5 := 36) (j := 8) hx hkl z2 rfl dX0_init_29 dX0_init_30 kc_X0_11 dX0_init_33 (fun _ _ _ _ _ _ h => sm_bipush (v := nI 8) hx dX0_init_34 (by decide) h) dX0_init_36 li_X0_13 dX0_init_39 ff_X0_23_1 rfl rfl (by show (8 : Nat) < 21; decide) (by decide) (by show T.length + 4 + 2 < 1000000; omega) (by decide) (by decide) rfl (fun I5 L5 z3 => ?_)
  refine pInt2 (m := 6) (pc := 42) (j := 9) hx hkl z3 (by rw [hI]) rfl dX0_init_42 dX0_init_43 dX0_init_44 fl_X0_26_1 rfl ?_
  refine pM1 (m := 6) (pc := 47) (j := 10) hx hkl z3 rfl dX0_init_47 dX0_init_48 dX0_init_49 fl_X0_30_1 rfl (fun I6 y1 => ?_)
  refine pM1 (m := 6) (pc := 52) (j := 11) hx hkl y1 rfl dX0_init_52 dX0_init_53 dX0_init_54 fl_X0_33_1 rfl (fun I7 y2 => ?_)
  refine pInt2 (m := 6) (pc := 57) (j := 12) hx hkl y2 (by rw [cuD (by omega), cuD (by omega), hI]) rfl dX0_init_57 dX0_init_58 dX0_init_59 fl_X0_36_1 rfl ?_
  refine pInt2 (m := 6) (pc := 62) (j := 13) hx hkl y2 (by rw [cuD (by omega), cuD (by omega), hI]) rfl dX0_init_62 dX0_init_63 dX0_init_64 fl_X0_39_1 rfl ?_
  refine pInt2 (m := 6) (pc := 67) (j := 14) hx hkl y2 (by rw [cuD (by omega), cuD (by omega), hI]) rfl dX0_init_67 dX0_init_68 dX0_init_69 fl_X0_42_1 rfl ?_
  refine pInt2 (m := 6) (pc := 72) (j := 15) hx hkl y2 (by rw [cuD (by omega), cuD (by omega), hI]) rfl dX0_init_72 dX0_init_73 dX0_init_74 fl_X0_45_1 rfl ?_
  refine pInt2 (m := 6) (pc := 77) (j := 16) hx hkl y2 (by rw [cuD (by omega), cuD (by omega), hI]) rfl dX0_init_77 dX0_init_78 dX0_init_79 fl_X0_48_1 rfl ?_
  refine pRow2 (n := n + 2) (m := 6) (pc := 82) (pc5 := 92) (j := 17) hx hkl y2 rfl dX0_init_82 dX0_init_83 kc_X0_11 dX0_init_86 (fun _ _ _ I' L' a b c h => ?_) dX0_init_92 li_X0_13 dX0_init_95 ff_X0_61_1 rfl rfl (by show (17 : Nat) < 21; decide) (by decide) (by show T.length + 6 + 2 < 1000000; omega) (by decide) (by decide) rfl (fun I8 L8 z4 => ?_)
  · refine sm_ldcS (k := 1000003) hx dX0_init_87 sm_str_X0_53 rfl ?_
    refine sm_callVXI (args := []) (st := [.ref a, .ref b, .ref c]) hx dX0_init_89 lv_X0_55_x rfl rfl (i := 3) (by decide) rfl rfl (F := fun z I2 L2 => z = nI 6 ∧ I' = I2 ∧ L' = L2) (c_J0_length_8abf5_nhsqmw (n := n + 2) (c_J0_coder_7d493_nhsqmw ⟨by decide, rfl, rfl⟩)) (fun z I2 L2 q => ?_)
    obtain ⟨rfl, rfl, rfl⟩ := q
    exact h
  refine pRow (n := n + 2) (m := 160) (pc := 98) (pc5 := 106) (j := 18) hx hkl z4 rfl dX0_init_98 dX0_init_99 kc_X0_11 dX0_init_102 (fun _ _ _ _ _ _ h => sm_sipush (v := nI 160) hx dX0_init_103 (by decide) h) dX0_init_106 li_X0_13 dX0_init_109 ff_X0_64_1 rfl rfl (by show (18 : Nat) < 21; decide) (by decide) (by show T.length + 8 + 2 < 1000000; omega) (by decide) (by decide) rfl (fun I7 L7 z5 => ?_)
  refine pRow (n := n + 2) (m := 2880) (pc := 112) (pc5 := 120) (j := 19) hx hkl z5 rfl dX0_init_112 dX0_init_113 kc_X0_11 dX0_init_116 (fun _ _ _ _ _ _ h => sm_sipush (v := nI 2880) hx dX0_init_117 (by decide) h) dX0_init_120 li_X0_13 dX0_init_123 ff_X0_67_1 rfl rfl (by show (19 : Nat) < 21; decide) (by decide) (by show T.length + 10 + 2 < 1000000; omega) (by decide) (by decide) rfl (fun I8 L8 z6 => ?_)
  refine pRow (n := n + 2) (m := 2880) (pc := 126) (pc5 := 134) (j := 20) hx hkl z6 rfl dX0_init_126 dX0_init_127 kc_X0_11 dX0_init_130 (fun _ _ _ _ _ _ h => sm_sipush (v := nI 2880) hx dX0_init_131 (by decide) h) dX0_init_134 li_X0_13 dX0_init_137 ff_X0_70_1 rfl rfl (by show (20 : Nat) < 21; decide) (by decide) (by show T.length + 12 + 2 < 1000000; omega) (by decide) (by decide) rfl (fun I9 L9 z7 => ?_)
  refine sm_aload_n (z := k) hx dX0_init_140 rfl (sm_aload_n (z := s) hx dX0_init_141 rfl (sm_putFR hx dX0_init_142 ff_X0_73_1 rfl rfl (ST_k hkl) (by show (4 : Nat) < 21; decide) ?_))
  rw [ST_set0 hkl]
  refine sm_aload_n (z := k) hx dX0_init_145 rfl (sm_aload_n (z := t) hx dX0_init_146 rfl (sm_putFR hx dX0_init_147 ff_X0_77_1 rfl rfl (ST_k hkl) (by show (5 : Nat) < 21; decide) ?_))
  rw [ST_set0 hkl]
  exact ct_ret (hx := hx) z7 dX0_init_150 rfl
end
