section
variable {n : Nat} {T : List sm_Sh} {I : sm_MI} {L : sm_ML}
set_option maxRecDepth 100000 in
/-- text, the class's -/
theorem c_text {K : sm_K} {a : Int32} {e0 s1 : Nat} (hB : sm_Bs T) (h23 : T[23]? = some (oLst e0)) (hs1 : s1 ≤ 390)
    (h0 : a = 0 → sm_CI (n + 6) mX9_read T I L [.ref 4] (fun r I1 L1 => (¬ r = -1 → K (some (.int (-1))) T I1 L1) ∧ (r = -1 → sm_CV (n + 6) mX11_moveInto T (sm_uI I1 1 1 0) L1 [.ref 0, .ref 5] (fun I2 L2 => K (some (.int (I2 24 1))) T I2 L2))))
    (h2 : ¬ a = 0 → ¬ a = 1 → K (some (.int (-1))) T I L)
    (h1 : a = 1 → (5 ≤ I 23 2 → K (some (.int (-1))) T I L) ∧ (¬ 5 ≤ I 23 2 → sm_CI (n + 6) mX5_read T I L [.ref 18] (fun r I1 L1 => (¬ r = -1 → K (some (.int (-1))) T I1 L1) ∧ (r = -1 → sm_Call (n + 6) 5 s1 mX5_made T (sm_uI I1 1 1 0) L1 [.ref 18] (fun v T2 I2 L2 => ∃ q e2, v = some (.ref q) ∧ T2[23]? = some (oLst e2) ∧ sm_Call (n + 6) 1 10 mJx4a65c_add_9ea2d T2 I2 L2 [.ref 23, .ref q] (fun v3 T3 I3 L3 => v3 = some (.int 1) ∧ sm_Bs T3 ∧ (∃ e3, T3[23]? = some (oLst e3)) ∧ K (some (.int (I3 23 2 - 1))) T3 I3 L3)))))) :
    sm_Call (n + 7) 6 400 mX11_text T I L [.ref 0, .int a] K := by
  refine sm_Call.of (by decide +kernel) rfl (fun x hx => ?_)
  show sm_V x 6 400 T I L 0 [some (.ref 0), some (.int a)] []
  have no : ∀ (I' : sm_MI) (L' : sm_ML), K (some (.int (-1))) T I' L' → sm_V x 6 400 T I' L' 102 [some (.ref 0), some (.int a)] [] := fun I' L' k => sm_iconst (v := -1) hx dX11_text_102 sm_kc_m1 (sm_iret hx dX11_text_103 rfl k)
  have at42 : ∀ (I' : sm_MI) (L' : sm_ML), (¬ a = 1 → K (some (.int (-1))) T I' L') → (a = 1 → sm_V x 6 400 T I' L' 47 [some (.ref 0), some (.int a)] []) → sm_V x 6 400 T I' L' 42 [some (.ref 0), some (.int a)] [] := fun I' L' k k2 => sm_iload_n (z := a) hx dX11_text_42 rfl (sm_iconst (v := 1) hx dX11_text_43 sm_kc_1 (sm_icmpne (a := a) (b := 1) hx dX11_text_44 (tgt := 102) (by decide) (fun q => no I' L' (k q)) (fun q => k2 q)))
  refine sm_iload_n (z := a) hx dX11_text_0 rfl (sm_ifne (a := a) hx dX11_text_1 (tgt := 42) (by decide) (fun q0 => ?_) (fun q0 => ?_))
  · refine at42 I L (h2 q0) (fun q1 => ?_)
    obtain ⟨g1, g2⟩ := h1 q1
    refine sm_aload_n (z := 0) hx dX11_text_47 rfl (sm_getR hx dX11_text_48 fl_X11_35_11 (t_0 hB) rfl ?_)
    refine sm_callVI (args := []) (k := 23) hx dX11_text_51 lv_X11_134_0 rfl rfl h23 rfl rfl (s_size (n := n + 6) (F := fun z I' L' => z = I 23 2 ∧ I = I' ∧ L = L') h23 ⟨rfl, rfl, rfl⟩) (fun z I' L' q => ?_)
    obtain ⟨rfl, rfl, rfl⟩ := q
    refine sm_iconst (v := 5) hx dX11_text_54 sm_kc_5 (sm_icmpge (a := I 23 2) (b := 5) hx dX11_text_55 (tgt := 102) (by decide) (fun q => no I L (g1 q)) (fun q => ?_))
    refine sm_aload_n (z := 0) hx dX11_text_58 rfl (sm_getR hx dX11_text_59 fl_X11_28_11 (t_0 hB) rfl ?_)
    refine sm_callVI (args := []) (k := 18) hx dX11_text_62 lv_X11_123_5 rfl rfl (t_18 hB) rfl rfl (g2 q) (fun r I1 L1 q2 => ?_)
    refine sm_iconst (v := -1) hx dX11_text_65 sm_kc_m1 (sm_icmpne (a := r) (b := -1) hx dX11_text_66 (tgt := 102) (by decide) (fun q3 => no I1 L1 (q2.1 q3)) (fun q3 => ?_))
    refine sm_aload_n (z := 0) hx dX11_text_69 rfl (sm_getR hx dX11_text_70 fl_X11_10_11 (t_0 hB) rfl (sm_iconst (v := 0) hx dX11_text_73 sm_kc_0 (sm_putI hx dX11_text_74 fl_X11_109_10 (t_1 hB) rfl ?_)))
    refine sm_aload_n (z := 0) hx dX11_text_77 rfl (sm_getR hx dX11_text_78 fl_X11_35_11 (t_0 hB) rfl (sm_aload_n (z := 0) hx dX11_text_81 rfl (sm_getR hx dX11_text_82 fl_X11_28_11 (t_0 hB) rfl ?_)))
    refine sm_callV (args := []) (k := 18) (bc' := 5) (bs' := s1) hx dX11_text_85 lv_X11_137_5 rfl rfl (t_18 hB) rfl rfl (by omega) (by omega) (q2.2 q3) (fun v T2 I2 L2 q4 => ?_)
    obtain ⟨r2, e2, rfl, m23, q5⟩ := q4
    refine sm_callV (args := [.ref r2]) (k := 23) (bc' := 1) (bs' := 10) hx dX11_text_88 lv_X11_141_0 rfl rfl m23 rfl rfl (by omega) (by omega) q5 (fun v T3 I3 L3 q6 => ?_)
    obtain ⟨rfl, hB3, ⟨e3, k23⟩, q7⟩ := q6
    refine sm_pop hx dX11_text_91 rfl (sm_aload_n (z := 0) hx dX11_text_92 rfl (sm_getR hx dX11_text_93 fl_X11_35_11 (t_0 hB3) rfl ?_))
    refine sm_callVI (args := []) (k := 23) hx dX11_text_96 lv_X11_134_0 rfl rfl k23 rfl rfl (s_size (n := n + 6) (F := fun z I' L' => z = I3 23 2 ∧ I3 = I' ∧ L3 = L') k23 ⟨rfl, rfl, rfl⟩) (fun z I' L' q => ?_)
    obtain ⟨rfl, rfl, rfl⟩ := q
    exact sm_iconst (v := 1) hx dX11_text_99 sm_kc_1 (sm_isub hx dX11_text_100 (sm_iret hx dX11_text_101 rfl q7))
  · refine sm_aload_n (z := 0) hx dX11_text_4 rfl (sm_getR hx dX11_text_5 fl_X11_21_11 (t_0 hB) rfl ?_)
    refine sm_callVI (args := []) (k := 4) hx dX11_text_8 lv_X11_119_9 rfl rfl (t_4 hB) rfl rfl (h0 q0) (fun r I1 L1 q2 => ?_)
    refine sm_iconst (v := -1) hx dX11_text_11 sm_kc_m1 (sm_icmpne (a := r) (b := -1) hx dX11_text_12 (tgt := 42) (by decide) (fun q3 => at42 I1 L1 (fun _ => q2.1 q3) (fun z => absurd (q0.symm.trans z) (by decide))) (fun q3 => ?_))
    refine sm_aload_n (z := 0) hx dX11_text_15 rfl (sm_getR hx dX11_text_16 fl_X11_10_11 (t_0 hB) rfl (sm_iconst (v := 0) hx dX11_text_19 sm_kc_0 (sm_putI hx dX11_text_20 fl_X11_109_10 (t_1 hB) rfl ?_)))
    refine sm_aload_n (z := 0) hx dX11_text_23 rfl (sm_aload_n (z := 0) hx dX11_text_24 rfl (sm_getR hx dX11_text_25 fl_X11_21_11 (t_0 hB) rfl (sm_getR hx dX11_text_28 fl_X11_124_9 (t_4 hB) rfl ?_)))
    refine sm_callVV (args := [.ref 5]) (k := 0) hx dX11_text_31 lv_X11_127_11 rfl rfl (t_0 hB) rfl rfl (q2.2 q3) (fun I2 L2 q4 => ?_)
    exact sm_aload_n (z := 0) hx dX11_text_34 rfl (sm_getR hx dX11_text_35 fl_X11_42_11 (t_0 hB) rfl (sm_getI hx dX11_text_38 fl_X11_131_8 (t_24 hB) rfl (sm_iret hx dX11_text_41 rfl q4)))
end
