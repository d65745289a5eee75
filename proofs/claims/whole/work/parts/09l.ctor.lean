section
variable {n : Nat} {T : List sm_Sh} {I : sm_MI} {L : sm_ML} {k t : Nat}
set_option maxRecDepth 100000 in
theorem k_Reader5 (hk : T[k]? = some (.inr (5, [.null, .int 0, .null, .null, .int 0]))) (hI : I k = fun _ => 0) : sm_Call (n + 2) 0 0 mX2_init T I L [.ref k, .ref t] (kCt T I L k (.inr (5, [.ref t, .int 0, .null, .null, .int 0])) []) := by
  have hkl := lt_of hk
  refine sm_Call.of (by decide +kernel) rfl (fun x hx => ?_)
  suffices h : sm_V x 0 0 (ST T k 5 [.null, .int 0, .null, .null, .int 0] []) I L 0 [some (.ref k), some (.ref t)] [] by rw [← ST_0 hk] at h; exact h
  refine sm_aload_n (z := k) hx dX2_init_0 rfl (sm_objInit hx dX2_init_1 oi_X2_3 oi_2 oi_3 rfl ?_)
  refine pInt (m := 0) (pc := 4) (j := 1) hx hkl ZI_0 hI rfl dX2_init_4 dX2_init_5 dX2_init_6 fl_X2_9_5 rfl ?_
  refine sm_aload_n (z := k) hx dX2_init_9 rfl (sm_aload_n (z := t) hx dX2_init_10 rfl (sm_putFR hx dX2_init_11 ff_X2_15_5 rfl rfl (ST_k hkl) (by decide) ?_))
  have e := ST_set (T0 := T) (k := k) (ci := 5) (fs := [.null, .int 0, .null, .null, .int 0]) (l := []) (fs' := [.ref t, .int 0, .null, .null, .int 0]) (r := []) hkl
  rw [List.append_nil, List.append_nil] at e
  show sm_V x 0 0 ((ST T k 5 [.null, .int 0, .null, .null, .int 0] []).set k (.inr (5, [.ref t, .int 0, .null, .null, .int 0]))) I L 14 _ []
  rw [e]
  exact ct_ret (hx := hx) ZI_0 dX2_init_14 rfl
set_option maxRecDepth 100000 in
theorem k_Reader9 (hk : T[k]? = some (.inr (9, [.null, .int 0, .null, .null, .int 0]))) (hI : I k = fun _ => 0) : sm_Call (n + 2) 0 0 mX2_init T I L [.ref k, .ref t] (kCt T I L k (.inr (9, [.ref t, .int 0, .null, .null, .int 0])) []) := by
  have hkl := lt_of hk
  refine sm_Call.of (by decide +kernel) rfl (fun x hx => ?_)
  suffices h : sm_V x 0 0 (ST T k 9 [.null, .int 0, .null, .null, .int 0] []) I L 0 [some (.ref k), some (.ref t)] [] by rw [← ST_0 hk] at h; exact h
  refine sm_aload_n (z := k) hx dX2_init_0 rfl (sm_objInit hx dX2_init_1 oi_X2_3 oi_2 oi_3 rfl ?_)
  refine pInt (m := 0) (pc := 4) (j := 1) hx hkl ZI_0 hI rfl dX2_init_4 dX2_init_5 dX2_init_6 fl_X2_9_9 rfl ?_
  refine sm_aload_n (z := k) hx dX2_init_9 rfl (sm_aload_n (z := t) hx dX2_init_10 rfl (sm_putFR hx dX2_init_11 ff_X2_15_9 rfl rfl (ST_k hkl) (by decide) ?_))
  have e := ST_set (T0 := T) (k := k) (ci := 9) (fs := [.null, .int 0, .null, .null, .int 0]) (l := []) (fs' := [.ref t, .int 0, .null, .null, .int 0]) (r := []) hkl
  rw [List.append_nil, List.append_nil] at e
  show sm_V x 0 0 ((ST T k 9 [.null, .int 0, .null, .null, .int 0] []).set k (.inr (9, [.ref t, .int 0, .null, .null, .int 0]))) I L 14 _ []
  rw [e]
  exact ct_ret (hx := hx) ZI_0 dX2_init_14 rfl
theorem ZI_c {I2 : sm_MI} {L2 : sm_ML} (a1 : ∀ j, j < T.length → I2 j = I j ∧ L2 j = L j) : ZI T I L 0 I2 L2 := ⟨a1, fun j h1 h2 => absurd h2 (by omega)⟩
set_option maxRecDepth 100000 in
theorem k_RuleReader (hk : T[k]? = some (.inr (5, [.null, .int 0, .null, .null, .int 0]))) (hI : I k = fun _ => 0) (hl : T.length + 5 < 1000000) : sm_Call (n + 4) 4 322 mX5_init T I L [.ref k, .ref t] (kCt T I L k (.inr (5, [.ref t, .int 0, .ref T.length, .ref (T.length + 2), .int 0])) [.inr (3, [.ref (T.length + 1)]), .inl (.int, 160, []), .inr (3, [.ref (T.length + 3)]), .inl (.int, 160, [])]) := by
  have hkl := lt_of hk
  refine sm_Call.of (by decide +kernel) rfl (fun x hx => ?_)
  show sm_V x 4 322 T I L 0 [some (.ref k), some (.ref t)] []
  refine sm_aload_n (z := k) hx dX5_init_0 rfl (sm_aload_n (z := t) hx dX5_init_1 rfl ?_)
  refine sm_callI (args := [.ref t]) (k := k) (bc' := 0) (bs' := 0) hx dX5_init_2 li_X5_3 rfl rfl rfl (by omega) (by omega) (k_Reader5 (n := n + 1) hk hI) (fun v T2 I2 L2 q => ?_)
  obtain ⟨rfl, rfl, a1, -⟩ := q
  show sm_V x 4 322 (ST T k 5 [.ref t, .int 0, .null, .null, .int 0] []) I2 L2 5 [some (.ref k), some (.ref t)] []
  refine pRow (n := n + 2) (m := 160) (pc := 5) (pc5 := 13) (j := 2) hx hkl (ZI_c a1) rfl dX5_init_5 dX5_init_6 kc_X5_9 dX5_init_9 (fun _ _ _ _ _ _ h => sm_sipush (v := nI 160) hx dX5_init_10 (by decide) h) dX5_init_13 li_X5_11 dX5_init_16 ff_X5_14_5 rfl rfl (by show (2 : Nat) < 5; decide) (by decide) (by show T.length + _ + 2 < 1000000; simp only [List.length_append, List.length_cons, List.length_nil]; omega) (by decide) (by decide) rfl (fun I3 L3 z1 => ?_)
  refine pRow (n := n + 2) (m := 160) (pc := 19) (pc5 := 27) (j := 3) hx hkl z1 rfl dX5_init_19 dX5_init_20 kc_X5_9 dX5_init_23 (fun _ _ _ _ _ _ h => sm_sipush (v := nI 160) hx dX5_init_24 (by decide) h) dX5_init_27 li_X5_11 dX5_init_30 ff_X5_20_5 rfl rfl (by show (3 : Nat) < 5; decide) (by decide) (by show T.length + _ + 2 < 1000000; simp only [List.length_append, List.length_cons, List.length_nil]; omega) (by decide) (by decide) rfl (fun I4 L4 z2 => ?_)
  refine pInt (m := 4) (pc := 33) (j := 4) hx hkl z2 hI rfl dX5_init_33 dX5_init_34 dX5_init_35 fl_X5_23_5 rfl ?_
  exact ct_ret (hx := hx) z2 dX5_init_38 rfl
end
