section
variable {n : Nat} {T : List sm_Sh} {I : sm_MI} {L : sm_ML}
abbrev oArr (r : List (Option Nat)) : sm_Sh := .inl (.object "java/lang/Object", 10, r)
abbrev oLst (e : Nat) : sm_Sh := .inr (0, [.int 0, .ref e, .int 0])
def kGrow (T : List sm_Sh) (I : sm_MI) (L : sm_ML) : sm_K := fun v T' I' L' => v = some (.ref T.length) ∧ T' = (T ++ [oArr (List.replicate 10 none)]).set 23 (oLst T.length) ∧ I' = sm_zI I T.length ∧ L' = sm_zL L T.length
set_option maxRecDepth 100000 in
theorem k_grow (h23 : T[23]? = some (oLst 1000020)) (hl : T.length + 1 < 1000000) : sm_Call (n + 2) 1 10 mJx4a65c_grow_92f84 T I L [.ref 23, .int 1] (kGrow T I L) := by
  have h23l := lt_of h23
  refine sm_Call.of (by decide +kernel) rfl (fun x hx => ?_)
  show sm_V x 1 10 T I L 0 [some (.ref 23), some (.int 1), none, none] []
  refine sm_aload_n (z := 23) hx dJx4a65c_grow_92f84_0 rfl (sm_getR hx dJx4a65c_grow_92f84_1 fl_Jx4a65c_9_0 h23 rfl (sm_xlenO hx dJx4a65c_grow_92f84_4 (sm_istore_n (ls' := [some (.ref 23), some (.int 1), some (.int 0), none]) hx dJx4a65c_grow_92f84_5 (by decide) rfl (sm_iload_n (z := 0) hx dJx4a65c_grow_92f84_6 rfl ?_))))
  refine sm_ifgt (a := 0) hx dJx4a65c_grow_92f84_7 (tgt := 20) (by decide) (fun q => absurd q (by decide)) (fun _ => ?_)
  refine sm_aload_n (z := 23) hx dJx4a65c_grow_92f84_10 rfl (sm_getR hx dJx4a65c_grow_92f84_11 fl_Jx4a65c_9_0 h23 rfl (sm_getsO hx dJx4a65c_grow_92f84_14 gs_Jx4a65c_39 (sm_acmpS hx dJx4a65c_grow_92f84_17 (tgt := 45) (by decide) ?_)))
  refine sm_aload_n (z := 23) hx dJx4a65c_grow_92f84_45 rfl (sm_bipush (v := 10) hx dJx4a65c_grow_92f84_46 (by decide) (sm_iload_n (z := 1) hx dJx4a65c_grow_92f84_48 rfl (sm_mmax hx dJx4a65c_grow_92f84_49 ml_Jx4a65c_79 mm_max1 mm_2 mm_max3 rfl ?_)))
  rw [if_neg (show ¬ (10 : Int32) < 1 by decide)]
  refine sm_newaO (m := 10) hx dJx4a65c_grow_92f84_52 kc_Jx4a65c_7 aq_o (by decide) (by decide) (by decide) hl (Nat.le_refl _) (Nat.le_refl _) ?_
  refine sm_dup_x1 hx dJx4a65c_grow_92f84_55 rfl rfl ?_
  have h23' : (T ++ [oArr (List.replicate 10 none)])[23]? = some (oLst 1000020) := (ap_l h23l).trans h23
  exact sm_putR hx dJx4a65c_grow_92f84_56 fl_Jx4a65c_9_0 rfl h23' (by show 1 < 3; decide) (sm_aret hx dJx4a65c_grow_92f84_59 ⟨_, rfl, Or.inr ⟨_, rfl⟩⟩ ⟨rfl, rfl, rfl, rfl⟩)
set_option maxRecDepth 100000 in
theorem k_grow0 (h23 : T[23]? = some (oLst 1000020)) (h2 : I 23 2 = 0) (hl : T.length + 1 < 1000000) : sm_Call (n + 3) 1 10 mJx4a65c_grow_d5877 T I L [.ref 23] (kGrow T I L) := by
  refine sm_Call.of (by decide +kernel) rfl (fun x hx => ?_)
  show sm_V x 1 10 T I L 0 [some (.ref 23)] []
  refine sm_aload_n (z := 23) hx dJx4a65c_grow_d5877_0 rfl (sm_aload_n (z := 23) hx dJx4a65c_grow_d5877_1 rfl (sm_getI hx dJx4a65c_grow_d5877_2 fl_Jx4a65c_48_0 h23 rfl (sm_iconst (v := 1) hx dJx4a65c_grow_d5877_5 sm_kc_1 (sm_iadd hx dJx4a65c_grow_d5877_6 ?_))))
  rw [h2, show (0 : Int32) + 1 = 1 by decide]
  refine sm_callV (args := [.int 1]) (k := 23) (bc' := 1) (bs' := 10) hx dJx4a65c_grow_d5877_7 lv_Jx4a65c_69_0 rfl rfl h23 rfl rfl (by omega) (by omega) (k_grow (n := n) h23 hl) (fun v T2 I2 L2 q => ?_)
  obtain ⟨rfl, rfl, rfl, rfl⟩ := q
  exact sm_aret hx dJx4a65c_grow_d5877_10 ⟨_, rfl, Or.inr ⟨_, rfl⟩⟩ ⟨rfl, rfl, rfl, rfl⟩
/-- a rule added to the list -/
def kAdd (T : List sm_Sh) (I : sm_MI) (L : sm_ML) (R r e0 : Nat) (old : Nat → Option Nat) : sm_K := fun v T' I' L' => v = none ∧ ∃ (e1 : Nat) (r1 : List (Option Nat)), 110 ≤ e1 ∧ T'[23]? = some (oLst e1) ∧ T'[e1]? = some (oArr r1) ∧ r1.length = 10 ∧ r1.getD R none = some r ∧ (∀ i, i < R → r1.getD i none = old i) ∧
  (∀ j, j < T.length → j ≠ 23 → j ≠ e0 → T'[j]? = T[j]?) ∧ T.length ≤ T'.length ∧ T'.length ≤ T.length + 1 ∧ I' 23 2 = nI (R + 1) ∧ (∀ j, j < T.length → j ≠ 23 → I' j = I j) ∧ ∀ j, j < T.length → L' j = L j
set_option maxRecDepth 100000 in
theorem k_addA {r : Nat} {old : Nat → Option Nat} (h23 : T[23]? = some (oLst 1000020)) (h2 : I 23 2 = 0) (hr : ∃ fs, T[r]? = some (.inr (4, fs))) (hr1 : 110 ≤ r) (hl : T.length + 1 < 1000000) (hL : 110 ≤ T.length) : sm_Call (n + 4) 1 10 mJx4a65c_add_72be8 T I L [.ref 23, .ref r, .ref 1000020, .int 0] (kAdd T I L 0 r 1000020 old) := by
  have h23l := lt_of h23
  obtain ⟨fs, hr⟩ := hr
  have hrl := lt_of hr
  refine sm_Call.of (by decide +kernel) rfl (fun x hx => ?_)
  show sm_V x 1 10 T I L 0 [some (.ref 23), some (.ref r), some (.ref 1000020), some (.int 0)] []
  refine sm_iload_n (z := 0) hx dJx4a65c_add_72be8_0 rfl (sm_aload_n (z := 1000020) hx dJx4a65c_add_72be8_1 rfl (sm_xlenO hx dJx4a65c_add_72be8_2 (sm_icmpne (a := 0) (b := 0) hx dJx4a65c_add_72be8_3 (tgt := 11) (by decide) (fun q => absurd rfl q) (fun _ => ?_))))
  refine sm_aload_n (z := 23) hx dJx4a65c_add_72be8_6 rfl (sm_callV (args := []) (k := 23) (bc' := 1) (bs' := 10) hx dJx4a65c_add_72be8_7 lv_Jx4a65c_129_0 rfl rfl h23 rfl rfl (by omega) (by omega) (k_grow0 (n := n) h23 h2 hl) (fun v T2 I2 L2 q => ?_))
  obtain ⟨rfl, rfl, rfl, rfl⟩ := q
  have l2 : ((T ++ [oArr (List.replicate 10 none)]).set 23 (oLst T.length)).length = T.length + 1 := by rw [List.length_set, List.length_append]; rfl
  have g23 : ((T ++ [oArr (List.replicate 10 none)]).set 23 (oLst T.length))[23]? = some (oLst T.length) := List.getElem?_set_self (by rw [List.length_append]; omega)
  have gn : ((T ++ [oArr (List.replicate 10 none)]).set 23 (oLst T.length))[T.length]? = some (oArr (List.replicate 10 none)) := by rw [List.getElem?_set_ne (by omega)]; exact ap_r
  have go : ∀ j, j < T.length → j ≠ 23 → ((T ++ [oArr (List.replicate 10 none)]).set 23 (oLst T.length))[j]? = T[j]? := fun j hj h => by rw [List.getElem?_set_ne (fun e => h e.symm)]; exact ap_l hj
  generalize (T ++ [oArr (List.replicate 10 none)]).set 23 (oLst T.length) = T2 at l2 g23 gn go ⊢
  refine sm_astore_n (z := T.length) (ls' := [some (.ref 23), some (.ref r), some (.ref T.length), some (.int 0)]) hx dJx4a65c_add_72be8_10 (by decide) rfl ?_
  refine sm_aload_n (z := T.length) hx dJx4a65c_add_72be8_11 rfl (sm_iload_n (z := 0) hx dJx4a65c_add_72be8_12 rfl (sm_aload_n (z := r) hx dJx4a65c_add_72be8_13 rfl ?_))
  refine sm_aast hx dJx4a65c_add_72be8_14 gn (List.length_replicate) (vp_in_nI (n := 0) (N := 10) (by decide) (by decide)) ((go r hrl (by omega)).trans hr) (C := RX4) (Tt := TX4) (N := 2) rfl cb_X4 ?_
  have l3 : (T2.set T.length (oArr ((List.replicate 10 none).set (Int32.toNatClampNeg 0) (some r)))).length = T.length + 1 := by rw [List.length_set, l2]
  have m23 : (T2.set T.length (oArr ((List.replicate 10 none).set (Int32.toNatClampNeg 0) (some r))))[23]? = some (oLst T.length) := by rw [List.getElem?_set_ne (by omega)]; exact g23
  have mn : (T2.set T.length (oArr ((List.replicate 10 none).set (Int32.toNatClampNeg 0) (some r))))[T.length]? = some (oArr ((List.replicate 10 none).set (Int32.toNatClampNeg 0) (some r))) := List.getElem?_set_self (by omega)
  refine sm_aload_n (z := 23) hx dJx4a65c_add_72be8_15 rfl (sm_iload_n (z := 0) hx dJx4a65c_add_72be8_16 rfl (sm_iconst (v := 1) hx dJx4a65c_add_72be8_17 sm_kc_1 (sm_iadd hx dJx4a65c_add_72be8_18 ?_)))
  refine sm_putI hx dJx4a65c_add_72be8_19 fl_Jx4a65c_48_0 m23 rfl (sm_vret hx dJx4a65c_add_72be8_22 rfl ?_)
  refine ⟨rfl, T.length, _, hL, m23, mn, rfl, rfl, fun i hi => absurd hi (Nat.not_lt_zero i), fun j hj h h' => ?_, Nat.le_trans (Nat.le_succ _) (Nat.le_of_eq l3.symm), Nat.le_of_eq l3, ?_, fun j hj h => ?_, fun j hj => sm_zL_ne (by omega)⟩
  · rw [List.getElem?_set_ne (by omega)]; exact go j hj h
  · rw [cuA]; rfl
  · rw [sm_uI_ne h]; exact sm_zI_ne (by omega)
set_option maxRecDepth 100000 in
theorem k_addB {r R e0 : Nat} {r0 : List (Option Nat)} (h23 : T[23]? = some (oLst e0)) (he : T[e0]? = some (oArr r0)) (h10 : r0.length = 10) (he1 : 110 ≤ e0) (hR : R < 10) (hr : ∃ fs, T[r]? = some (.inr (4, fs))) : sm_Call (n + 4) 1 10 mJx4a65c_add_72be8 T I L [.ref 23, .ref r, .ref e0, .int (nI R)] (kAdd T I L R r e0 (fun i => r0.getD i none)) := by
  have h23l := lt_of h23
  have hel := lt_of he
  obtain ⟨fs, hr⟩ := hr
  refine sm_Call.of (by decide +kernel) rfl (fun x hx => ?_)
  show sm_V x 1 10 T I L 0 [some (.ref 23), some (.ref r), some (.ref e0), some (.int (nI R))] []
  refine sm_iload_n (z := nI R) hx dJx4a65c_add_72be8_0 rfl (sm_aload_n (z := e0) hx dJx4a65c_add_72be8_1 rfl (sm_alen hx dJx4a65c_add_72be8_2 he (Or.inr (Or.inr (Or.inr rfl))) (sm_icmpne (a := nI R) (b := nI 10) hx dJx4a65c_add_72be8_3 (tgt := 11) (by decide) (fun _ => ?_) (fun q => absurd ((nI_eq (by omega) (by decide)).mp q) (by omega)))))
  refine sm_aload_n (z := e0) hx dJx4a65c_add_72be8_11 rfl (sm_iload_n (z := nI R) hx dJx4a65c_add_72be8_12 rfl (sm_aload_n (z := r) hx dJx4a65c_add_72be8_13 rfl ?_))
  refine sm_aast hx dJx4a65c_add_72be8_14 he h10 (vp_in_nI hR (by decide)) hr (C := RX4) (Tt := TX4) (N := 2) rfl cb_X4 ?_
  rw [nI_clamp (by omega)]
  have m23 : (T.set e0 (oArr (r0.set R (some r))))[23]? = some (oLst e0) := by rw [List.getElem?_set_ne (by omega)]; exact h23
  have mn : (T.set e0 (oArr (r0.set R (some r))))[e0]? = some (oArr (r0.set R (some r))) := List.getElem?_set_self hel
  refine sm_aload_n (z := 23) hx dJx4a65c_add_72be8_15 rfl (sm_iload_n (z := nI R) hx dJx4a65c_add_72be8_16 rfl (sm_iconst (v := 1) hx dJx4a65c_add_72be8_17 sm_kc_1 (sm_iadd hx dJx4a65c_add_72be8_18 ?_)))
  refine sm_putI hx dJx4a65c_add_72be8_19 fl_Jx4a65c_48_0 m23 rfl (sm_vret hx dJx4a65c_add_72be8_22 rfl ?_)
  refine ⟨rfl, e0, _, he1, m23, mn, by rw [List.length_set, h10], ?_, fun i hi => ?_, fun j hj h h' => ?_, by rw [List.length_set]; omega, by rw [List.length_set]; omega, ?_, fun j hj h => sm_uI_ne h, fun j hj => rfl⟩
  · rw [List.getD_eq_getElem?_getD, List.getElem?_set_self (by omega)]; rfl
  · rw [List.getD_eq_getElem?_getD, List.getElem?_set_ne (by omega)]; exact (List.getD_eq_getElem?_getD).symm
  · exact List.getElem?_set_ne (fun e => h' e.symm)
  · rw [cuA, nI_1]
end
