/-! ===== rows and rules are made ===== -/
section
variable {n : Nat} {T : List sm_Sh} {I : sm_MI} {L : sm_ML}
theorem zI_n {k a : Nat} (h : a ≠ k) : sm_zI I k a = I a := sm_zI_ne h
theorem ap_l {a : sm_Sh} {j : Nat} (h : j < T.length) : (T ++ [a])[j]? = T[j]? := List.getElem?_append_left h
theorem ap_r {a : sm_Sh} : (T ++ [a])[T.length]? = some a := by
  rw [List.getElem?_append_right (Nat.le_refl _), Nat.sub_self]; rfl
theorem lt_of {j : Nat} {s : sm_Sh} (h : T[j]? = some s) : j < T.length := (List.getElem?_eq_some_iff.mp h).1
/-- what a Row's constructor leaves -/
def kRow (T : List sm_Sh) (I : sm_MI) (L : sm_ML) (k m : Nat) : sm_K := fun v T' I' L' => v = none ∧ T'.length = T.length + 1 ∧ (∀ j, j ≠ k → j < T.length → T'[j]? = T[j]?) ∧ T'[k]? = some (.inr (3, [.ref T.length])) ∧ T'[T.length]? = some (.inl (.int, m, [])) ∧ ∀ j, j < T.length → I' j = I j ∧ L' j = L j
set_option maxRecDepth 100000 in
theorem k_Row {k m : Nat} (hk : T[k]? = some (.inr (3, [.null]))) (hm : m ≤ 3000) (hl : T.length + 1 < 1000000) : sm_Call (n + 1) 1 m mX3_init T I L [.ref k, .int (nI m)] (kRow T I L k m) := by
  have hkl := lt_of hk
  have hz : ¬ nI m < 0 := nI_pos (by omega)
  refine sm_Call.of (by decide +kernel) rfl (fun x hx => ?_)
  show sm_V x 1 m T I L 0 [some (.ref k), some (.int (nI m))] []
  refine sm_aload_n (z := k) hx dX3_init_0 rfl (sm_objInit hx dX3_init_1 oi_X3_1 oi_2 oi_3 rfl (sm_aload_n (z := k) hx dX3_init_4 rfl (sm_iload_n (z := nI m) hx dX3_init_5 rfl (sm_iconst (v := 0) hx dX3_init_6 sm_kc_0 (sm_mmax hx dX3_init_7 ml_X3_7 mm_max1 mm_2 mm_max3 rfl ?_)))))
  rw [if_neg hz]
  refine sm_newaI (m := m) hx dX3_init_10 aq_int hz (nI_clamp (by omega)) (by omega) hl (Nat.le_refl _) (Nat.le_refl _) ?_
  have hk' : (T ++ [.inl (.int, m, [])])[k]? = some (.inr (3, [.null])) := (ap_l hkl).trans hk
  refine sm_putFR hx dX3_init_12 ff_X3_13_3 rfl rfl hk' (by decide) (sm_vret hx dX3_init_15 rfl ⟨rfl, ?_, ?_, ?_, ?_, ?_⟩)
  · rw [List.length_set, List.length_append]; rfl
  · intro j hj hjl
    rw [List.getElem?_set_ne (fun e => hj e.symm)]; exact ap_l hjl
  · rw [List.getElem?_set_self (by rw [List.length_append]; omega)]; rfl
  · rw [List.getElem?_set_ne (by omega)]; exact ap_r
  · intro j hj
    exact ⟨sm_zI_ne (by omega), sm_zL_ne (by omega)⟩
/-- what a Rule's constructor leaves -/
def kRule (T : List sm_Sh) (I : sm_MI) (L : sm_ML) (k m : Nat) : sm_K := fun v T' I' L' => v = none ∧ T'.length = T.length + 4 ∧ (∀ j, j ≠ k → j < T.length → T'[j]? = T[j]?) ∧ T'[k]? = some (.inr (4, [.ref T.length, .ref (T.length + 2)])) ∧
  (T'[T.length]? = some (.inr (3, [.ref (T.length + 1)])) ∧ T'[T.length + 1]? = some (.inl (.int, m, [])) ∧ T'[T.length + 2]? = some (.inr (3, [.ref (T.length + 3)])) ∧ T'[T.length + 3]? = some (.inl (.int, m, []))) ∧
  (∀ j, j < m → I' (T.length + 1) j = I 20 j ∧ I' (T.length + 3) j = I 22 j) ∧ ∀ j, j < T.length → I' j = I j ∧ L' j = L j
theorem new3 : ∀ j, j < 1 → defaultValue (tyX3 j) = vp_V [.null] j := by
  intro j hj
  have : j = 0 := by omega
  subst this; rfl
set_option maxRecDepth 100000 in
theorem k_Rule {k m : Nat} (hB : sm_Bs T) (hk : T[k]? = some (.inr (4, [.null, .null]))) (hk1 : 110 ≤ k) (hm : m ≤ 160) (hl : T.length + 4 < 1000000) : sm_Call (n + 4) 4 (2 * m + 2) mX4_init T I L [.ref k, .ref 19, .ref 21, .int (nI m)] (kRule T I L k m) := by
  have hkl := lt_of hk
  refine sm_Call.of (by decide +kernel) rfl (fun x hx => ?_)
  show sm_V x 4 (2 * m + 2) T I L 0 [some (.ref k), some (.ref 19), some (.ref 21), some (.int (nI m))] []
  refine sm_aload_n (z := k) hx dX4_init_0 rfl (sm_objInit hx dX4_init_1 oi_X4_3 oi_2 oi_3 rfl (sm_aload_n (z := k) hx dX4_init_4 rfl ?_))
  refine sm_new (ci := 3) (N := 1) (C := RX3) (Tt := TX3) (ty := tyX3) (fs := [.null]) hx dX4_init_5 cf_X3 kc_X4_9 in_X3 ic_X3 new3 rfl (by omega) (by omega) (by omega) ?_
  refine sm_dup hx dX4_init_8 rfl (sm_iload_n (z := nI m) hx dX4_init_9 rfl ?_)
  have l1 : (T ++ [(.inr (3, [.null]) : sm_Sh)]).length = T.length + 1 := by rw [List.length_append]; rfl
  refine sm_callI (args := [.int (nI m)]) (k := T.length) (bc' := 1) (bs' := m) hx dX4_init_10 li_X4_11 rfl rfl rfl (by omega) (by omega) (k_Row (n := n + 2) (k := T.length) ap_r (by omega) (by omega)) (fun v T2 I2 L2 q => ?_)
  obtain ⟨rfl, a1, a2, a3, a4, a5⟩ := q
  rw [l1] at a1 a2 a3 a4 a5
  have hk2 : T2[k]? = some (.inr (4, [.null, .null])) := (a2 k (by omega) (by omega)).trans ((ap_l hkl).trans hk)
  refine sm_putFR hx dX4_init_13 ff_X4_14_4 rfl rfl hk2 (by decide) ?_
  have b0 : (T2.set k (.inr (4, [.ref T.length, .null]))).length = T.length + 2 := by rw [List.length_set, a1]
  have b1 : (T2.set k (.inr (4, [.ref T.length, .null])))[k]? = some (.inr (4, [.ref T.length, .null])) := List.getElem?_set_self (by omega)
  have b2 : ∀ j, j ≠ k → (T2.set k (.inr (4, [.ref T.length, .null])))[j]? = T2[j]? := fun j hj => List.getElem?_set_ne (fun e => hj e.symm)
  show sm_V x _ _ (T2.set k (.inr (4, [.ref T.length, .null]))) _ _ _ _ _
  generalize T2.set k (.inr (4, [.ref T.length, .null])) = T3 at b0 b1 b2 ⊢
  refine sm_aload_n (z := k) hx dX4_init_16 rfl ?_
  refine sm_new (ci := 3) (N := 1) (C := RX3) (Tt := TX3) (ty := tyX3) (fs := [.null]) hx dX4_init_17 cf_X3 kc_X4_9 in_X3 ic_X3 new3 rfl (by omega) (by omega) (by omega) ?_
  refine sm_dup hx dX4_init_20 rfl (sm_iload_n (z := nI m) hx dX4_init_21 rfl ?_)
  have l3 : (T3 ++ [(.inr (3, [.null]) : sm_Sh)]).length = T.length + 3 := by rw [List.length_append, b0]; rfl
  refine sm_callI (args := [.int (nI m)]) (k := T3.length) (bc' := 1) (bs' := m) hx dX4_init_22 li_X4_11 rfl rfl rfl (by omega) (by omega) (k_Row (n := n + 2) (k := T3.length) ap_r (by omega) (by omega)) (fun v T4 I4 L4 q => ?_)
  obtain ⟨rfl, c1, c2, c3, c4, c5⟩ := q
  rw [l3] at c1 c2 c3 c4 c5
  rw [b0] at c2 c3 ⊢
  have hk4 : T4[k]? = some (.inr (4, [.ref T.length, .null])) := (c2 k (by omega) (by omega)).trans ((ap_l (by omega)).trans b1)
  refine sm_putFR hx dX4_init_25 ff_X4_20_4 rfl rfl hk4 (by show 1 < 2; decide) ?_
  have e0 : (T4.set k (.inr (4, [.ref T.length, .ref (T.length + 2)]))).length = T.length + 4 := by rw [List.length_set, c1]
  have e1 : (T4.set k (.inr (4, [.ref T.length, .ref (T.length + 2)])))[k]? = some (.inr (4, [.ref T.length, .ref (T.length + 2)])) := List.getElem?_set_self (by omega)
  have e2 : ∀ j, j ≠ k → (T4.set k (.inr (4, [.ref T.length, .ref (T.length + 2)])))[j]? = T4[j]? := fun j hj => List.getElem?_set_ne (fun e => hj e.symm)
  show sm_V x _ _ (T4.set k (.inr (4, [.ref T.length, .ref (T.length + 2)]))) _ _ _ _ _
  generalize T4.set k (.inr (4, [.ref T.length, .ref (T.length + 2)])) = T5 at e0 e1 e2 ⊢
  -- what stands below, what is new
  have old3 : ∀ j, j ≠ k → j < T.length → T3[j]? = T[j]? := fun j hj hjl => by rw [b2 j hj, a2 j (by omega) (by omega)]; exact ap_l hjl
  have old : ∀ j, j ≠ k → j < T.length → T5[j]? = T[j]? := fun j hj hjl => by rw [e2 j hj, c2 j (by omega) (by omega), ap_l (by omega)]; exact old3 j hj hjl
  have n0 : T5[T.length]? = some (.inr (3, [.ref (T.length + 1)])) := by rw [e2 _ (by omega), c2 _ (by omega) (by omega), ap_l (by omega), b2 _ (by omega)]; exact a3
  have n1 : T5[T.length + 1]? = some (.inl (.int, m, [])) := by rw [e2 _ (by omega), c2 _ (by omega) (by omega), ap_l (by omega), b2 _ (by omega)]; exact a4
  have n2 : T5[T.length + 2]? = some (.inr (3, [.ref (T.length + 3)])) := by rw [e2 _ (by omega)]; exact c3
  have n3 : T5[T.length + 3]? = some (.inl (.int, m, [])) := by rw [e2 _ (by omega)]; exact c4
  have lB : 109 < T.length := lt_of (t_109 hB)
  have o19 : T5[19]? = some (.inr (3, [.ref 20])) := (old 19 (by omega) (by omega)).trans (t_19 hB)
  have o20 : T5[20]? = some (.inl (.int, 160, [])) := (old 20 (by omega) (by omega)).trans (t_20 hB)
  have o21 : T5[21]? = some (.inr (3, [.ref 22])) := (old 21 (by omega) (by omega)).trans (t_21 hB)
  have o22 : T5[22]? = some (.inl (.int, 160, [])) := (old 22 (by omega) (by omega)).trans (t_22 hB)
  have iI : ∀ j, j < T.length → I4 j = I j ∧ L4 j = L j := by
    intro j hj
    obtain ⟨x1, x2⟩ := c5 j (by omega)
    obtain ⟨y1, y2⟩ := a5 j (by omega)
    refine ⟨?_, ?_⟩
    · rw [x1, sm_zI_ne (by omega), y1, sm_zI_ne (by omega)]
    · rw [x2, sm_zL_ne (by omega), y2, sm_zL_ne (by omega)]
  refine sm_aload_n (z := k) hx dX4_init_28 rfl (sm_getR hx dX4_init_29 fl_X4_14_4 e1 rfl (sm_aload_n (z := 19) hx dX4_init_32 rfl ?_))
  refine sm_callVV (args := [.ref 19]) (k := T.length) hx dX4_init_33 lv_X4_23_3 rfl rfl n0 rfl rfl (s_copy (n := n + 2) (F := fun I' L' => sm_fill I4 (T.length + 1) m (I4 20) = I' ∧ L4 = L') n0 n1 o19 o20 (by omega) hm (by decide) ⟨rfl, rfl⟩) (fun I6 L6 q => ?_)
  obtain ⟨rfl, rfl⟩ := q
  refine sm_aload_n (z := k) hx dX4_init_36 rfl (sm_getR hx dX4_init_37 fl_X4_20_4 e1 rfl (sm_aload_n (z := 21) hx dX4_init_40 rfl ?_))
  refine sm_callVV (args := [.ref 21]) (k := T.length + 2) hx dX4_init_41 lv_X4_23_3 rfl rfl n2 rfl rfl (s_copy (n := n + 2) (F := fun I' L' => sm_fill (sm_fill I4 (T.length + 1) m (I4 20)) (T.length + 3) m ((sm_fill I4 (T.length + 1) m (I4 20)) 22) = I' ∧ L4 = L') n2 n3 o21 o22 (by omega) hm (by decide) ⟨rfl, rfl⟩) (fun I7 L7 q => ?_)
  obtain ⟨rfl, rfl⟩ := q
  refine sm_vret hx dX4_init_44 rfl ⟨rfl, e0, old, e1, ⟨n0, n1, n2, n3⟩, fun j hj => ?_, fun j hj => ⟨?_, (iI j hj).2⟩⟩
  · refine ⟨?_, ?_⟩
    · rw [cfN (by omega), cfA hj, (iI 20 (by omega)).1]
    · rw [cfA hj, cfN (by omega), (iI 22 (by omega)).1]
  · funext b
    rw [cfN (by omega), cfN (by omega), (iI j hj).1]
end
