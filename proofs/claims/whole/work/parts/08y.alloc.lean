/-! ===== rows and rules are made ===== -/
section
variable {n : Nat} {T : List sm_Sh} {I : sm_MI} {L : sm_ML}
theorem zI_n {k a : Nat} (h : a ≠ k) : sm_zI I k a = I a := sm_zI_ne h
theorem ap_l {a : sm_Sh} {j : Nat} (h : j < T.length) : (T ++ [a])[j]? = T[j]? := List.getElem?_append_left h
theorem ap_r {a : sm_Sh} : (T ++ [a])[T.length]? = some a := by
  rw [List.getElem?_append_right (Nat.le_refl _), Nat.sub_self]; rfl
theorem lt_of {j : Nat} {s : sm_Sh} (h : T[j]? = some s) : j < T.length := (List.getElem?_eq_some_iff.mp h).1
/-- what a Row's constructor leaves -/
def kRow (T : List sm_Sh) (I : sm_MI) (L : sm_ML) (k m : Nat) : sm_K := fun v T' I' L' => v = none ∧ T'.length = T.length + 1 ∧ (∀ j, j ≠ k → j < T.length → T'[j]? = T[j]?) ∧ T'[k]? = some (.inr (3, [.ref T.length])) ∧ T'[T.length]? = some (.inl (.int, m, [])) ∧ ∀ j, j < T.length → I' j = I j ∧ L' j = L j
set_option maxRecDepth 100000 in
theorem k_Row {k m : Nat} (hk : T[k]? = some (.inr (3, [.null]))) (hm : m ≤ 3000) (hl : T.length + 1 < 1000000) : sm_Call (n + 1) 1 m mX3_init T I L [.ref k, .int (nI m)] (kRow T I L k m) := by
  have hkl := lt_of hk
  have hz : ¬ nI m < 0 := nI_pos (by omega)
  refine sm_Call.of (by decide +kernel) rfl (fun x hx => ?_)
  show sm_V x 1 m T I L 0 [some (.ref k), some (.int (nI m))] []
  refine sm_aload_n (z := k) hx dX3_init_0 rfl (sm_objInit hx dX3_init_1 oi_X3_1 oi_2 oi_3 rfl (sm_aload_n (z := k) hx dX3_init_4 rfl (sm_iload_n (z := nI m) hx dX3_init_5 rfl (sm_iconst (v := 0) hx dX3_init_6 sm_kc_0 (sm_mmax hx dX3_init_7 ml_X3_7 mm_max1 mm_2 mm_max3 rfl ?_)))))
  rw [if_neg hz]
  refine sm_newaI (m := m) hx dX3_init_10 aq_int hz (nI_clamp (by omega)) (by omega) hl (Nat.le_refl _) (Nat.le_refl _) ?_
  have hk' : (T ++ [.inl (.int, m, [])])[k]? = some (.inr (3, [.null])) := (ap_l hkl).trans hk
  refine sm_putFR hx dX3_init_12 ff_X3_13_3 rfl rfl hk' (by decide) (sm_vret hx dX3_init_15 rfl ⟨rfl, ?_, ?_, ?_, ?_, ?_⟩)
  · rw [List.length_set, List.length_append]; rfl
  · intro j hj hjl
    rw [List.getElem?_set_ne (fun e => hj e.symm)]; exact ap_l hjl
  · rw [List.getElem?_set_self (by rw [List.length_append]; omega)]; rfl
  · rw [List.getElem?_set_ne (by omega)]; exact ap_r
  · intro j hj
    exact ⟨sm_zI_ne (by omega), sm_zL_ne (by omega)⟩
end
