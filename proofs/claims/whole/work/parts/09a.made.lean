/-! ===== the reader's rule is made ===== -/
section
variable {n : Nat} {T : List sm_Sh} {I : sm_MI} {L : sm_ML}
def kMade (T : List sm_Sh) (I : sm_MI) (L : sm_ML) (m : Nat) : sm_K := fun v T' I' L' => v = some (.ref T.length) ∧ T'.length = T.length + 5 ∧ (∀ j, j < T.length → T'[j]? = T[j]?) ∧ T'[T.length]? = some (.inr (4, [.ref (T.length + 1), .ref (T.length + 3)])) ∧
  (T'[T.length + 1]? = some (.inr (3, [.ref (T.length + 2)])) ∧ T'[T.length + 2]? = some (.inl (.int, m, [])) ∧ T'[T.length + 3]? = some (.inr (3, [.ref (T.length + 4)])) ∧ T'[T.length + 4]? = some (.inl (.int, m, []))) ∧
  (∀ j, j < m → I' (T.length + 2) j = I 20 j ∧ I' (T.length + 4) j = I 22 j) ∧ ∀ j, j < T.length → I' j = I j ∧ L' j = L j
theorem new4 : ∀ j, j < 2 → defaultValue (tyX4 j) = vp_V [.null, .null] j := by
  intro j hj
  have : j = 0 ∨ j = 1 := by omega
  rcases this with r | r <;> subst r <;> rfl
theorem Bs_app {s : sm_Sh} (hB : sm_Bs T) : sm_Bs (T ++ [s]) := fun k sh h => (ap_l (lt_of (hB k sh h))).trans (hB k sh h)
set_option maxRecDepth 100000 in
theorem k_made {m : Nat} (hB : sm_Bs T) (hI : I 18 4 = nI m) (hm : m ≤ 160) (hl : T.length + 5 < 1000000) : sm_Call (n + 5) 5 (2 * m + 4) mX5_made T I L [.ref 18] (kMade T I L m) := by
  have lB : 109 < T.length := lt_of (t_109 hB)
  refine sm_Call.of (by decide +kernel) rfl (fun x hx => ?_)
  show sm_V x 5 (2 * m + 4) T I L 0 [some (.ref 18)] []
  refine sm_new (ci := 4) (N := 2) (C := RX4) (Tt := TX4) (ty := tyX4) (fs := [.null, .null]) hx dX5_made_0 cf_X4 kc_X5_27 in_X4 ic_X4 new4 rfl (by omega) (by omega) (by omega) ?_
  have hB1 := Bs_app (s := .inr (4, [.null, .null])) hB
  have l1 : (T ++ [(.inr (4, [.null, .null]) : sm_Sh)]).length = T.length + 1 := by rw [List.length_append]; rfl
  refine sm_dup hx dX5_made_3 rfl (sm_aload_n (z := 18) hx dX5_made_4 rfl (sm_getR hx dX5_made_5 fl_X5_14_5 (t_18 hB1) rfl (sm_aload_n (z := 18) hx dX5_made_8 rfl (sm_getR hx dX5_made_9 fl_X5_20_5 (t_18 hB1) rfl (sm_aload_n (z := 18) hx dX5_made_12 rfl (sm_getI hx dX5_made_13 fl_X5_23_5 (t_18 hB1) rfl ?_))))))
  have e18 : (sm_zI I T.length) 18 4 = nI m := by rw [sm_zI_ne (by omega)]; exact hI
  rw [e18]
  refine sm_callI (args := [.ref 19, .ref 21, .int (nI m)]) (k := T.length) (bc' := 4) (bs' := 2 * m + 2) hx dX5_made_16 li_X5_29 rfl rfl rfl (by omega) (by omega) (k_Rule (n := n) (k := T.length) hB1 ap_r (by omega) hm (by omega)) (fun v T2 I2 L2 q => ?_)
  obtain ⟨rfl, a1, a2, a3, a4, a5, a6⟩ := q
  rw [l1] at a1 a2 a3 a4 a5 a6
  refine sm_aret hx dX5_made_19 ⟨_, rfl, Or.inl ⟨_, rfl⟩⟩ ⟨rfl, a1, fun j hj => (a2 j (by omega) (by omega)).trans (ap_l hj), a3, a4, fun j hj => ?_, fun j hj => ?_⟩
  · obtain ⟨b1, b2⟩ := a5 j hj
    exact ⟨by rw [b1, sm_zI_ne (by omega)], by rw [b2, sm_zI_ne (by omega)]⟩
  · obtain ⟨b1, b2⟩ := a6 j (by omega)
    exact ⟨by rw [b1, sm_zI_ne (by omega)], by rw [b2, sm_zL_ne (by omega)]⟩
end
