section
variable {n : Nat} {T : List sm_Sh} {I : sm_MI} {L : sm_ML} {k t : Nat}
abbrev oStr (p : Nat) : sm_Sh := .inr (8, [.int 0, .int 0, .int 0, .int 0, .int 0, .int 0, .ref p, .ref (p + 2), .ref (p + 4), .ref (p + 6), .ref (p + 8)])
abbrev oStrC (p : Nat) : List sm_Sh := [.inr (3, [.ref (p + 1)]), .inl (.int, 5, []), .inr (3, [.ref (p + 3)]), .inl (.int, 5, []), .inr (3, [.ref (p + 5)]), .inl (.int, 5, []), .inr (3, [.ref (p + 7)]), .inl (.int, 5, []), .inr (3, [.ref (p + 9)]), .inl (.int, 5, [])]
theorem new8 : ∀ j, j < 11 → defaultValue (tyX8 j) = vp_V [.int 0, .int 0, .int 0, .int 0, .int 0, .int 0, .null, .null, .null, .null, .null] j := by
  intro j hj
  have : j = 0 ∨ j = 1 ∨ j = 2 ∨ j = 3 ∨ j = 4 ∨ j = 5 ∨ j = 6 ∨ j = 7 ∨ j = 8 ∨ j = 9 ∨ j = 10 := by omega
  rcases this with r | r | r | r | r | r | r | r | r | r | r <;> subst r <;> rfl
/-- a new street, wherever it lies -/
theorem hc_Street {p : Nat} (hl : p + 12 < 1000000) (e : T.length = p) (z1 : I T.length = fun _ => 0) : sm_Call (n + 2) 10 30 mX8_init (T ++ [.inr (8, [.int 0, .int 0, .int 0, .int 0, .int 0, .int 0, .null, .null, .null, .null, .null])]) I L [.ref T.length] (kCt (T ++ [.inr (8, [.int 0, .int 0, .int 0, .int 0, .int 0, .int 0, .null, .null, .null, .null, .null])]) I L T.length (oStr (p + 1)) (oStrC (p + 1))) := by
  have l1 : (T ++ [(.inr (8, [.int 0, .int 0, .int 0, .int 0, .int 0, .int 0, .null, .null, .null, .null, .null]) : sm_Sh)]).length = p + 1 := by rw [List.length_append, e]; rfl
  have h := k_Street (n := n) (T := T ++ [.inr (8, [.int 0, .int 0, .int 0, .int 0, .int 0, .int 0, .null, .null, .null, .null, .null])]) (k := T.length) (I := I) (L := L) ap_r z1 (by rw [l1]; omega)
  rw [l1] at h
  exact h
set_option maxRecDepth 100000 in
theorem k_StreetReader (hk : T[k]? = some (.inr (9, [.null, .int 0, .null, .null, .int 0]))) (hI : I k = fun _ => 0) (hl : T.length + 14 < 1000000) : sm_Call (n + 4) 13 46 mX9_init T I L [.ref k, .ref t] (kCt T I L k (.inr (9, [.ref t, .int 0, .ref T.length, .ref (T.length + 11), .int 0])) (oStr (T.length + 1) :: oStrC (T.length + 1) ++ [.inr (3, [.ref (T.length + 12)]), .inl (.int, 4, [])])) := by
  have hkl := lt_of hk
  refine sm_Call.of (by decide +kernel) rfl (fun x hx => ?_)
  show sm_V x 13 46 T I L 0 [some (.ref k), some (.ref t)] []
  refine sm_aload_n (z := k) hx dX9_init_0 rfl (sm_aload_n (z := t) hx dX9_init_1 rfl ?_)
  refine sm_callI (args := [.ref t]) (k := k) (bc' := 0) (bs' := 0) hx dX9_init_2 li_X9_3 rfl rfl rfl (by omega) (by omega) (k_Reader9 (n := n + 1) hk hI) (fun v T2 I2 L2 q => ?_)
  obtain ⟨rfl, rfl, a1, -⟩ := q
  show sm_V x 13 46 (ST T k 9 [.ref t, .int 0, .null, .null, .int 0] []) I2 L2 5 [some (.ref k), some (.ref t)] []
  refine pObj (n := n + 3) (pc := 5) (j := 2) (c2 := 8) (N := 11) (bc' := 10) (bs' := 30) (fin := oStr (T.length + 1)) (nw := oStrC (T.length + 1)) hx hkl (ZI_c a1) rfl dX9_init_5 dX9_init_6 cf_X8 kc_X9_9 in_X8 ic_X8 new8 rfl dX9_init_9 dX9_init_10 li_X9_11 dX9_init_13 ff_X9_14_9 rfl rfl (by show (2 : Nat) < 5; decide) (by show T.length + 0 + 1 < 1000000; omega) (by omega) (by omega) (fun T' I' L' e z1 z2 => hc_Street (n := n + 1) (by omega) e z1) (fun I3 L3 z1 => ?_)
  refine pRow2 (n := n + 2) (m := 4) (pc := 16) (pc5 := 26) (j := 3) hx hkl z1 rfl dX9_init_16 dX9_init_17 kc_X9_20 dX9_init_20 (fun _ _ _ I' L' a b c h => ?_) dX9_init_26 li_X9_30 dX9_init_29 ff_X9_33_9 rfl rfl (by show (3 : Nat) < 5; decide) (by decide) (by show T.length + 11 + 2 < 1000000; omega) (by decide) (by decide) rfl (fun I4 L4 z2 => ?_)
  · refine sm_ldcS (k := 1000000) hx dX9_init_21 sm_str_X9_22 rfl ?_
    refine sm_callVXI (args := []) (st := [.ref a, .ref b, .ref c]) hx dX9_init_23 lv_X9_24_x rfl rfl (i := 0) (by decide) rfl rfl (F := fun z I2 L2 => z = nI 4 ∧ I' = I2 ∧ L' = L2) (c_J0_length_8abf5_aske (n := n + 2) (c_J0_coder_7d493_aske ⟨by decide, rfl, rfl⟩)) (fun z I2 L2 q => ?_)
    obtain ⟨rfl, rfl, rfl⟩ := q
    exact h
  · refine pInt (m := 13) (pc := 32) (j := 4) hx hkl z2 hI rfl dX9_init_32 dX9_init_33 dX9_init_34 fl_X9_37_9 rfl ?_
    exact ct_ret (hx := hx) z2 dX9_init_37 rfl
end
