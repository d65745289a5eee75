section
variable {n : Nat} {T : List sm_Sh} {I : sm_MI} {L : sm_ML} {p t : Nat}
theorem ln1 {d : sm_Sh} (e : T.length = p) : (T ++ [d]).length = p + 1 := by rw [List.length_append, e]; rfl
theorem hc_Tape (hl : p + 4 < 1000000) (e : T.length = p) (z1 : I T.length = fun _ => 0) : sm_Call (n + 2) 2 161 mX10_init (T ++ [.inr (10, [.null, .int 0])]) I L [.ref T.length] (kCt (T ++ [.inr (10, [.null, .int 0])]) I L T.length (.inr (10, [.ref (p + 1), .int 0])) [.inr (3, [.ref (p + 2)]), .inl (.int, 160, [])]) := by
  have h := k_Tape (n := n) (T := T ++ [.inr (10, [.null, .int 0])]) (k := T.length) (I := I) (L := L) ap_r z1 (by rw [ln1 e]; omega)
  rw [ln1 e] at h
  exact h
theorem hc_Past (hl : p + 8 < 1000000) (e : T.length = p) (z1 : I T.length = fun _ => 0) : sm_Call (n + 2) 6 183 mX1_init (T ++ [.inr (2, [.null, .null, .null, .int 0, .int 0])]) I L [.ref T.length] (kCt (T ++ [.inr (2, [.null, .null, .null, .int 0, .int 0])]) I L T.length (.inr (2, [.ref (p + 1), .ref (p + 3), .ref (p + 5), .int 0, .int 0])) [.inr (3, [.ref (p + 2)]), .inl (.int, 60, []), .inr (3, [.ref (p + 4)]), .inl (.int, 60, []), .inr (3, [.ref (p + 6)]), .inl (.int, 60, [])]) := by
  have h := k_Past (n := n) (T := T ++ [.inr (2, [.null, .null, .null, .int 0, .int 0])]) (k := T.length) (I := I) (L := L) ap_r z1 (by rw [ln1 e]; omega)
  rw [ln1 e] at h
  exact h
theorem hc_Seen (hl : p + 10 < 1000000) (e : T.length = p) (z1 : I T.length = fun _ => 0) : sm_Call (n + 2) 8 84 mX6_init (T ++ [.inr (6, [.null, .null, .null, .null, .int 0, .int 0])]) I L [.ref T.length] (kCt (T ++ [.inr (6, [.null, .null, .null, .null, .int 0, .int 0])]) I L T.length (.inr (6, [.ref (p + 1), .ref (p + 3), .ref (p + 5), .ref (p + 7), .int 0, .int 0])) [.inr (3, [.ref (p + 2)]), .inl (.int, 20, []), .inr (3, [.ref (p + 4)]), .inl (.int, 20, []), .inr (3, [.ref (p + 6)]), .inl (.int, 20, []), .inr (3, [.ref (p + 8)]), .inl (.int, 20, [])]) := by
  have h := k_Seen (n := n) (T := T ++ [.inr (6, [.null, .null, .null, .null, .int 0, .int 0])]) (k := T.length) (I := I) (L := L) ap_r z1 (by rw [ln1 e]; omega)
  rw [ln1 e] at h
  exact h
theorem hc_Stand (z1 : I T.length = fun _ => 0) (z2 : L T.length = fun _ => 0) : sm_Call (n + 2) 0 0 mX7_init (T ++ [.inr (7, [.int 0, .int 0, .int 0, .long 0])]) I L [.ref T.length] (kCt (T ++ [.inr (7, [.int 0, .int 0, .int 0, .long 0])]) I L T.length (.inr (7, [.int 0, .int 0, .int 0, .long 0])) []) := k_Stand (n := n) ap_r z1 z2
theorem hc_List (z1 : I T.length = fun _ => 0) : sm_Call (n + 4) 0 0 mJx4a65c_init_da8c8 (T ++ [.inr (0, [.int 0, .null, .int 0])]) I L [.ref T.length] (kCt (T ++ [.inr (0, [.int 0, .null, .int 0])]) I L T.length (oLst 1000020) []) := k_List (n := n) ap_r z1
theorem hc_RuleReader (hl : p + 6 < 1000000) (e : T.length = p) (z1 : I T.length = fun _ => 0) : sm_Call (n + 4) 4 322 mX5_init (T ++ [.inr (5, [.null, .int 0, .null, .null, .int 0])]) I L [.ref T.length, .ref t] (kCt (T ++ [.inr (5, [.null, .int 0, .null, .null, .int 0])]) I L T.length (.inr (5, [.ref t, .int 0, .ref (p + 1), .ref (p + 3), .int 0])) [.inr (3, [.ref (p + 2)]), .inl (.int, 160, []), .inr (3, [.ref (p + 4)]), .inl (.int, 160, [])]) := by
  have h := k_RuleReader (n := n) (T := T ++ [.inr (5, [.null, .int 0, .null, .null, .int 0])]) (k := T.length) (t := t) (I := I) (L := L) ap_r z1 (by rw [ln1 e]; omega)
  rw [ln1 e] at h
  exact h
theorem hc_StreetReader (hl : p + 15 < 1000000) (e : T.length = p) (z1 : I T.length = fun _ => 0) : sm_Call (n + 4) 13 46 mX9_init (T ++ [.inr (9, [.null, .int 0, .null, .null, .int 0])]) I L [.ref T.length, .ref t] (kCt (T ++ [.inr (9, [.null, .int 0, .null, .null, .int 0])]) I L T.length (.inr (9, [.ref t, .int 0, .ref (p + 1), .ref (p + 12), .int 0])) (oStr (p + 2) :: oStrC (p + 2) ++ [.inr (3, [.ref (p + 13)]), .inl (.int, 4, [])])) := by
  have h := k_StreetReader (n := n) (T := T ++ [.inr (9, [.null, .int 0, .null, .null, .int 0])]) (k := T.length) (t := t) (I := I) (L := L) ap_r z1 (by rw [ln1 e]; omega)
  rw [ln1 e] at h
  exact h
end
