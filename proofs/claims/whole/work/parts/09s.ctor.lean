section
variable {x : sm_Cx} {md : sm_MD} {n : Nat} {K : sm_K} {I : sm_MI} {L : sm_ML}
abbrev fX0 : List Value := [.null, .null, .null, .null, .null, .null, .null, .int 0, .null, .null, .null, .int 0, .null, .null, .null, .null]
abbrev tX : List sm_Sh := [.inr (11, fX0)]
theorem new10 : ∀ j, j < 2 → defaultValue (tyX10 j) = vp_V [.null, .int 0] j := by
  intro j hj
  have : j = 0 ∨ j = 1 := by omega
  rcases this with r | r <;> subst r <;> rfl
theorem new9 : ∀ j, j < 5 → defaultValue (tyX9 j) = vp_V [.null, .int 0, .null, .null, .int 0] j := by
  intro j hj
  have : j = 0 ∨ j = 1 ∨ j = 2 ∨ j = 3 ∨ j = 4 := by omega
  rcases this with r | r | r | r | r <;> subst r <;> rfl
theorem new5 : ∀ j, j < 5 → defaultValue (tyX5 j) = vp_V [.null, .int 0, .null, .null, .int 0] j := by
  intro j hj
  have : j = 0 ∨ j = 1 ∨ j = 2 ∨ j = 3 ∨ j = 4 := by omega
  rcases this with r | r | r | r | r <;> subst r <;> rfl
theorem new0 : ∀ j, j < 3 → defaultValue (tyJx4a65c j) = vp_V [.int 0, .null, .int 0] j := by
  intro j hj
  have : j = 0 ∨ j = 1 ∨ j = 2 := by omega
  rcases this with r | r | r <;> subst r <;> rfl
set_option maxRecDepth 100000 in
/-- the face's constructor, to its list of rules -/
theorem a_X11 {ls : List (Option Value)} {bc bs : Nat} (hx : sm_Ok x mX11_init (n + 6) K) (h0 : ls[0]? = some (some (.ref 0))) (hI : I 0 = fun _ => 0) (hb : 75 ≤ bc) (hs : 10937 ≤ bs)
    (kk : ∀ I' L', ZI tX I L 23 I' L' → sm_V x (bc - 3 - 14 - 5 - 1) (bs - 163 - 51 - 327 - 3) (ST tX 0 11 [.ref 1, .ref 4, .ref 18, .ref 23, .null, .null, .null, .int 0, .null, .null, .null, .int 0, .null, .null, .null, .null] ([.inr (10, [.ref 2, .int 0]), .inr (3, [.ref 3]), .inl (.int, 160, [])] ++ .inr (9, [.ref 1, .int 0, .ref 5, .ref 16, .int 0]) :: (oStr 6 :: oStrC 6 ++ [.inr (3, [.ref 17]), .inl (.int, 4, [])]) ++ [.inr (5, [.ref 1, .int 0, .ref 19, .ref 21, .int 0]), .inr (3, [.ref 20]), .inl (.int, 160, []), .inr (3, [.ref 22]), .inl (.int, 160, [])] ++ [oLst 1000020])) I' L' 56 ls []) : sm_V x bc bs (ST tX 0 11 fX0 []) I L 4 ls [] := by
  refine pObj (n := n + 5) (pc := 4) (j := 0) (c2 := 10) (N := 2) (bc' := 2) (bs' := 161) (fin := .inr (10, [.ref 2, .int 0])) (nw := [.inr (3, [.ref 3]), .inl (.int, 160, [])]) hx (by decide) ZI_0 h0 dX11_init_4 dX11_init_5 cf_X10 kc_X11_7 in_X10 ic_X10 new10 rfl dX11_init_8 dX11_init_9 li_X11_9 dX11_init_12 ff_X11_10_11 rfl rfl (by decide) (by decide) (by omega) (by omega) (fun T I L e z1 z2 => hc_Tape (n := n + 3) (p := 1) (by decide) e z1) (fun I1 L1 z1 => ?_)
  refine pObjA (n := n + 5) (pc := 15) (pc5 := 24) (j := 1) (args := [.ref 1]) (na := 1) (c2 := 9) (N := 5) (bc' := 13) (bs' := 46) (fin := .inr (9, [.ref 1, .int 0, .ref 5, .ref 16, .int 0])) (nw := oStr 6 :: oStrC 6 ++ [.inr (3, [.ref 17]), .inl (.int, 4, [])]) hx (by decide) z1 h0 dX11_init_15 dX11_init_16 cf_X9 kc_X11_16 in_X9 ic_X9 new9 rfl dX11_init_19 (fun r I L e h => sm_aload_n (z := 0) hx dX11_init_20 h0 (sm_getR hx dX11_init_21 fl_X11_10_11 rfl rfl h)) dX11_init_24 li_X11_18 rfl dX11_init_27 ff_X11_21_11 rfl rfl (by show (1 : Nat) < 16; decide) (by show (1 : Nat) + 3 + 1 < 1000000; decide) (by omega) (by omega) (fun T I L e z1 z2 => hc_StreetReader (n := n + 1) (p := 4) (by decide) e z1) (fun I2 L2 z2 => ?_)
  refine pObjA (n := n + 5) (pc := 30) (pc5 := 39) (j := 2) (args := [.ref 1]) (na := 1) (c2 := 5) (N := 5) (bc' := 4) (bs' := 322) (fin := .inr (5, [.ref 1, .int 0, .ref 19, .ref 21, .int 0])) (nw := [.inr (3, [.ref 20]), .inl (.int, 160, []), .inr (3, [.ref 22]), .inl (.int, 160, [])]) hx (by decide) z2 h0 dX11_init_30 dX11_init_31 cf_X5 kc_X11_25 in_X5 ic_X5 new5 rfl dX11_init_34 (fun r I L e h => sm_aload_n (z := 0) hx dX11_init_35 h0 (sm_getR hx dX11_init_36 fl_X11_10_11 rfl rfl h)) dX11_init_39 li_X11_27 rfl dX11_init_42 ff_X11_28_11 rfl rfl (by show (2 : Nat) < 16; decide) (by show (1 : Nat) + 17 + 1 < 1000000; decide) (by omega) (by omega) (fun T I L e z1 z2 => hc_RuleReader (n := n + 1) (p := 18) (by decide) e z1) (fun I3 L3 z3 => ?_)
  refine pObj (n := n + 5) (pc := 45) (j := 3) (c2 := 0) (N := 3) (bc' := 0) (bs' := 0) (fin := oLst 1000020) (nw := []) hx (by decide) z3 h0 dX11_init_45 dX11_init_46 cf_Jx4a65c kc_X11_32 in_Jx4a65c ic_Jx4a65c new0 rfl dX11_init_49 dX11_init_50 li_X11_34 dX11_init_53 ff_X11_35_11 rfl rfl (by show (3 : Nat) < 16; decide) (by show (1 : Nat) + 22 + 1 < 1000000; decide) (by omega) (by omega) (fun T I L e z1 z2 => hc_List (n := n + 1) z1) (fun I4 L4 z4 => ?_)
  have e1 : bc - 1 - 2 - 1 - 13 - 1 - 4 - 1 - 0 = bc - 3 - 14 - 5 - 1 := by omega
  have e2 : bs - 2 - 161 - 5 - 46 - 5 - 322 - 3 - 0 = bs - 163 - 51 - 327 - 3 := by omega
  rw [e1, e2]
  exact kk I4 L4 z4
end
