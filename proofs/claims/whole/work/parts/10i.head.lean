section
variable {x : sm_Cx} {I : sm_MI} {L : sm_ML} {Ls : Nat} {xs : Nat → Int32}
/-- the cells behind the law's head -/
abbrev tLaw : List sm_Sh := [.inr (11, [.ref 1, .ref 4, .ref 18, .ref 23, .ref 24, .ref 35, .ref 36, .int 0, .ref 37, .ref 44, .ref 53, .int 0, .ref 68, .ref 70, .ref 72, .ref 74]), .inr (10, [.ref 2, .int 0]), .inr (3, [.ref 3]), .inl (.int, 160, []), .inr (9, [.ref 1, .int 0, .ref 5, .ref 16, .int 0]), .inr (8, [.int 0, .int 0, .int 0, .int 0, .int 0, .int 0, .ref 6, .ref 8, .ref 10, .ref 12, .ref 14]), .inr (3, [.ref 7]), .inl (.int, 5, []), .inr (3, [.ref 9]), .inl (.int, 5, []), .inr (3, [.ref 11]), .inl (.int, 5, []), .inr (3, [.ref 13]), .inl (.int, 5, []), .inr (3, [.ref 15]), .inl (.int, 5, []), .inr (3, [.ref 17]), .inl (.int, 4, []), .inr (5, [.ref 1, .int 0, .ref 19, .ref 21, .int 0]), .inr (3, [.ref 20]), .inl (.int, 160, []), .inr (3, [.ref 22]), .inl (.int, 160, []), .inr (0, [.int 0, .ref 1000020, .int 0]), .inr (8, [.int 0, .int 0, .int 0, .int 0, .int 0, .int 0, .ref 25, .ref 27, .ref 29, .ref 31, .ref 33]), .inr (3, [.ref 26]), .inl (.int, 5, []), .inr (3, [.ref 28]), .inl (.int, 5, []), .inr (3, [.ref 30]), .inl (.int, 5, []), .inr (3, [.ref 32]), .inl (.int, 5, []), .inr (3, [.ref 34]), .inl (.int, 5, []), .inr (7, [.int 0, .int 0, .int 0, .long 0]), .inr (7, [.int 0, .int 0, .int 0, .long 0]), .inr (2, [.ref 38, .ref 40, .ref 42, .int 0, .int 0]), .inr (3, [.ref 39]), .inl (.int, 60, []), .inr (3, [.ref 41]), .inl (.int, 60, []), .inr (3, [.ref 43]), .inl (.int, 60, []), .inr (6, [.ref 45, .ref 47, .ref 49, .ref 51, .int 0, .int 0]), .inr (3, [.ref 46]), .inl (.int, 20, []), .inr (3, [.ref 48]), .inl (.int, 20, []), .inr (3, [.ref 50]), .inl (.int, 20, []), .inr (3, [.ref 52]), .inl (.int, 20, []), .inr (1, [.int 0, .int 0, .int 0, .long 0, .ref 24, .ref 23, .ref 54, .ref 56, .ref 58, .int 0, .int 0, .int 0, .int 0, .int 0, .int 0, .int 0, .int 0, .ref 60, .ref 62, .ref 64, .ref 66]), .inr (3, [.ref 55]), .inl (.int, 5, []), .inr (3, [.ref 57]), .inl (.int, 6, []), .inr (3, [.ref 59]), .inl (.int, 8, []), .inr (3, [.ref 61]), .inl (.int, 6, []), .inr (3, [.ref 63]), .inl (.int, 160, []), .inr (3, [.ref 65]), .inl (.int, 2880, []), .inr (3, [.ref 67]), .inl (.int, 2880, []), .inr (3, [.ref 69]), .inl (.int, 201, []), .inr (3, [.ref 71]), .inl (.int, 1296, []), .inr (3, [.ref 73]), .inl (.int, 1296, []), .inr (3, [.ref 75]), .inl (.int, 1296, []), .inr (12, [.int 0, .ref 77, .int 0, .int 0, .int 0, .int 0, .ref 78, .ref 79, .ref 80, .ref 81, .ref 82, .ref 83, .ref 84, .int 0, .int 0, .ref 85, .ref 86, .ref 87, .ref 88, .int 0, .int 0, .int 0, .int 0, .int 0, .ref 89, .ref 90, .int 0, .int 0, .int 0, .int 0, .int 0, .ref 91, .ref 92, .int 0, .int 0, .int 0, .long 0, .ref 93, .ref 94, .int 0, .ref 95, .ref 96, .int 0, .ref 97, .int 0, .ref 98, .ref 99, .ref 100, .ref 101, .ref 102, .ref 103, .int 0, .ref 104, .ref 105, .ref 106, .ref 107, .ref 108, .int 0, .int 0, .long 0, .int 0]), .inl (.int, 160, []), .inl (.int, 2040, []), .inl (.int, 2040, []), .inl (.int, 6, []), .inl (.int, 6, []), .inl (.int, 540, []), .inl (.int, 540, []), .inl (.int, 540, []), .inl (.int, 6, []), .inl (.int, 80, []), .inl (.int, 20, []), .inl (.int, 8, []), .inl (.int, 20, []), .inl (.int, 8, []), .inl (.int, 5, []), .inl (.int, 8, []), .inl (.int, 5, []), .inl (.int, 5, []), .inl (.int, 480, []), .inl (.long, 60, []), .inl (.int, 8, []), .inl (.int, 5, []), .inl (.int, 201, []), .inl (.int, 20, []), .inl (.int, 20, []), .inl (.int, 20, []), .inl (.boolean, 20, []), .inl (.int, 328, []), .inl (.int, 205, []), .inl (.int, 8, []), .inl (.int, 8, []), .inl (.int, 8, []), .inl (.long, 1, [])]
abbrev T76 : List sm_Sh := cX ++ [.inr (12, fM0)]
set_option maxRecDepth 100000 in
set_option maxHeartbeats 4000000 in
theorem tLaw_eq : ST T76 76 12 fMf lM ++ [.inl (.long, 1, [])] = tLaw := rfl
set_option maxRecDepth 100000 in
set_option maxHeartbeats 4000000 in
theorem tLaw_B : sm_Bs tLaw := by
  intro k s h
  obtain ⟨hk, h23⟩ := Bs_lt h
  match k, hk, h23, h with
  | 0, _, _, h => cases h; rfl
  | 1, _, _, h => cases h; rfl
  | 2, _, _, h => cases h; rfl
  | 3, _, _, h => cases h; rfl
  | 4, _, _, h => cases h; rfl
  | 5, _, _, h => cases h; rfl
  | 6, _, _, h => cases h; rfl
  | 7, _, _, h => cases h; rfl
  | 8, _, _, h => cases h; rfl
  | 9, _, _, h => cases h; rfl
  | 10, _, _, h => cases h; rfl
  | 11, _, _, h => cases h; rfl
  | 12, _, _, h => cases h; rfl
  | 13, _, _, h => cases h; rfl
  | 14, _, _, h => cases h; rfl
  | 15, _, _, h => cases h; rfl
  | 16, _, _, h => cases h; rfl
  | 17, _, _, h => cases h; rfl
  | 18, _, _, h => cases h; rfl
  | 19, _, _, h => cases h; rfl
  | 20, _, _, h => cases h; rfl
  | 21, _, _, h => cases h; rfl
  | 22, _, _, h => cases h; rfl
  | 23, _, h23, _ => exact absurd rfl h23
  | 24, _, _, h => cases h; rfl
  | 25, _, _, h => cases h; rfl
  | 26, _, _, h => cases h; rfl
  | 27, _, _, h => cases h; rfl
  | 28, _, _, h => cases h; rfl
  | 29, _, _, h => cases h; rfl
  | 30, _, _, h => cases h; rfl
  | 31, _, _, h => cases h; rfl
  | 32, _, _, h => cases h; rfl
  | 33, _, _, h => cases h; rfl
  | 34, _, _, h => cases h; rfl
  | 35, _, _, h => cases h; rfl
  | 36, _, _, h => cases h; rfl
  | 37, _, _, h => cases h; rfl
  | 38, _, _, h => cases h; rfl
  | 39, _, _, h => cases h; rfl
  | 40, _, _, h => cases h; rfl
  | 41, _, _, h => cases h; rfl
  | 42, _, _, h => cases h; rfl
  | 43, _, _, h => cases h; rfl
  | 44, _, _, h => cases h; rfl
  | 45, _, _, h => cases h; rfl
  | 46, _, _, h => cases h; rfl
  | 47, _, _, h => cases h; rfl
  | 48, _, _, h => cases h; rfl
  | 49, _, _, h => cases h; rfl
  | 50, _, _, h => cases h; rfl
  | 51, _, _, h => cases h; rfl
  | 52, _, _, h => cases h; rfl
  | 53, _, _, h => cases h; rfl
  | 54, _, _, h => cases h; rfl
  | 55, _, _, h => cases h; rfl
  | 56, _, _, h => cases h; rfl
  | 57, _, _, h => cases h; rfl
  | 58, _, _, h => cases h; rfl
  | 59, _, _, h => cases h; rfl
  | 60, _, _, h => cases h; rfl
  | 61, _, _, h => cases h; rfl
  | 62, _, _, h => cases h; rfl
  | 63, _, _, h => cases h; rfl
  | 64, _, _, h => cases h; rfl
  | 65, _, _, h => cases h; rfl
  | 66, _, _, h => cases h; rfl
  | 67, _, _, h => cases h; rfl
  | 68, _, _, h => cases h; rfl
  | 69, _, _, h => cases h; rfl
  | 70, _, _, h => cases h; rfl
  | 71, _, _, h => cases h; rfl
  | 72, _, _, h => cases h; rfl
  | 73, _, _, h => cases h; rfl
  | 74, _, _, h => cases h; rfl
  | 75, _, _, h => cases h; rfl
  | 76, _, _, h => cases h; rfl
  | 77, _, _, h => cases h; rfl
  | 78, _, _, h => cases h; rfl
  | 79, _, _, h => cases h; rfl
  | 80, _, _, h => cases h; rfl
  | 81, _, _, h => cases h; rfl
  | 82, _, _, h => cases h; rfl
  | 83, _, _, h => cases h; rfl
  | 84, _, _, h => cases h; rfl
  | 85, _, _, h => cases h; rfl
  | 86, _, _, h => cases h; rfl
  | 87, _, _, h => cases h; rfl
  | 88, _, _, h => cases h; rfl
  | 89, _, _, h => cases h; rfl
  | 90, _, _, h => cases h; rfl
  | 91, _, _, h => cases h; rfl
  | 92, _, _, h => cases h; rfl
  | 93, _, _, h => cases h; rfl
  | 94, _, _, h => cases h; rfl
  | 95, _, _, h => cases h; rfl
  | 96, _, _, h => cases h; rfl
  | 97, _, _, h => cases h; rfl
  | 98, _, _, h => cases h; rfl
  | 99, _, _, h => cases h; rfl
  | 100, _, _, h => cases h; rfl
  | 101, _, _, h => cases h; rfl
  | 102, _, _, h => cases h; rfl
  | 103, _, _, h => cases h; rfl
  | 104, _, _, h => cases h; rfl
  | 105, _, _, h => cases h; rfl
  | 106, _, _, h => cases h; rfl
  | 107, _, _, h => cases h; rfl
  | 108, _, _, h => cases h; rfl
  | 109, _, _, h => cases h; rfl
  | k + 110, hk, _, _ => exact absurd hk (Nat.not_lt.mpr (Nat.le_add_left 110 k))
theorem new11 : ∀ j, j < 16 → defaultValue (tyX11 j) = vp_V fX0 j := by
  intro j hj
  have : j = 0 ∨ j = 1 ∨ j = 2 ∨ j = 3 ∨ j = 4 ∨ j = 5 ∨ j = 6 ∨ j = 7 ∨ j = 8 ∨ j = 9 ∨ j = 10 ∨ j = 11 ∨ j = 12 ∨ j = 13 ∨ j = 14 ∨ j = 15 := by omega
  rcases this with r | r | r | r | r | r | r | r | r | r | r | r | r | r | r | r <;> subst r <;> rfl
set_option maxRecDepth 100000 in
theorem new12 : ∀ j, j < 61 → defaultValue (tyX12 j) = vp_V fM0 j := by
  intro j hj
  match j, hj with
  | 0, _ => rfl
  | 1, _ => rfl
  | 2, _ => rfl
  | 3, _ => rfl
  | 4, _ => rfl
  | 5, _ => rfl
  | 6, _ => rfl
  | 7, _ => rfl
  | 8, _ => rfl
  | 9, _ => rfl
  | 10, _ => rfl
  | 11, _ => rfl
  | 12, _ => rfl
  | 13, _ => rfl
  | 14, _ => rfl
  | 15, _ => rfl
  | 16, _ => rfl
  | 17, _ => rfl
  | 18, _ => rfl
  | 19, _ => rfl
  | 20, _ => rfl
  | 21, _ => rfl
  | 22, _ => rfl
  | 23, _ => rfl
  | 24, _ => rfl
  | 25, _ => rfl
  | 26, _ => rfl
  | 27, _ => rfl
  | 28, _ => rfl
  | 29, _ => rfl
  | 30, _ => rfl
  | 31, _ => rfl
  | 32, _ => rfl
  | 33, _ => rfl
  | 34, _ => rfl
  | 35, _ => rfl
  | 36, _ => rfl
  | 37, _ => rfl
  | 38, _ => rfl
  | 39, _ => rfl
  | 40, _ => rfl
  | 41, _ => rfl
  | 42, _ => rfl
  | 43, _ => rfl
  | 44, _ => rfl
  | 45, _ => rfl
  | 46, _ => rfl
  | 47, _ => rfl
  | 48, _ => rfl
  | 49, _ => rfl
  | 50, _ => rfl
  | 51, _ => rfl
  | 52, _ => rfl
  | 53, _ => rfl
  | 54, _ => rfl
  | 55, _ => rfl
  | 56, _ => rfl
  | 57, _ => rfl
  | 58, _ => rfl
  | 59, _ => rfl
  | 60, _ => rfl
  | j + 61, h => exact absurd h (Nat.not_lt.mpr (Nat.le_add_left 61 j))
set_option maxRecDepth 100000 in
/-- the law, from its first instruction -/
theorem law_head (hx : sm_Ok x mL_law 1400 (fun v _ _ _ => v = some (.int 1))) (hE : XE (sm_xA x) (sm_xs x) (sm_xs x).heap) (hfl : x.1.2.1.stackTraces = false) (hS : sm_Sc x Ls xs) : sm_V x 601024 7293034 [] I L 0 [some (.ref 1000030), none, none, none, none, none, none] [] := by
  have h3 := hS.2.2.2
  refine sm_new (ci := 11) (N := 16) (C := RX11) (Tt := TX11) (ty := tyX11) (fs := fX0) hx dL_law_0 cf_X11 kc_L_8 in_X11 ic_X11 new11 rfl (by decide) (by decide) (by decide) ?_
  refine sm_dup hx dL_law_3 rfl ?_
  refine sm_callI (n := 1399) (args := []) (k := 0) (st := [.ref 0]) (bc' := 75) (bs' := 10937) hx dL_law_4 li_L_15 rfl rfl rfl (by decide) (by decide) (k_X11 (n := 1393) (sm_zI_at _ _) (sm_zL_at _ _)) (fun v T1 I1 L1 q => ?_)
  obtain ⟨rfl, rfl, x0, x1, x2, x3⟩ := q
  refine sm_astore_n (i := 1) (z := 0) (ls' := [some (.ref 1000030), some (.ref 0), none, none, none, none, none]) hx dL_law_7 (by decide) rfl ?_
  refine sm_new (ci := 12) (N := 61) (C := RX12) (Tt := TX12) (ty := tyX12) (fs := fM0) hx dL_law_8 cf_X12 kc_L_16 in_X12 ic_X12 new12 rfl (by decide) (by decide) (by decide) ?_
  have e76 : cX.length = 76 := rfl
  rw [e76]
  refine sm_dup hx dL_law_11 rfl ?_
  have e77 : T76.length = 77 := rfl
  refine sm_callI (n := 1399) (args := []) (k := 76) (st := [.ref 76]) (bc' := 32) (bs' := 7428) hx dL_law_12 li_L_18 rfl rfl rfl (by decide) (by decide) (k_X12 (n := 1398) (T0 := T76) e77 rfl (sm_zI_at _ _) (sm_zL_at _ _)) (fun v T2 I2 L2 q => ?_)
  obtain ⟨rfl, rfl, y0, y1, y2, y3, y4, y5, y6⟩ := q
  refine sm_astore_n (i := 2) (z := 76) (ls' := [some (.ref 1000030), some (.ref 0), some (.ref 76), none, none, none, none]) hx dL_law_15 (by decide) rfl ?_
  have e109 : (ST T76 76 12 fMf lM).length = 109 := rfl
  refine sm_iconst (v := nI 1) hx dL_law_16 (by decide) (sm_newaL (m := 1) hx dL_law_17 aq_long (by decide) (by decide) (by decide) (by rw [e109]; decide) (by decide) (by decide) ?_)
  rw [e109, tLaw_eq]
  refine sm_astore_n (i := 3) (z := 109) (ls' := [some (.ref 1000030), some (.ref 0), some (.ref 76), some (.ref 109), none, none, none]) hx dL_law_19 (by decide) rfl ?_
  refine sm_iconst (v := nI 0) hx dL_law_20 (by decide) (sm_istore (i := 4) (z := nI 0) (ls' := lawL 0 none none) hx dL_law_21 (by decide) rfl ?_)
  have hI : Inv (60 * 0) tLaw (sm_zI I2 109) (sm_zL L2 109) := ⟨_, _, 0, 0, 0, 0, 0, 0, RR_0 tLaw_B rfl (fun k h1 h2 h3 h4 h5 => ?_) ?_ ?_ (fun k h1 => ?_), Or.inl ⟨rfl, rfl⟩⟩
  · exact V_more (law_loop (n := 1339) hx hE hfl hS (Ls / 6) 0 tLaw _ _ none none (by omega) (by omega) (by decide) hI) (by omega) (by omega)
  · rw [sm_zI_ne (by omega)]
    rcases Nat.lt_or_ge k 76 with c | c
    · rw [(y0 k c).1, sm_zI_ne (by omega)]
      exact x1 k c h2
    · exact y3 k (by omega) h1 h4 h5
  · rw [sm_zI_ne (by omega)]; exact y1
  · rw [sm_zI_ne (by omega)]; exact y5
  · rw [sm_zL_ne (by omega)]
    rcases Nat.lt_or_ge k 76 with c | c
    · rw [(y0 k c).2, sm_zL_ne (by omega)]
      exact x3 k c
    · rcases Nat.eq_or_lt_of_le c with d | d
      · subst d; exact y2
      · exact y6 k d h1
end
