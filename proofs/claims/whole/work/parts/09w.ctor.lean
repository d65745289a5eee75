section
variable {n : Nat} {I : sm_MI} {L : sm_ML}
/-- the cells of the face, as its constructor leaves them -/
abbrev lXA : List sm_Sh := [.inr (10, [.ref 2, .int 0]), .inr (3, [.ref 3]), .inl (.int, 160, [])] ++ .inr (9, [.ref 1, .int 0, .ref 5, .ref 16, .int 0]) :: (oStr 6 :: oStrC 6 ++ [.inr (3, [.ref 17]), .inl (.int, 4, [])]) ++ [.inr (5, [.ref 1, .int 0, .ref 19, .ref 21, .int 0]), .inr (3, [.ref 20]), .inl (.int, 160, []), .inr (3, [.ref 22]), .inl (.int, 160, [])] ++ [oLst 1000020]
abbrev lXB : List sm_Sh := lXA ++ oStr 25 :: oStrC 25 ++ [oSt] ++ [oSt] ++ oPast ++ oSeen
abbrev lXC : List sm_Sh := [.inr (3, [.ref 69]), .inl (.int, 201, []), .inr (3, [.ref 71]), .inl (.int, 1296, []), .inr (3, [.ref 73]), .inl (.int, 1296, []), .inr (3, [.ref 75]), .inl (.int, 1296, [])]
abbrev cX : List sm_Sh := .inr (11, fXA (.ref 53) (.ref 68) (.ref 70) (.ref 72) (.ref 74)) :: (lXB ++ oDr ++ lXC)
def kX11 (I : sm_MI) (L : sm_ML) : sm_K := fun v T' I' L' => v = none ∧ T' = cX ∧ (I' 0 = fun _ => 0) ∧ (∀ j, j < 76 → j ≠ 53 → I' j = fun _ => 0) ∧ (I' 53 = fun j => if j = 10 ∨ j = 11 then -1 else 0) ∧ ∀ j, j < 76 → L' j = fun _ => 0
set_option maxRecDepth 100000 in
theorem k_X11 (hI : I 0 = fun _ => 0) (hL : L 0 = fun _ => 0) : sm_Call (n + 6) 75 10937 mX11_init tX I L [.ref 0] (kX11 I L) := by
  refine sm_Call.of (by decide +kernel) rfl (fun x hx => ?_)
  show sm_V x 75 10937 (ST tX 0 11 fX0 []) I L 0 [some (.ref 0)] []
  refine sm_aload_n (z := 0) hx dX11_init_0 rfl (sm_objInit hx dX11_init_1 oi_X11_1 oi_2 oi_3 rfl ?_)
  refine a_X11 (n := n) hx rfl hI (by decide) (by decide) (fun I1 L1 z1 => ?_)
  refine b_X11 (n := n) (I0 := I) (L0 := L) hx rfl hI rfl z1 (by decide) (by decide) (fun I2 L2 z2 => ?_)
  have i20 : I2 0 = fun _ => 0 := (z2.1 0 (by decide)).1.trans hI
  refine c_X11 (n := n) hx rfl rfl rfl i20 (by decide) (by decide) (fun I3 L3 a1 a2 a3 a4 => ⟨rfl, rfl, (a1 0 (by decide)).1.trans i20, fun j hj hne => ?_, a2, fun j hj => ?_⟩)
  · rcases Nat.lt_or_ge j 53 with c | c
    · rw [(a1 j c).1]
      rcases Nat.eq_zero_or_pos j with d | d
      · subst d; exact i20
      · exact (z2.2 j d (by show j < 1 + 52; omega)).1
    · exact (a4 j (by omega) hj).1
  · rcases Nat.lt_or_ge j 53 with c | c
    · rw [(a1 j c).2]
      rcases Nat.eq_zero_or_pos j with d | d
      · subst d; exact (z2.1 0 (by decide)).2.trans hL
      · exact (z2.2 j d (by show j < 1 + 52; omega)).2
    · rcases Nat.eq_or_lt_of_le c with d | d
      · subst d; exact a3
      · exact (a4 j (by omega) hj).2
end
