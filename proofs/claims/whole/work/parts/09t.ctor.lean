section
variable {x : sm_Cx} {md : sm_MD} {n : Nat} {K : sm_K} {I : sm_MI} {L : sm_ML} {bc bs : Nat} {T0 : List sm_Sh} {I0 : sm_MI} {L0 : sm_ML} {pc k ci m : Nat} {fs : List Value} {l : List sm_Sh} {ls : List (Option Value)}
theorem pBool {i3 j : Nat} {z : Int32} (hx : sm_Ok x md n K) (hk : k < T0.length) (hZ : ZI T0 I0 L0 m I L) (hI : I0 k = fun _ => 0) (h0 : ls[0]? = some (some (.ref k))) (da : decode md.2.1 pc = .ok (.aload_n 0, 1)) (dc : decode md.2.1 (pc + 1) = .ok (.iconst 0, 1)) (dp : decode md.2.1 (pc + 1 + 1) = .ok (.putfield i3, 3)) (lk : sm_FLk md.1.cls i3 ci j .boolean false) (hf : fs[j]? = some (.int z)) (kk : sm_V x bc bs (ST T0 k ci fs l) I L (pc + 1 + 1 + 3) ls []) : sm_V x bc bs (ST T0 k ci fs l) I L pc ls [] := by
  refine sm_aload_n (z := k) hx da h0 (sm_iconst (v := 0) hx dc sm_kc_0 (sm_putZ (b := false) hx dp lk (ST_k hk) hf ?_))
  rw [show sm_z false = 0 from rfl, uI_z (by rw [(hZ.1 k hk).1, hI])]
  exact kk
theorem new7 : ∀ j, j < 4 → defaultValue (tyX7 j) = vp_V [.int 0, .int 0, .int 0, .long 0] j := by
  intro j hj
  have : j = 0 ∨ j = 1 ∨ j = 2 ∨ j = 3 := by omega
  rcases this with r | r | r | r <;> subst r <;> rfl
theorem new2 : ∀ j, j < 5 → defaultValue (tyX1 j) = vp_V [.null, .null, .null, .int 0, .int 0] j := by
  intro j hj
  have : j = 0 ∨ j = 1 ∨ j = 2 ∨ j = 3 ∨ j = 4 := by omega
  rcases this with r | r | r | r | r <;> subst r <;> rfl
theorem new6 : ∀ j, j < 6 → defaultValue (tyX6 j) = vp_V [.null, .null, .null, .null, .int 0, .int 0] j := by
  intro j hj
  have : j = 0 ∨ j = 1 ∨ j = 2 ∨ j = 3 ∨ j = 4 ∨ j = 5 := by omega
  rcases this with r | r | r | r | r | r <;> subst r <;> rfl
abbrev oSt : sm_Sh := .inr (7, [.int 0, .int 0, .int 0, .long 0])
abbrev oPast : List sm_Sh := [.inr (2, [.ref 38, .ref 40, .ref 42, .int 0, .int 0]), .inr (3, [.ref 39]), .inl (.int, 60, []), .inr (3, [.ref 41]), .inl (.int, 60, []), .inr (3, [.ref 43]), .inl (.int, 60, [])]
abbrev oSeen : List sm_Sh := [.inr (6, [.ref 45, .ref 47, .ref 49, .ref 51, .int 0, .int 0]), .inr (3, [.ref 46]), .inl (.int, 20, []), .inr (3, [.ref 48]), .inl (.int, 20, []), .inr (3, [.ref 50]), .inl (.int, 20, []), .inr (3, [.ref 52]), .inl (.int, 20, [])]
set_option maxRecDepth 100000 in
/-- the face's constructor, from its street to what is seen -/
theorem b_X11 {l : List sm_Sh} (hx : sm_Ok x mX11_init (n + 6) K) (h0 : ls[0]? = some (some (.ref 0))) (hI : I0 0 = fun _ => 0) (hl : l.length = 23) (hZ : ZI tX I0 L0 23 I L) (hb : 75 - 23 ≤ bc) (hs : 10937 - 544 ≤ bs)
    (kk : ∀ I' L', ZI tX I0 L0 52 I' L' → sm_V x (bc - 11 - 1 - 1 - 7 - 9) (bs - 41 - 4 - 4 - 188 - 90) (ST tX 0 11 [.ref 1, .ref 4, .ref 18, .ref 23, .ref 24, .ref 35, .ref 36, .int 0, .ref 37, .ref 44, .null, .int 0, .null, .null, .null, .null] (l ++ oStr 25 :: oStrC 25 ++ [oSt] ++ [oSt] ++ oPast ++ oSeen)) I' L' 116 ls []) : sm_V x bc bs (ST tX 0 11 [.ref 1, .ref 4, .ref 18, .ref 23, .null, .null, .null, .int 0, .null, .null, .null, .int 0, .null, .null, .null, .null] l) I L 56 ls [] := by
  have e1 : tX.length = 1 := rfl
  have q1 : tX.length + l.length = 24 := by rw [hl]; rfl
  refine pObj (n := n + 5) (pc := 56) (j := 4) (c2 := 8) (N := 11) (bc' := 10) (bs' := 30) (fin := oStr 25) (nw := oStrC 25) hx (by decide) (by rw [hl]; exact hZ) h0 dX11_init_56 dX11_init_57 cf_X8 kc_X11_39 in_X8 ic_X8 new8 rfl dX11_init_60 dX11_init_61 li_X11_41 dX11_init_64 ff_X11_42_11 rfl rfl (by show (4 : Nat) < 16; decide) (by omega) (by omega) (by omega) (fun T I L e z1 z2 => hc_Street (n := n + 3) (p := 24) (by decide) (e.trans q1) z1) (fun I1 L1 z1 => ?_)
  rw [q1]
  have l1 : (l ++ oStr 25 :: oStrC 25).length = 34 := by rw [List.length_append, hl]; rfl
  have q2 : tX.length + (l ++ oStr 25 :: oStrC 25).length = 35 := by rw [l1]; rfl
  have z1' : ZI tX I0 L0 (l ++ oStr 25 :: oStrC 25).length I1 L1 := by rw [l1]; rw [hl] at z1; exact z1
  refine pObj (n := n + 5) (pc := 67) (j := 5) (c2 := 7) (N := 4) (bc' := 0) (bs' := 0) (fin := oSt) (nw := []) hx (by decide) z1' h0 dX11_init_67 dX11_init_68 cf_X7 kc_X11_46 in_X7 ic_X7 new7 rfl dX11_init_71 dX11_init_72 li_X11_48 dX11_init_75 ff_X11_49_11 rfl rfl (by show (5 : Nat) < 16; decide) (by omega) (by omega) (by omega) (fun T I L e z1 z2 => hc_Stand (n := n + 3) z1 z2) (fun I2 L2 z2 => ?_)
  rw [q2]
  have l2 : (l ++ oStr 25 :: oStrC 25 ++ [oSt]).length = 35 := by rw [List.length_append, l1]; rfl
  have q3 : tX.length + (l ++ oStr 25 :: oStrC 25 ++ [oSt]).length = 36 := by rw [l2]; rfl
  have z2' : ZI tX I0 L0 (l ++ oStr 25 :: oStrC 25 ++ [oSt]).length I2 L2 := by rw [l2]; rw [l1] at z2; exact z2
  refine pObj (n := n + 5) (pc := 78) (j := 6) (c2 := 7) (N := 4) (bc' := 0) (bs' := 0) (fin := oSt) (nw := []) hx (by decide) z2' h0 dX11_init_78 dX11_init_79 cf_X7 kc_X11_46 in_X7 ic_X7 new7 rfl dX11_init_82 dX11_init_83 li_X11_48 dX11_init_86 ff_X11_53_11 rfl rfl (by show (6 : Nat) < 16; decide) (by omega) (by omega) (by omega) (fun T I L e z1 z2 => hc_Stand (n := n + 3) z1 z2) (fun I3 L3 z3 => ?_)
  rw [q3]
  have l3 : (l ++ oStr 25 :: oStrC 25 ++ [oSt] ++ [oSt]).length = 36 := by rw [List.length_append, l2]; rfl
  have q4 : tX.length + (l ++ oStr 25 :: oStrC 25 ++ [oSt] ++ [oSt]).length = 37 := by rw [l3]; rfl
  have z3' : ZI tX I0 L0 (l ++ oStr 25 :: oStrC 25 ++ [oSt] ++ [oSt]).length I3 L3 := by rw [l3]; rw [l2] at z3; exact z3
  refine pBool (pc := 89) (j := 7) hx (by decide) z3' hI h0 dX11_init_89 dX11_init_90 dX11_init_91 fl_X11_56_11 rfl ?_
  refine pObj (n := n + 5) (pc := 94) (j := 8) (c2 := 2) (N := 5) (bc' := 6) (bs' := 183) (fin := .inr (2, [.ref 38, .ref 40, .ref 42, .int 0, .int 0])) (nw := [.inr (3, [.ref 39]), .inl (.int, 60, []), .inr (3, [.ref 41]), .inl (.int, 60, []), .inr (3, [.ref 43]), .inl (.int, 60, [])]) hx (by decide) z3' h0 dX11_init_94 dX11_init_95 cf_X1 kc_X11_60 in_X1 ic_X1 new2 rfl dX11_init_98 dX11_init_99 li_X11_62 dX11_init_102 ff_X11_63_11 rfl rfl (by show (8 : Nat) < 16; decide) (by omega) (by omega) (by omega) (fun T I L e z1 z2 => hc_Past (n := n + 3) (p := 37) (by decide) (e.trans q4) z1) (fun I4 L4 z4 => ?_)
  rw [q4]
  have l4 : (l ++ oStr 25 :: oStrC 25 ++ [oSt] ++ [oSt] ++ oPast).length = 43 := by rw [List.length_append, l3]; rfl
  have q5 : tX.length + (l ++ oStr 25 :: oStrC 25 ++ [oSt] ++ [oSt] ++ oPast).length = 44 := by rw [l4]; rfl
  have z4' : ZI tX I0 L0 (l ++ oStr 25 :: oStrC 25 ++ [oSt] ++ [oSt] ++ oPast).length I4 L4 := by rw [l4]; rw [l3] at z4; exact z4
  refine pObj (n := n + 5) (pc := 105) (j := 9) (c2 := 6) (N := 6) (bc' := 8) (bs' := 84) (l := l ++ oStr 25 :: oStrC 25 ++ [oSt] ++ [oSt] ++ oPast) (fin := .inr (6, [.ref 45, .ref 47, .ref 49, .ref 51, .int 0, .int 0])) (nw := [.inr (3, [.ref 46]), .inl (.int, 20, []), .inr (3, [.ref 48]), .inl (.int, 20, []), .inr (3, [.ref 50]), .inl (.int, 20, []), .inr (3, [.ref 52]), .inl (.int, 20, [])]) hx (by decide) z4' h0 dX11_init_105 dX11_init_106 cf_X6 kc_X11_67 in_X6 ic_X6 new6 rfl dX11_init_109 dX11_init_110 li_X11_69 dX11_init_113 ff_X11_70_11 rfl rfl (by show (9 : Nat) < 16; decide) (by omega) (by omega) (by omega) (fun T I L e z1 z2 => hc_Seen (n := n + 3) (p := 44) (by decide) (e.trans q5) z1) (fun I5 L5 z5 => ?_)
  rw [q5]
  have f1 : bc - 1 - 10 - 1 - 0 - 1 - 0 - 1 - 6 - 1 - 8 = bc - 11 - 1 - 1 - 7 - 9 := by omega
  have f2 : bs - 11 - 30 - 4 - 0 - 4 - 0 - 5 - 183 - 6 - 84 = bs - 41 - 4 - 4 - 188 - 90 := by omega
  rw [f1, f2]
  rw [l4] at z5
  exact kk I5 L5 z5
end
