section
variable {x : sm_Cx} {md : sm_MD} {n : Nat} {K : sm_K} {I : sm_MI} {L : sm_ML} {bc bs : Nat} {S : List sm_Sh} {ls : List (Option Value)}
abbrev fXA (d : Value) (a b c e : Value) : List Value := [.ref 1, .ref 4, .ref 18, .ref 23, .ref 24, .ref 35, .ref 36, .int 0, .ref 37, .ref 44, d, .int 0, a, b, c, e]
set_option maxRecDepth 100000 in
/-- the face's constructor, from its dream on -/
theorem c_X11 (hx : sm_Ok x mX11_init (n + 6) K) (h0 : ls[0]? = some (some (.ref 0))) (hS : S.length = 53) (hS0 : S[0]? = some (.inr (11, fXA .null .null .null .null .null))) (hI : I 0 = fun _ => 0) (hb : 75 - 52 ≤ bc) (hs : 5973 + 202 + 3891 ≤ bs)
    (kk : ∀ I' L', (∀ j, j < 53 → I' j = I j ∧ L' j = L j) → (I' 53 = fun j => if j = 10 ∨ j = 11 then -1 else 0) → (L' 53 = fun _ => 0) → (∀ j, 54 ≤ j → j < 76 → I' j = (fun _ => 0) ∧ L' j = fun _ => 0) → K none (ST ((S ++ oDr).set 0 (.inr (11, fXA (.ref 53) .null .null .null .null))) 0 11 (fXA (.ref 53) (.ref 68) (.ref 70) (.ref 72) (.ref 74)) [.inr (3, [.ref 69]), .inl (.int, 201, []), .inr (3, [.ref 71]), .inl (.int, 1296, []), .inr (3, [.ref 73]), .inl (.int, 1296, []), .inr (3, [.ref 75]), .inl (.int, 1296, [])]) I' L') : sm_V x bc bs S I L 116 ls [] := by
  refine sm_aload_n (z := 0) hx dX11_init_116 h0 ?_
  refine sm_new (ci := 1) (N := 21) (C := RX0) (Tt := TX0) (ty := tyX0) (fs := fD0) hx dX11_init_117 cf_X0 kc_X11_74 in_X0 ic_X0 newD rfl (by omega) (by omega) (by omega) ?_
  have hS1 : (S ++ [.inr (1, fD0)])[0]? = some (.inr (11, fXA .null .null .null .null .null)) := (ap_l (by omega)).trans hS0
  refine sm_dup hx dX11_init_120 rfl (sm_aload_n (z := 0) hx dX11_init_121 h0 (sm_getR hx dX11_init_122 fl_X11_42_11 hS1 rfl (sm_aload_n (z := 0) hx dX11_init_125 h0 (sm_getR hx dX11_init_126 fl_X11_35_11 hS1 rfl ?_))))
  refine sm_callI (args := [.ref 24, .ref 23]) (k := S.length) (bc' := 14) (bs' := 5952) hx dX11_init_129 li_X11_76 rfl rfl rfl (by omega) (by omega) (hc_Dream (n := n + 1) hS (sm_zI_at _ _) (sm_zL_at _ _)) (fun v T2 I2 L2 q => ?_)
  obtain ⟨rfl, rfl, a1, a2, a3, a4⟩ := q
  have l2 : (S ++ oDr).length = 68 := by rw [List.length_append, hS]; rfl
  have k2 : (S ++ oDr)[0]? = some (.inr (11, fXA .null .null .null .null .null)) := by rw [List.getElem?_append_left (by omega)]; exact hS0
  refine sm_putFR hx dX11_init_132 ff_X11_79_11 rfl rfl k2 (by show (10 : Nat) < 16; decide) ?_
  rw [hS]
  have hI2 : ∀ j, j < 53 → I2 j = I j ∧ L2 j = L j := fun j hj => by
    obtain ⟨b1, b2⟩ := a1 j hj
    exact ⟨b1.trans (sm_zI_ne (by omega)), b2.trans (sm_zL_ne (by omega))⟩
  have hI20 : I2 0 = fun _ => 0 := (hI2 0 (by omega)).1.trans hI
  have y0 : ((S ++ oDr).set 0 (.inr (11, fXA (.ref 53) .null .null .null .null)))[0]? = some (.inr (11, fXA (.ref 53) .null .null .null .null)) := List.getElem?_set_self (by omega)
  have y1 : ((S ++ oDr).set 0 (.inr (11, fXA (.ref 53) .null .null .null .null))).length = 68 := by rw [List.length_set, l2]
  show sm_V x _ _ ((S ++ oDr).set 0 (.inr (11, fXA (.ref 53) .null .null .null .null))) I2 L2 135 ls []
  generalize (S ++ oDr).set 0 (.inr (11, fXA (.ref 53) .null .null .null .null)) = Y at y0 y1 kk ⊢
  have yl : 0 < Y.length := by omega
  suffices h : sm_V x (bc - 1 - 14) (bs - 21 - 5952) (ST Y 0 11 (fXA (.ref 53) .null .null .null .null) []) I2 L2 135 ls [] by rw [← ST_0 y0] at h; exact h
  refine pInt (m := 0) (pc := 135) (j := 11) hx yl ZI_0 hI20 h0 dX11_init_135 dX11_init_136 dX11_init_137 fl_X11_83_11 rfl ?_
  refine pRow (n := n + 4) (m := 201) (pc := 140) (pc5 := 148) (j := 12) hx yl ZI_0 h0 dX11_init_140 dX11_init_141 kc_X11_87 dX11_init_144 (fun _ _ _ _ _ _ h => sm_sipush (v := nI 201) hx dX11_init_145 (by decide) h) dX11_init_148 li_X11_89 dX11_init_151 ff_X11_92_11 rfl rfl (by show (12 : Nat) < 16; decide) (by decide) (by show Y.length + 0 + 2 < 1000000; omega) (by omega) (by omega) rfl (fun I3 L3 z1 => ?_)
  refine pRow (n := n + 4) (m := 1296) (pc := 154) (pc5 := 162) (j := 13) hx yl z1 h0 dX11_init_154 dX11_init_155 kc_X11_87 dX11_init_158 (fun _ _ _ _ _ _ h => sm_sipush (v := nI 1296) hx dX11_init_159 (by decide) h) dX11_init_162 li_X11_89 dX11_init_165 ff_X11_96_11 rfl rfl (by show (13 : Nat) < 16; decide) (by decide) (by show Y.length + 2 + 2 < 1000000; omega) (by omega) (by omega) rfl (fun I4 L4 z2 => ?_)
  refine pRow (n := n + 4) (m := 1296) (pc := 168) (pc5 := 176) (j := 14) hx yl z2 h0 dX11_init_168 dX11_init_169 kc_X11_87 dX11_init_172 (fun _ _ _ _ _ _ h => sm_sipush (v := nI 1296) hx dX11_init_173 (by decide) h) dX11_init_176 li_X11_89 dX11_init_179 ff_X11_99_11 rfl rfl (by show (14 : Nat) < 16; decide) (by decide) (by show Y.length + 4 + 2 < 1000000; omega) (by omega) (by omega) rfl (fun I5 L5 z3 => ?_)
  refine pRow (n := n + 4) (m := 1296) (pc := 182) (pc5 := 190) (j := 15) hx yl z3 h0 dX11_init_182 dX11_init_183 kc_X11_87 dX11_init_186 (fun _ _ _ _ _ _ h => sm_sipush (v := nI 1296) hx dX11_init_187 (by decide) h) dX11_init_190 li_X11_89 dX11_init_193 ff_X11_102_11 rfl rfl (by show (15 : Nat) < 16; decide) (by decide) (by show Y.length + 6 + 2 < 1000000; omega) (by omega) (by omega) rfl (fun I6 L6 z4 => ?_)
  refine sm_vret hx dX11_init_196 rfl ?_
  have g := kk I6 L6 (fun j hj => ?_) ?_ ?_ (fun j h1 h2 => ?_)
  · rw [y1]
    exact g
  · obtain ⟨b1, b2⟩ := z4.1 j (by omega)
    obtain ⟨c1, c2⟩ := hI2 j hj
    exact ⟨b1.trans c1, b2.trans c2⟩
  · exact (z4.1 53 (by omega)).1.trans a2
  · exact (z4.1 53 (by omega)).2.trans a3
  · rcases Nat.lt_or_ge j 68 with c | c
    · obtain ⟨b1, b2⟩ := z4.1 j (by omega)
      obtain ⟨c1, c2⟩ := a4 j h1 c
      exact ⟨b1.trans c1, b2.trans c2⟩
    · exact z4.2 j (by omega) (by show j < Y.length + 8; omega)
end
