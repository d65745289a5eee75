section
variable {x : sm_Cx} {md : sm_MD} {n : Nat} {K : sm_K} {bc bs bc2 bs2 : Nat} {T T0 : List sm_Sh} {I0 I : sm_MI} {L0 L : sm_ML} {pc pc2 q m : Nat} {fs : List Value} {l : List sm_Sh} {ls : List (Option Value)} {st : List Value}
def gM93 : sm_MI := fun j b => if j = 93 ∧ b < 5 then -1 else 0
def ZM (I0 : sm_MI) (L0 : sm_ML) (q : Nat) (I : sm_MI) (L : sm_ML) : Prop := (∀ j, j < 77 → I j = I0 j ∧ L j = L0 j) ∧ ∀ j, 77 ≤ j → j < 77 + q → I j = gM93 j ∧ L j = fun _ => 0
theorem gM93_0 {j : Nat} (h : j ≠ 93) : gM93 j = fun _ => 0 := by funext b; exact if_neg (fun q => h q.1)
theorem ZM_x {I' : sm_MI} {L' : sm_ML} (hZ : ZM I0 L0 q I L) (h1 : ∀ j, j ≠ 77 + q → I' j = I j ∧ L' j = L j) (h2 : I' (77 + q) = gM93 (77 + q)) (h3 : L' (77 + q) = fun _ => 0) : ZM I0 L0 (q + 1) I' L' := by
  refine ⟨fun j hj => ?_, fun j g1 g2 => ?_⟩
  · obtain ⟨c1, c2⟩ := hZ.1 j hj
    obtain ⟨e1, e2⟩ := h1 j (by omega)
    exact ⟨e1.trans c1, e2.trans c2⟩
  · rcases Nat.lt_or_ge j (77 + q) with c | c
    · obtain ⟨c1, c2⟩ := hZ.2 j g1 c
      obtain ⟨e1, e2⟩ := h1 j (by omega)
      exact ⟨e1.trans c1, e2.trans c2⟩
    · have : j = 77 + q := by omega
      subst this
      exact ⟨h2, h3⟩
theorem ZM_a (hZ : ZM I0 L0 q I L) (hq : q ≠ 16) : ZM I0 L0 (q + 1) (sm_zI I (77 + q)) (sm_zL L (77 + q)) :=
  ZM_x hZ (fun j hj => ⟨sm_zI_ne hj, sm_zL_ne hj⟩) ((sm_zI_at _ _).trans (gM93_0 (by omega)).symm) (sm_zL_at _ _)
theorem alI (hx : sm_Ok x md n K) (dn : decode md.2.1 pc = .ok (.newarray .int, 2)) (hm : m ≤ 3000) (hl : T.length + 1 < 1000000) (h : sm_V x bc bs (T ++ [.inl (.int, m, [])]) (sm_zI I T.length) (sm_zL L T.length) (pc + 2) ls (.ref T.length :: st)) : sm_V x (bc + 1) (bs + m) T I L pc ls (.int (nI m) :: st) :=
  sm_newaI (m := m) hx dn aq_int (nI_pos (by omega)) (nI_clamp (by omega)) (by omega) hl (Nat.le_add_left _ _) (Nat.le_add_left _ _) (by rw [Nat.add_sub_cancel, Nat.add_sub_cancel]; exact h)
theorem alL (hx : sm_Ok x md n K) (dn : decode md.2.1 pc = .ok (.newarray .long, 2)) (hm : m ≤ 3000) (hl : T.length + 1 < 1000000) (h : sm_V x bc bs (T ++ [.inl (.long, m, [])]) (sm_zI I T.length) (sm_zL L T.length) (pc + 2) ls (.ref T.length :: st)) : sm_V x (bc + 1) (bs + m) T I L pc ls (.int (nI m) :: st) :=
  sm_newaL (m := m) hx dn aq_long (nI_pos (by omega)) (nI_clamp (by omega)) (by omega) hl (Nat.le_add_left _ _) (Nat.le_add_left _ _) (by rw [Nat.add_sub_cancel, Nat.add_sub_cancel]; exact h)
theorem alZ (hx : sm_Ok x md n K) (dn : decode md.2.1 pc = .ok (.newarray .boolean, 2)) (hm : m ≤ 3000) (hl : T.length + 1 < 1000000) (h : sm_V x bc bs (T ++ [.inl (.boolean, m, [])]) (sm_zI I T.length) (sm_zL L T.length) (pc + 2) ls (.ref T.length :: st)) : sm_V x (bc + 1) (bs + m) T I L pc ls (.int (nI m) :: st) :=
  sm_newaZ (m := m) hx dn aq_boolean (nI_pos (by omega)) (nI_clamp (by omega)) (by omega) hl (Nat.le_add_left _ _) (Nat.le_add_left _ _) (by rw [Nat.add_sub_cancel, Nat.add_sub_cancel]; exact h)
/-- a field made of a new array -/
theorem qArr {i3 j : Nat} {ty : FieldType} {sh : sm_Sh} (hx : sm_Ok x md n K) (hT : T0.length = 77) (hF : fs.length = 61) (hq : l.length = q) (hZ : ZM I0 L0 q I L) (h16 : q ≠ 16) (h0 : ls[0]? = some (some (.ref 76))) (da : decode md.2.1 pc = .ok (.aload_n 0, 1)) (hq2 : q ≤ 1000)
    (al : ∀ (T : List sm_Sh) (I : sm_MI) (L : sm_ML), T.length + 1 < 1000000 → sm_V x bc bs (T ++ [sh]) (sm_zI I T.length) (sm_zL L T.length) pc2 ls [.ref T.length, .ref 76] → sm_V x bc2 bs2 T I L (pc + 1) ls [.ref 76])
    (dp : decode md.2.1 pc2 = .ok (.putfield i3, 3)) (lk : sm_FLf md.1.cls i3 12 j ty) (hini : md.1.name = "<init>") (ht : ty.isReference = true) (hj : j < 61)
    (kk : ∀ (I' : sm_MI) (L' : sm_ML) (fs' : List Value) (l' : List sm_Sh), fs' = fs.set j (.ref (77 + q)) → l' = l ++ [sh] → fs'.length = 61 → l'.length = q + 1 → ZM I0 L0 (q + 1) I' L' → sm_V x bc bs (ST T0 76 12 fs' l') I' L' (pc2 + 3) ls []) : sm_V x bc2 bs2 (ST T0 76 12 fs l) I L pc ls [] := by
  have hlen : (ST T0 76 12 fs l).length = 77 + q := by rw [ST_len, hT, hq]
  refine sm_aload_n (z := 76) hx da h0 (al _ _ _ (by omega) ?_)
  rw [hlen]
  have hk2 : (ST T0 76 12 fs l ++ [sh])[76]? = some (.inr (12, fs)) := by
    rw [List.getElem?_append_left (by omega)]; exact ST_k (by omega)
  refine sm_putFR hx dp lk hini ht hk2 (by omega) ?_
  rw [ST_set (by omega)]
  exact kk _ _ _ _ rfl rfl (by rw [List.length_set, hF]) (by rw [List.length_append, hq]; rfl) (ZM_a hZ h16)
/-- one of the array's first places becomes -1, the array stays on the stack -/
theorem qM1 {i : Nat} {c : Int} (hx : sm_Ok x md n K) (hT : T[93]? = some (.inl (.int, 5, []))) (hi : i < 5) (d1 : decode md.2.1 pc = .ok (.dup, 1)) (d2 : decode md.2.1 (pc + 1) = .ok (.iconst c, 1)) (hc : Int32.ofInt c = nI i) (d3 : decode md.2.1 (pc + 1 + 1) = .ok (.iconst (-1), 1)) (d4 : decode md.2.1 (pc + 1 + 1 + 1) = .ok (.iastore, 1)) (kk : sm_V x bc bs T (sm_uI I 93 i (-1)) L (pc + 1 + 1 + 1 + 1) ls (.ref 93 :: st)) : sm_V x bc bs T I L pc ls (.ref 93 :: st) := by
  refine sm_dup hx d1 rfl (sm_iconst (v := nI i) hx d2 hc (sm_iconst (v := -1) hx d3 sm_kc_m1 (sm_iast hx d4 hT (vp_in_nI hi (by decide)) ?_)))
  rw [nI_clamp (by omega)]
  exact kk
theorem m1_5 {I : sm_MI} {k : Nat} (h : I k = fun _ => 0) : sm_uI (sm_uI (sm_uI (sm_uI (sm_uI I k 0 (-1)) k 1 (-1)) k 2 (-1)) k 3 (-1)) k 4 (-1) k = fun b => if b < 5 then -1 else 0 := by
  funext b
  by_cases c4 : b = 4
  · subst c4; rw [cuA, if_pos (by omega)]
  rw [cuD (by omega)]
  by_cases c3 : b = 3
  · subst c3; rw [cuA, if_pos (by omega)]
  rw [cuD (by omega)]
  by_cases c2 : b = 2
  · subst c2; rw [cuA, if_pos (by omega)]
  rw [cuD (by omega)]
  by_cases c1 : b = 1
  · subst c1; rw [cuA, if_pos (by omega)]
  rw [cuD (by omega)]
  by_cases c0 : b = 0
  · subst c0; rw [cuA, if_pos (by omega)]
  rw [cuD (by omega), if_neg (by omega), h]
theorem gM93_93 : gM93 93 = fun b => if b < 5 then -1 else 0 := by funext b; simp [gM93]
end

section
variable {x : sm_Cx} {n : Nat} {K : sm_K} {T0 : List sm_Sh} {I0 I : sm_MI} {L0 L : sm_ML} {fs : List Value} {l : List sm_Sh} {ls : List (Option Value)}
set_option maxRecDepth 100000 in
set_option maxHeartbeats 4000000 in
theorem a_X12 (hx : sm_Ok x mX12_init n K) (hT : T0.length = 77) (hF : fs.length = 61) (hq : l.length = 0) (hZ : ZM I0 L0 0 I L) (h0 : ls[0]? = some (some (.ref 76)))
    (kk : ∀ (I' : sm_MI) (L' : sm_ML) (fs' : List Value) (l' : List sm_Sh), fs' = ((((((((fs.set 1 (.ref 77)).set 6 (.ref 78)).set 7 (.ref 79)).set 8 (.ref 80)).set 9 (.ref 81)).set 10 (.ref 82)).set 11 (.ref 83)).set 12 (.ref 84)) → l' = l ++ [(.inl (.int, 160, []) : sm_Sh), (.inl (.int, 2040, []) : sm_Sh), (.inl (.int, 2040, []) : sm_Sh), (.inl (.int, 6, []) : sm_Sh), (.inl (.int, 6, []) : sm_Sh), (.inl (.int, 540, []) : sm_Sh), (.inl (.int, 540, []) : sm_Sh), (.inl (.int, 540, []) : sm_Sh)] → fs'.length = 61 → l'.length = 8 → ZM I0 L0 8 I' L' → sm_V x 24 1556 (ST T0 76 12 fs' l') I' L' 74 ls []) : sm_V x 32 7428 (ST T0 76 12 fs l) I L 4 ls [] := by
  refine qArr (n := n) (bc := 31) (bs := 7268) (pc := 4) (pc2 := 10) (j := 1) (q := 0) (sh := (.inl (.int, 160, []) : sm_Sh)) hx hT hF hq hZ (by decide) h0 dX12_init_4 (by decide) (fun T I L e h => sm_sipush (v := nI 160) hx dX12_init_5 (by decide) (alI (bc := 31) (bs := 7268) (m := 160) hx dX12_init_8 (by decide) e h)) dX12_init_10 ff_X12_9_12 rfl rfl (by decide) (fun I1 L1 fs1 l1 e1 g1 hF1 hq1 z1 => ?_)
  refine qArr (n := n) (bc := 30) (bs := 5228) (pc := 13) (pc2 := 19) (j := 6) (q := 1) (sh := (.inl (.int, 2040, []) : sm_Sh)) hx hT hF1 hq1 z1 (by decide) h0 dX12_init_13 (by decide) (fun T I L e h => sm_sipush (v := nI 2040) hx dX12_init_14 (by decide) (alI (bc := 30) (bs := 5228) (m := 2040) hx dX12_init_17 (by decide) e h)) dX12_init_19 ff_X12_13_12 rfl rfl (by decide) (fun I2 L2 fs2 l2 e2 g2 hF2 hq2 z2 => ?_)
  refine qArr (n := n) (bc := 29) (bs := 3188) (pc := 22) (pc2 := 28) (j := 7) (q := 2) (sh := (.inl (.int, 2040, []) : sm_Sh)) hx hT hF2 hq2 z2 (by decide) h0 dX12_init_22 (by decide) (fun T I L e h => sm_sipush (v := nI 2040) hx dX12_init_23 (by decide) (alI (bc := 29) (bs := 3188) (m := 2040) hx dX12_init_26 (by decide) e h)) dX12_init_28 ff_X12_16_12 rfl rfl (by decide) (fun I3 L3 fs3 l3 e3 g3 hF3 hq3 z3 => ?_)
  refine qArr (n := n) (bc := 28) (bs := 3182) (pc := 31) (pc2 := 36) (j := 8) (q := 3) (sh := (.inl (.int, 6, []) : sm_Sh)) hx hT hF3 hq3 z3 (by decide) h0 dX12_init_31 (by decide) (fun T I L e h => sm_bipush (v := nI 6) hx dX12_init_32 (by decide) (alI (bc := 28) (bs := 3182) (m := 6) hx dX12_init_34 (by decide) e h)) dX12_init_36 ff_X12_19_12 rfl rfl (by decide) (fun I4 L4 fs4 l4 e4 g4 hF4 hq4 z4 => ?_)
  refine qArr (n := n) (bc := 27) (bs := 3176) (pc := 39) (pc2 := 44) (j := 9) (q := 4) (sh := (.inl (.int, 6, []) : sm_Sh)) hx hT hF4 hq4 z4 (by decide) h0 dX12_init_39 (by decide) (fun T I L e h => sm_bipush (v := nI 6) hx dX12_init_40 (by decide) (alI (bc := 27) (bs := 3176) (m := 6) hx dX12_init_42 (by decide) e h)) dX12_init_44 ff_X12_22_12 rfl rfl (by decide) (fun I5 L5 fs5 l5 e5 g5 hF5 hq5 z5 => ?_)
  refine qArr (n := n) (bc := 26) (bs := 2636) (pc := 47) (pc2 := 53) (j := 10) (q := 5) (sh := (.inl (.int, 540, []) : sm_Sh)) hx hT hF5 hq5 z5 (by decide) h0 dX12_init_47 (by decide) (fun T I L e h => sm_sipush (v := nI 540) hx dX12_init_48 (by decide) (alI (bc := 26) (bs := 2636) (m := 540) hx dX12_init_51 (by decide) e h)) dX12_init_53 ff_X12_25_12 rfl rfl (by decide) (fun I6 L6 fs6 l6 e6 g6 hF6 hq6 z6 => ?_)
  refine qArr (n := n) (bc := 25) (bs := 2096) (pc := 56) (pc2 := 62) (j := 11) (q := 6) (sh := (.inl (.int, 540, []) : sm_Sh)) hx hT hF6 hq6 z6 (by decide) h0 dX12_init_56 (by decide) (fun T I L e h => sm_sipush (v := nI 540) hx dX12_init_57 (by decide) (alI (bc := 25) (bs := 2096) (m := 540) hx dX12_init_60 (by decide) e h)) dX12_init_62 ff_X12_28_12 rfl rfl (by decide) (fun I7 L7 fs7 l7 e7 g7 hF7 hq7 z7 => ?_)
  refine qArr (n := n) (bc := 24) (bs := 1556) (pc := 65) (pc2 := 71) (j := 12) (q := 7) (sh := (.inl (.int, 540, []) : sm_Sh)) hx hT hF7 hq7 z7 (by decide) h0 dX12_init_65 (by decide) (fun T I L e h => sm_sipush (v := nI 540) hx dX12_init_66 (by decide) (alI (bc := 24) (bs := 1556) (m := 540) hx dX12_init_69 (by decide) e h)) dX12_init_71 ff_X12_31_12 rfl rfl (by decide) (fun I8 L8 fs8 l8 e8 g8 hF8 hq8 z8 => ?_)
  refine kk I8 L8 fs8 l8 ?_ ?_ hF8 hq8 z8
  · subst_vars; rfl
  · subst_vars; simp only [List.append_assoc, List.cons_append, List.nil_append]
set_option maxRecDepth 100000 in
set_option maxHeartbeats 4000000 in
theorem b_X12 (hx : sm_Ok x mX12_init n K) (hT : T0.length = 77) (hF : fs.length = 61) (hq : l.length = 8) (hZ : ZM I0 L0 8 I L) (h0 : ls[0]? = some (some (.ref 76)))
    (kk : ∀ (I' : sm_MI) (L' : sm_ML) (fs' : List Value) (l' : List sm_Sh), fs' = ((((((((fs.set 15 (.ref 85)).set 16 (.ref 86)).set 17 (.ref 87)).set 18 (.ref 88)).set 24 (.ref 89)).set 25 (.ref 90)).set 31 (.ref 91)).set 32 (.ref 92)) → l' = l ++ [(.inl (.int, 6, []) : sm_Sh), (.inl (.int, 80, []) : sm_Sh), (.inl (.int, 20, []) : sm_Sh), (.inl (.int, 8, []) : sm_Sh), (.inl (.int, 20, []) : sm_Sh), (.inl (.int, 8, []) : sm_Sh), (.inl (.int, 5, []) : sm_Sh), (.inl (.int, 8, []) : sm_Sh)] → fs'.length = 61 → l'.length = 16 → ZM I0 L0 16 I' L' → sm_V x 16 1401 (ST T0 76 12 fs' l') I' L' 137 ls []) : sm_V x 24 1556 (ST T0 76 12 fs l) I L 74 ls [] := by
  refine qArr (n := n) (bc := 23) (bs := 1550) (pc := 74) (pc2 := 79) (j := 15) (q := 8) (sh := (.inl (.int, 6, []) : sm_Sh)) hx hT hF hq hZ (by decide) h0 dX12_init_74 (by decide) (fun T I L e h => sm_bipush (v := nI 6) hx dX12_init_75 (by decide) (alI (bc := 23) (bs := 1550) (m := 6) hx dX12_init_77 (by decide) e h)) dX12_init_79 ff_X12_34_12 rfl rfl (by decide) (fun I1 L1 fs1 l1 e1 g1 hF1 hq1 z1 => ?_)
  refine qArr (n := n) (bc := 22) (bs := 1470) (pc := 82) (pc2 := 87) (j := 16) (q := 9) (sh := (.inl (.int, 80, []) : sm_Sh)) hx hT hF1 hq1 z1 (by decide) h0 dX12_init_82 (by decide) (fun T I L e h => sm_bipush (v := nI 80) hx dX12_init_83 (by decide) (alI (bc := 22) (bs := 1470) (m := 80) hx dX12_init_85 (by decide) e h)) dX12_init_87 ff_X12_37_12 rfl rfl (by decide) (fun I2 L2 fs2 l2 e2 g2 hF2 hq2 z2 => ?_)
  refine qArr (n := n) (bc := 21) (bs := 1450) (pc := 90) (pc2 := 95) (j := 17) (q := 10) (sh := (.inl (.int, 20, []) : sm_Sh)) hx hT hF2 hq2 z2 (by decide) h0 dX12_init_90 (by decide) (fun T I L e h => sm_bipush (v := nI 20) hx dX12_init_91 (by decide) (alI (bc := 21) (bs := 1450) (m := 20) hx dX12_init_93 (by decide) e h)) dX12_init_95 ff_X12_40_12 rfl rfl (by decide) (fun I3 L3 fs3 l3 e3 g3 hF3 hq3 z3 => ?_)
  refine qArr (n := n) (bc := 20) (bs := 1442) (pc := 98) (pc2 := 103) (j := 18) (q := 11) (sh := (.inl (.int, 8, []) : sm_Sh)) hx hT hF3 hq3 z3 (by decide) h0 dX12_init_98 (by decide) (fun T I L e h => sm_bipush (v := nI 8) hx dX12_init_99 (by decide) (alI (bc := 20) (bs := 1442) (m := 8) hx dX12_init_101 (by decide) e h)) dX12_init_103 ff_X12_43_12 rfl rfl (by decide) (fun I4 L4 fs4 l4 e4 g4 hF4 hq4 z4 => ?_)
  refine qArr (n := n) (bc := 19) (bs := 1422) (pc := 106) (pc2 := 111) (j := 24) (q := 12) (sh := (.inl (.int, 20, []) : sm_Sh)) hx hT hF4 hq4 z4 (by decide) h0 dX12_init_106 (by decide) (fun T I L e h => sm_bipush (v := nI 20) hx dX12_init_107 (by decide) (alI (bc := 19) (bs := 1422) (m := 20) hx dX12_init_109 (by decide) e h)) dX12_init_111 ff_X12_46_12 rfl rfl (by decide) (fun I5 L5 fs5 l5 e5 g5 hF5 hq5 z5 => ?_)
  refine qArr (n := n) (bc := 18) (bs := 1414) (pc := 114) (pc2 := 119) (j := 25) (q := 13) (sh := (.inl (.int, 8, []) : sm_Sh)) hx hT hF5 hq5 z5 (by decide) h0 dX12_init_114 (by decide) (fun T I L e h => sm_bipush (v := nI 8) hx dX12_init_115 (by decide) (alI (bc := 18) (bs := 1414) (m := 8) hx dX12_init_117 (by decide) e h)) dX12_init_119 ff_X12_49_12 rfl rfl (by decide) (fun I6 L6 fs6 l6 e6 g6 hF6 hq6 z6 => ?_)
  refine qArr (n := n) (bc := 17) (bs := 1409) (pc := 122) (pc2 := 126) (j := 31) (q := 14) (sh := (.inl (.int, 5, []) : sm_Sh)) hx hT hF6 hq6 z6 (by decide) h0 dX12_init_122 (by decide) (fun T I L e h => sm_iconst (v := nI 5) hx dX12_init_123 (by decide) (alI (bc := 17) (bs := 1409) (m := 5) hx dX12_init_124 (by decide) e h)) dX12_init_126 ff_X12_52_12 rfl rfl (by decide) (fun I7 L7 fs7 l7 e7 g7 hF7 hq7 z7 => ?_)
  refine qArr (n := n) (bc := 16) (bs := 1401) (pc := 129) (pc2 := 134) (j := 32) (q := 15) (sh := (.inl (.int, 8, []) : sm_Sh)) hx hT hF7 hq7 z7 (by decide) h0 dX12_init_129 (by decide) (fun T I L e h => sm_bipush (v := nI 8) hx dX12_init_130 (by decide) (alI (bc := 16) (bs := 1401) (m := 8) hx dX12_init_132 (by decide) e h)) dX12_init_134 ff_X12_55_12 rfl rfl (by decide) (fun I8 L8 fs8 l8 e8 g8 hF8 hq8 z8 => ?_)
  refine kk I8 L8 fs8 l8 ?_ ?_ hF8 hq8 z8
  · subst_vars; rfl
  · subst_vars; simp only [List.append_assoc, List.cons_append, List.nil_append]
set_option maxRecDepth 100000 in
set_option maxHeartbeats 4000000 in
theorem c_X12 (hx : sm_Ok x mX12_init n K) (hT : T0.length = 77) (hF : fs.length = 61) (hbed : fs[39]? = some (.int 0)) (hq : l.length = 16) (hZ : ZM I0 L0 16 I L) (h0 : ls[0]? = some (some (.ref 76)))
    (kk : ∀ (I' : sm_MI) (L' : sm_ML) (fs' : List Value) (l' : List sm_Sh), fs' = ((fs.set 37 (.ref 93)).set 38 (.ref 94)) → l' = l ++ [(.inl (.int, 5, []) : sm_Sh), (.inl (.int, 5, []) : sm_Sh)] → fs'.length = 61 → l'.length = 18 → ZM (sm_uI I0 76 39 (-1)) L0 18 I' L' → sm_V x 14 1391 (ST T0 76 12 fs' l') I' L' 176 ls []) : sm_V x 16 1401 (ST T0 76 12 fs l) I L 137 ls [] := by
  have hlen : (ST T0 76 12 fs l).length = 93 := by rw [ST_len, hT, hq]
  refine sm_aload_n (z := 76) hx dX12_init_137 h0 (sm_iconst (v := nI 5) hx dX12_init_138 (by decide) (alI (bc := 15) (bs := 1396) (m := 5) hx dX12_init_139 (by decide) (by omega) ?_))
  rw [hlen]
  have hk2 : (ST T0 76 12 fs l ++ [(.inl (.int, 5, []) : sm_Sh)])[76]? = some (.inr (12, fs)) := by
    rw [List.getElem?_append_left (by omega)]; exact ST_k (by omega)
  have hk3 : (ST T0 76 12 fs l ++ [(.inl (.int, 5, []) : sm_Sh)])[93]? = some (.inl (.int, 5, [])) := by
    rw [List.getElem?_append_right (by omega), hlen]; rfl
  refine qM1 (i := 0) (pc := 141) hx hk3 (by decide) dX12_init_141 dX12_init_142 (by decide) dX12_init_143 dX12_init_144 ?_
  refine qM1 (i := 1) (pc := 145) hx hk3 (by decide) dX12_init_145 dX12_init_146 (by decide) dX12_init_147 dX12_init_148 ?_
  refine qM1 (i := 2) (pc := 149) hx hk3 (by decide) dX12_init_149 dX12_init_150 (by decide) dX12_init_151 dX12_init_152 ?_
  refine qM1 (i := 3) (pc := 153) hx hk3 (by decide) dX12_init_153 dX12_init_154 (by decide) dX12_init_155 dX12_init_156 ?_
  refine qM1 (i := 4) (pc := 157) hx hk3 (by decide) dX12_init_157 dX12_init_158 (by decide) dX12_init_159 dX12_init_160 ?_
  refine sm_putFR (j := 37) hx dX12_init_161 ff_X12_58_12 rfl rfl hk2 (by omega) ?_
  rw [ST_set (by omega)]
  have z1 : ZM I0 L0 17 (sm_uI (sm_uI (sm_uI (sm_uI (sm_uI (sm_zI I 93) 93 0 (-1)) 93 1 (-1)) 93 2 (-1)) 93 3 (-1)) 93 4 (-1)) (sm_zL L 93) := ZM_x hZ (fun j hj0 => by
    have hj : j ≠ 93 := hj0
    exact ⟨by rw [sm_uI_ne hj, sm_uI_ne hj, sm_uI_ne hj, sm_uI_ne hj, sm_uI_ne hj]; exact sm_zI_ne hj, sm_zL_ne hj⟩) ((m1_5 (sm_zI_at _ _)).trans gM93_93.symm) (sm_zL_at _ _)
  have hF1 : (fs.set 37 (.ref 93)).length = 61 := by rw [List.length_set, hF]
  have hq1 : (l ++ [(.inl (.int, 5, []) : sm_Sh)]).length = 17 := by rw [List.length_append, hq]; rfl
  generalize e1 : fs.set 37 (.ref 93) = fs1 at hF1 ⊢
  generalize g1 : l ++ [(.inl (.int, 5, []) : sm_Sh)] = l1 at hq1 ⊢
  generalize sm_uI (sm_uI (sm_uI (sm_uI (sm_uI (sm_zI I 93) 93 0 (-1)) 93 1 (-1)) 93 2 (-1)) 93 3 (-1)) 93 4 (-1) = I1 at z1 ⊢
  generalize sm_zL L 93 = L1 at z1 ⊢
  refine qArr (n := n) (bc := 14) (bs := 1391) (pc := 164) (pc2 := 168) (j := 38) (q := 17) (sh := (.inl (.int, 5, []) : sm_Sh)) hx hT hF1 hq1 z1 (by decide) h0 dX12_init_164 (by decide) (fun T I L e h => sm_iconst (v := nI 5) hx dX12_init_165 (by decide) (alI (bc := 14) (bs := 1391) (m := 5) hx dX12_init_166 (by decide) e h)) dX12_init_168 ff_X12_61_12 rfl rfl (by decide) (fun I2 L2 fs2 l2 e2 g2 hF2 hq2 z2 => ?_)
  have hb : ∃ u, fs2[39]? = some (.int u) := ⟨0, by subst_vars; simp [hbed]⟩
  obtain ⟨u, hb⟩ := hb
  refine sm_aload_n (z := 76) hx dX12_init_171 h0 (sm_iconst (v := -1) hx dX12_init_172 sm_kc_m1 (sm_putI hx dX12_init_173 fl_X12_64_12 (ST_k (by omega)) hb ?_))
  have zb : ZM (sm_uI I0 76 39 (-1)) L0 18 (sm_uI I2 76 39 (-1)) L2 := ⟨fun j hj => ⟨by
    funext b
    unfold sm_uI
    rw [(z2.1 j hj).1], (z2.1 j hj).2⟩, fun j h1 h2 => ⟨by rw [sm_uI_ne (by omega)]; exact (z2.2 j h1 h2).1, (z2.2 j h1 h2).2⟩⟩
  refine kk (sm_uI I2 76 39 (-1)) L2 fs2 l2 ?_ ?_ hF2 hq2 zb
  · subst_vars; rfl
  · subst_vars; simp only [List.append_assoc, List.cons_append, List.nil_append]
set_option maxRecDepth 100000 in
set_option maxHeartbeats 4000000 in
theorem d_X12 (hx : sm_Ok x mX12_init n K) (hT : T0.length = 77) (hF : fs.length = 61) (hq : l.length = 18) (hZ : ZM I0 L0 18 I L) (h0 : ls[0]? = some (some (.ref 76)))
    (kk : ∀ (I' : sm_MI) (L' : sm_ML) (fs' : List Value) (l' : List sm_Sh), fs' = (((((((((fs.set 40 (.ref 95)).set 41 (.ref 96)).set 43 (.ref 97)).set 45 (.ref 98)).set 46 (.ref 99)).set 47 (.ref 100)).set 48 (.ref 101)).set 49 (.ref 102)).set 50 (.ref 103)) → l' = l ++ [(.inl (.int, 480, []) : sm_Sh), (.inl (.long, 60, []) : sm_Sh), (.inl (.int, 8, []) : sm_Sh), (.inl (.int, 5, []) : sm_Sh), (.inl (.int, 201, []) : sm_Sh), (.inl (.int, 20, []) : sm_Sh), (.inl (.int, 20, []) : sm_Sh), (.inl (.int, 20, []) : sm_Sh), (.inl (.boolean, 20, []) : sm_Sh)] → fs'.length = 61 → l'.length = 27 → ZM I0 L0 27 I' L' → sm_V x 5 557 (ST T0 76 12 fs' l') I' L' 249 ls []) : sm_V x 14 1391 (ST T0 76 12 fs l) I L 176 ls [] := by
  refine qArr (n := n) (bc := 13) (bs := 911) (pc := 176) (pc2 := 182) (j := 40) (q := 18) (sh := (.inl (.int, 480, []) : sm_Sh)) hx hT hF hq hZ (by decide) h0 dX12_init_176 (by decide) (fun T I L e h => sm_sipush (v := nI 480) hx dX12_init_177 (by decide) (alI (bc := 13) (bs := 911) (m := 480) hx dX12_init_180 (by decide) e h)) dX12_init_182 ff_X12_68_12 rfl rfl (by decide) (fun I1 L1 fs1 l1 e1 g1 hF1 hq1 z1 => ?_)
  refine qArr (n := n) (bc := 12) (bs := 851) (pc := 185) (pc2 := 190) (j := 41) (q := 19) (sh := (.inl (.long, 60, []) : sm_Sh)) hx hT hF1 hq1 z1 (by decide) h0 dX12_init_185 (by decide) (fun T I L e h => sm_bipush (v := nI 60) hx dX12_init_186 (by decide) (alL (bc := 12) (bs := 851) (m := 60) hx dX12_init_188 (by decide) e h)) dX12_init_190 ff_X12_71_12 rfl rfl (by decide) (fun I2 L2 fs2 l2 e2 g2 hF2 hq2 z2 => ?_)
  refine qArr (n := n) (bc := 11) (bs := 843) (pc := 193) (pc2 := 198) (j := 43) (q := 20) (sh := (.inl (.int, 8, []) : sm_Sh)) hx hT hF2 hq2 z2 (by decide) h0 dX12_init_193 (by decide) (fun T I L e h => sm_bipush (v := nI 8) hx dX12_init_194 (by decide) (alI (bc := 11) (bs := 843) (m := 8) hx dX12_init_196 (by decide) e h)) dX12_init_198 ff_X12_75_12 rfl rfl (by decide) (fun I3 L3 fs3 l3 e3 g3 hF3 hq3 z3 => ?_)
  refine qArr (n := n) (bc := 10) (bs := 838) (pc := 201) (pc2 := 205) (j := 45) (q := 21) (sh := (.inl (.int, 5, []) : sm_Sh)) hx hT hF3 hq3 z3 (by decide) h0 dX12_init_201 (by decide) (fun T I L e h => sm_iconst (v := nI 5) hx dX12_init_202 (by decide) (alI (bc := 10) (bs := 838) (m := 5) hx dX12_init_203 (by decide) e h)) dX12_init_205 ff_X12_78_12 rfl rfl (by decide) (fun I4 L4 fs4 l4 e4 g4 hF4 hq4 z4 => ?_)
  refine qArr (n := n) (bc := 9) (bs := 637) (pc := 208) (pc2 := 214) (j := 46) (q := 22) (sh := (.inl (.int, 201, []) : sm_Sh)) hx hT hF4 hq4 z4 (by decide) h0 dX12_init_208 (by decide) (fun T I L e h => sm_sipush (v := nI 201) hx dX12_init_209 (by decide) (alI (bc := 9) (bs := 637) (m := 201) hx dX12_init_212 (by decide) e h)) dX12_init_214 ff_X12_81_12 rfl rfl (by decide) (fun I5 L5 fs5 l5 e5 g5 hF5 hq5 z5 => ?_)
  refine qArr (n := n) (bc := 8) (bs := 617) (pc := 217) (pc2 := 222) (j := 47) (q := 23) (sh := (.inl (.int, 20, []) : sm_Sh)) hx hT hF5 hq5 z5 (by decide) h0 dX12_init_217 (by decide) (fun T I L e h => sm_bipush (v := nI 20) hx dX12_init_218 (by decide) (alI (bc := 8) (bs := 617) (m := 20) hx dX12_init_220 (by decide) e h)) dX12_init_222 ff_X12_84_12 rfl rfl (by decide) (fun I6 L6 fs6 l6 e6 g6 hF6 hq6 z6 => ?_)
  refine qArr (n := n) (bc := 7) (bs := 597) (pc := 225) (pc2 := 230) (j := 48) (q := 24) (sh := (.inl (.int, 20, []) : sm_Sh)) hx hT hF6 hq6 z6 (by decide) h0 dX12_init_225 (by decide) (fun T I L e h => sm_bipush (v := nI 20) hx dX12_init_226 (by decide) (alI (bc := 7) (bs := 597) (m := 20) hx dX12_init_228 (by decide) e h)) dX12_init_230 ff_X12_87_12 rfl rfl (by decide) (fun I7 L7 fs7 l7 e7 g7 hF7 hq7 z7 => ?_)
  refine qArr (n := n) (bc := 6) (bs := 577) (pc := 233) (pc2 := 238) (j := 49) (q := 25) (sh := (.inl (.int, 20, []) : sm_Sh)) hx hT hF7 hq7 z7 (by decide) h0 dX12_init_233 (by decide) (fun T I L e h => sm_bipush (v := nI 20) hx dX12_init_234 (by decide) (alI (bc := 6) (bs := 577) (m := 20) hx dX12_init_236 (by decide) e h)) dX12_init_238 ff_X12_90_12 rfl rfl (by decide) (fun I8 L8 fs8 l8 e8 g8 hF8 hq8 z8 => ?_)
  refine qArr (n := n) (bc := 5) (bs := 557) (pc := 241) (pc2 := 246) (j := 50) (q := 26) (sh := (.inl (.boolean, 20, []) : sm_Sh)) hx hT hF8 hq8 z8 (by decide) h0 dX12_init_241 (by decide) (fun T I L e h => sm_bipush (v := nI 20) hx dX12_init_242 (by decide) (alZ (bc := 5) (bs := 557) (m := 20) hx dX12_init_244 (by decide) e h)) dX12_init_246 ff_X12_93_12 rfl rfl (by decide) (fun I9 L9 fs9 l9 e9 g9 hF9 hq9 z9 => ?_)
  refine kk I9 L9 fs9 l9 ?_ ?_ hF9 hq9 z9
  · subst_vars; rfl
  · subst_vars; simp only [List.append_assoc, List.cons_append, List.nil_append]
set_option maxRecDepth 100000 in
set_option maxHeartbeats 4000000 in
theorem e_X12 (hx : sm_Ok x mX12_init n K) (hT : T0.length = 77) (hF : fs.length = 61) (hq : l.length = 27) (hZ : ZM I0 L0 27 I L) (h0 : ls[0]? = some (some (.ref 76)))
    (kk : ∀ (I' : sm_MI) (L' : sm_ML) (fs' : List Value) (l' : List sm_Sh), fs' = (((((fs.set 52 (.ref 104)).set 53 (.ref 105)).set 54 (.ref 106)).set 55 (.ref 107)).set 56 (.ref 108)) → l' = l ++ [(.inl (.int, 328, []) : sm_Sh), (.inl (.int, 205, []) : sm_Sh), (.inl (.int, 8, []) : sm_Sh), (.inl (.int, 8, []) : sm_Sh), (.inl (.int, 8, []) : sm_Sh)] → fs'.length = 61 → l'.length = 32 → ZM I0 L0 32 I' L' → sm_V x 0 0 (ST T0 76 12 fs' l') I' L' 291 ls []) : sm_V x 5 557 (ST T0 76 12 fs l) I L 249 ls [] := by
  refine qArr (n := n) (bc := 4) (bs := 229) (pc := 249) (pc2 := 255) (j := 52) (q := 27) (sh := (.inl (.int, 328, []) : sm_Sh)) hx hT hF hq hZ (by decide) h0 dX12_init_249 (by decide) (fun T I L e h => sm_sipush (v := nI 328) hx dX12_init_250 (by decide) (alI (bc := 4) (bs := 229) (m := 328) hx dX12_init_253 (by decide) e h)) dX12_init_255 ff_X12_97_12 rfl rfl (by decide) (fun I1 L1 fs1 l1 e1 g1 hF1 hq1 z1 => ?_)
  refine qArr (n := n) (bc := 3) (bs := 24) (pc := 258) (pc2 := 264) (j := 53) (q := 28) (sh := (.inl (.int, 205, []) : sm_Sh)) hx hT hF1 hq1 z1 (by decide) h0 dX12_init_258 (by decide) (fun T I L e h => sm_sipush (v := nI 205) hx dX12_init_259 (by decide) (alI (bc := 3) (bs := 24) (m := 205) hx dX12_init_262 (by decide) e h)) dX12_init_264 ff_X12_100_12 rfl rfl (by decide) (fun I2 L2 fs2 l2 e2 g2 hF2 hq2 z2 => ?_)
  refine qArr (n := n) (bc := 2) (bs := 16) (pc := 267) (pc2 := 272) (j := 54) (q := 29) (sh := (.inl (.int, 8, []) : sm_Sh)) hx hT hF2 hq2 z2 (by decide) h0 dX12_init_267 (by decide) (fun T I L e h => sm_bipush (v := nI 8) hx dX12_init_268 (by decide) (alI (bc := 2) (bs := 16) (m := 8) hx dX12_init_270 (by decide) e h)) dX12_init_272 ff_X12_103_12 rfl rfl (by decide) (fun I3 L3 fs3 l3 e3 g3 hF3 hq3 z3 => ?_)
  refine qArr (n := n) (bc := 1) (bs := 8) (pc := 275) (pc2 := 280) (j := 55) (q := 30) (sh := (.inl (.int, 8, []) : sm_Sh)) hx hT hF3 hq3 z3 (by decide) h0 dX12_init_275 (by decide) (fun T I L e h => sm_bipush (v := nI 8) hx dX12_init_276 (by decide) (alI (bc := 1) (bs := 8) (m := 8) hx dX12_init_278 (by decide) e h)) dX12_init_280 ff_X12_106_12 rfl rfl (by decide) (fun I4 L4 fs4 l4 e4 g4 hF4 hq4 z4 => ?_)
  refine qArr (n := n) (bc := 0) (bs := 0) (pc := 283) (pc2 := 288) (j := 56) (q := 31) (sh := (.inl (.int, 8, []) : sm_Sh)) hx hT hF4 hq4 z4 (by decide) h0 dX12_init_283 (by decide) (fun T I L e h => sm_bipush (v := nI 8) hx dX12_init_284 (by decide) (alI (bc := 0) (bs := 0) (m := 8) hx dX12_init_286 (by decide) e h)) dX12_init_288 ff_X12_109_12 rfl rfl (by decide) (fun I5 L5 fs5 l5 e5 g5 hF5 hq5 z5 => ?_)
  refine kk I5 L5 fs5 l5 ?_ ?_ hF5 hq5 z5
  · subst_vars; rfl
  · subst_vars; simp only [List.append_assoc, List.cons_append, List.nil_append]
end
