section
variable {x : sm_Cx} {n : Nat} {K : sm_K} {bc bs : Nat} {T T0 : List sm_Sh} {I0 I : sm_MI} {L0 L : sm_ML} {fs : List Value}
abbrev fM0 : List Value := [.int 0, .null, .int 0, .int 0, .int 0, .int 0, .null, .null, .null, .null, .null, .null, .null, .int 0, .int 0, .null, .null, .null, .null, .int 0, .int 0, .int 0, .int 0, .int 0, .null, .null, .int 0, .int 0, .int 0, .int 0, .int 0, .null, .null, .int 0, .int 0, .int 0, .long 0, .null, .null, .int 0, .null, .null, .int 0, .null, .int 0, .null, .null, .null, .null, .null, .null, .int 0, .null, .null, .null, .null, .null, .int 0, .int 0, .long 0, .int 0]
abbrev fMf : List Value := [.int 0, .ref 77, .int 0, .int 0, .int 0, .int 0, .ref 78, .ref 79, .ref 80, .ref 81, .ref 82, .ref 83, .ref 84, .int 0, .int 0, .ref 85, .ref 86, .ref 87, .ref 88, .int 0, .int 0, .int 0, .int 0, .int 0, .ref 89, .ref 90, .int 0, .int 0, .int 0, .int 0, .int 0, .ref 91, .ref 92, .int 0, .int 0, .int 0, .long 0, .ref 93, .ref 94, .int 0, .ref 95, .ref 96, .int 0, .ref 97, .int 0, .ref 98, .ref 99, .ref 100, .ref 101, .ref 102, .ref 103, .int 0, .ref 104, .ref 105, .ref 106, .ref 107, .ref 108, .int 0, .int 0, .long 0, .int 0]
abbrev lM : List sm_Sh := [.inl (.int, 160, []), .inl (.int, 2040, []), .inl (.int, 2040, []), .inl (.int, 6, []), .inl (.int, 6, []), .inl (.int, 540, []), .inl (.int, 540, []), .inl (.int, 540, []), .inl (.int, 6, []), .inl (.int, 80, []), .inl (.int, 20, []), .inl (.int, 8, []), .inl (.int, 20, []), .inl (.int, 8, []), .inl (.int, 5, []), .inl (.int, 8, []), .inl (.int, 5, []), .inl (.int, 5, []), .inl (.int, 480, []), .inl (.long, 60, []), .inl (.int, 8, []), .inl (.int, 5, []), .inl (.int, 201, []), .inl (.int, 20, []), .inl (.int, 20, []), .inl (.int, 20, []), .inl (.boolean, 20, []), .inl (.int, 328, []), .inl (.int, 205, []), .inl (.int, 8, []), .inl (.int, 8, []), .inl (.int, 8, [])]
theorem lp_X12 {i : Nat} (hx : sm_Ok x mX12_init n K) (h76 : T[76]? = some (.inr (12, fs))) (hf : fs[31]? = some (.ref 91)) (h91 : T[91]? = some (.inl (.int, 5, []))) (hi : i < 5) (kk : sm_V x bc bs T (sm_uI I 91 i (-1)) L 293 [some (.ref 76), some (.int (nI (i + 1)))] []) : sm_V x bc bs T I L 293 [some (.ref 76), some (.int (nI i))] [] := by
  refine sm_iload_n (z := nI i) hx dX12_init_293 rfl (sm_iconst (v := nI 5) hx dX12_init_294 (by decide) (sm_icmpge (a := nI i) (b := nI 5) hx dX12_init_295 (tgt := 311) (by decide) (fun q => absurd q (nI_ge hi (by decide))) (fun _ => ?_)))
  refine sm_aload_n (z := 76) hx dX12_init_298 rfl (sm_getR hx dX12_init_299 fl_X12_52_12 h76 hf (sm_iload_n (z := nI i) hx dX12_init_302 rfl (sm_iconst (v := -1) hx dX12_init_303 sm_kc_m1 (sm_iast hx dX12_init_304 h91 (vp_in_nI hi (by decide)) ?_))))
  rw [nI_clamp (by omega)]
  exact sm_iinc (z := nI i) (v := nI (i + 1)) hx dX12_init_305 rfl (by rw [show Int32.ofInt 1 = 1 by decide]; exact nI_1 i) (by decide) (ls' := [some (.ref 76), some (.int (nI (i + 1)))]) rfl (sm_goto hx dX12_init_308 (tgt := 293) (by decide) kk)
def kX12 (T0 : List sm_Sh) (I0 : sm_MI) (L0 : sm_ML) : sm_K := fun v T' I' L' => v = none ∧ T' = ST T0 76 12 fMf lM ∧ (∀ j, j < 76 → I' j = I0 j ∧ L' j = L0 j) ∧ (I' 76 = fun j => if j = 39 then -1 else 0) ∧ (L' 76 = fun _ => 0) ∧ (∀ j, 77 ≤ j → j < 109 → j ≠ 91 → j ≠ 93 → I' j = fun _ => 0) ∧ (I' 91 = fun b => if b < 5 then -1 else 0) ∧ (I' 93 = fun b => if b < 5 then -1 else 0) ∧ ∀ j, 77 ≤ j → j < 109 → L' j = fun _ => 0
set_option maxRecDepth 100000 in
set_option maxHeartbeats 4000000 in
theorem k_X12 (hT : T0.length = 77) (h0 : T0[76]? = some (.inr (12, fM0))) (hI : I0 76 = fun _ => 0) (hL : L0 76 = fun _ => 0) : sm_Call (n + 1) 32 7428 mX12_init T0 I0 L0 [.ref 76] (kX12 T0 I0 L0) := by
  refine sm_Call.of (by decide +kernel) rfl (fun x hx => ?_)
  have e0 := ST_0 h0
  suffices h : sm_V x 32 7428 (ST T0 76 12 fM0 []) I0 L0 0 [some (.ref 76), none] [] by rw [← e0] at h; exact h
  refine sm_aload_n (z := 76) hx dX12_init_0 rfl (sm_objInit hx dX12_init_1 oi_X12_3 oi_2 oi_3 rfl ?_)
  refine a_X12 hx hT rfl rfl ⟨fun j _ => ⟨rfl, rfl⟩, fun j h1 h2 => absurd h2 (by omega)⟩ rfl (fun I1 L1 f1 l1 e1 g1 F1 q1 z1 => ?_)
  refine b_X12 hx hT F1 q1 z1 rfl (fun I2 L2 f2 l2 e2 g2 F2 q2 z2 => ?_)
  refine c_X12 hx hT F2 (by rw [e2, e1]; rfl) q2 z2 rfl (fun I3 L3 f3 l3 e3 g3 F3 q3 z3 => ?_)
  refine d_X12 hx hT F3 q3 z3 rfl (fun I4 L4 f4 l4 e4 g4 F4 q4 z4 => ?_)
  refine e_X12 hx hT F4 q4 z4 rfl (fun I5 L5 f5 l5 e5 g5 F5 q5 z5 => ?_)
  have f5e : f5 = fMf := by rw [e5, e4, e3, e2, e1]; rfl
  have l5e : l5 = lM := by rw [g5, g4, g3, g2, g1]; rfl
  rw [f5e, l5e]
  have h76 : (ST T0 76 12 fMf lM)[76]? = some (.inr (12, fMf)) := ST_k (by omega)
  have h91 : (ST T0 76 12 fMf lM)[91]? = some (.inl (.int, 5, [])) := by
    rw [List.getElem?_append_right (by rw [List.length_set]; omega), List.length_set, hT]; rfl
  refine sm_iconst (v := nI 0) hx dX12_init_291 (by decide) (sm_istore_n (ls' := [some (.ref 76), some (.int (nI 0))]) hx dX12_init_292 (by decide) rfl ?_)
  refine lp_X12 hx h76 rfl h91 (i := 0) (by decide) (lp_X12 hx h76 rfl h91 (i := 1) (by decide) (lp_X12 hx h76 rfl h91 (i := 2) (by decide) (lp_X12 hx h76 rfl h91 (i := 3) (by decide) (lp_X12 hx h76 rfl h91 (i := 4) (by decide) ?_))))
  refine sm_iload_n (z := nI 5) hx dX12_init_293 rfl (sm_iconst (v := nI 5) hx dX12_init_294 (by decide) (sm_icmpge (a := nI 5) (b := nI 5) hx dX12_init_295 (tgt := 311) (by decide) (fun _ => ?_) (fun q => absurd (nI_le (Nat.le_refl 5) (by decide)) q)))
  have up : ∀ j, j ≠ 91 → sm_uI (sm_uI (sm_uI (sm_uI (sm_uI I5 91 0 (-1)) 91 1 (-1)) 91 2 (-1)) 91 3 (-1)) 91 4 (-1) j = I5 j := fun j hj => by
    rw [sm_uI_ne hj, sm_uI_ne hj, sm_uI_ne hj, sm_uI_ne hj, sm_uI_ne hj]
  have n5 : I5 91 = fun _ => 0 := (z5.2 91 (by omega) (by omega)).1.trans (gM93_0 (by omega))
  refine sm_vret hx dX12_init_311 rfl ⟨rfl, rfl, fun j hj => ?_, ?_, ?_, fun j h1 h2 h3 h4 => ?_, m1_5 n5, ?_, fun j h1 h2 => (z5.2 j h1 (by omega)).2⟩
  · obtain ⟨b1, b2⟩ := z5.1 j (by omega)
    exact ⟨(up j (by omega)).trans (b1.trans (sm_uI_ne (by omega))), b2⟩
  · rw [up 76 (by omega), (z5.1 76 (by omega)).1]
    funext j
    by_cases c : j = 39
    · subst c; rw [cuA, if_pos rfl]
    · rw [cuD (by omega), if_neg c, hI]
  · exact (z5.1 76 (by omega)).2.trans hL
  · exact (up j h3).trans ((z5.2 j h1 (by omega)).1.trans (gM93_0 h4))
  · exact (up 93 (by omega)).trans ((z5.2 93 (by omega) (by omega)).1.trans gM93_93)
end
section
variable {T : List sm_Sh} {I : sm_MI} {L : sm_ML}
theorem cU_00 : cU 0 0 = fun _ => 0 := by
  funext t
  unfold cU
  rw [if_neg (Nat.not_lt_zero t)]
  by_cases c : t = 0
  · rw [if_pos c]; decide
  · rw [if_neg c]
theorem mU_0 {f : Nat → Int32} : mU 0 f = fun _ => 0 := by
  funext t
  exact if_neg (Nat.not_lt_zero t)
/-- the two new objects answer alike -/
theorem RR_0 (hB : sm_Bs T) (h23 : T[23]? = some (oLst 1000020)) (hI : ∀ k, k < 109 → k ≠ 53 → k ≠ 76 → k ≠ 91 → k ≠ 93 → I k = fun _ => 0) (h76 : I 76 = fun j => if j = 39 then -1 else 0) (h93 : I 93 = fun b => if b < 5 then -1 else 0) (hL : ∀ k, k < 109 → L k = fun _ => 0) : RR (fun _ _ => 0) (fun _ _ => 0) 0 0 0 0 0 0 0 T I L := by
  have z : ∀ k j, k < 109 → k ≠ 53 → k ≠ 76 → k ≠ 91 → k ≠ 93 → I k j = nI 0 := fun k j h1 h2 h3 h4 h5 => by rw [hI k h1 h2 h3 h4 h5, nI_0]
  have y : ∀ j, j ≠ 39 → I 76 j = nI 0 := fun j hj => by rw [h76, nI_0]; exact if_neg hj
  have l : ∀ k j, k < 109 → L k j = 0 := fun k j h => by rw [hL k h]
  have no : ∀ {P : Prop} {w : Nat}, w < 0 → P := fun h => absurd h (Nat.not_lt_zero _)
  have c0 : ∀ k j, k < 109 → k ≠ 53 → k ≠ 76 → k ≠ 91 → k ≠ 93 → cU 0 (I k j) = fun _ => 0 := fun k j h1 h2 h3 h4 h5 => by rw [hI k h1 h2 h3 h4 h5]; exact cU_00
  refine RR_mk hB (by decide) ⟨⟨z 24 0 (by decide) (by decide) (by decide) (by decide) (by decide), z 24 1 (by decide) (by decide) (by decide) (by decide) (by decide), z 24 2 (by decide) (by decide) (by decide) (by decide) (by decide), (z 24 4 (by decide) (by decide) (by decide) (by decide) (by decide)).trans nI_0, (z 24 5 (by decide) (by decide) (by decide) (by decide) (by decide)).trans nI_0⟩, fun w hw => no hw, ⟨y 26 (by decide), y 27 (by decide), y 28 (by decide), (y 29 (by decide)).trans nI_0, (y 30 (by decide)).trans nI_0⟩, fun w hw => no hw, (c0 24 3 (by decide) (by decide) (by decide) (by decide) (by decide)).trans mU_0.symm, fun t ht => no ht⟩
    ⟨Or.inl ⟨rfl, rfl, rfl⟩, by decide, by decide, by decide, by decide, fun w hw => no hw, ⟨0, by decide, nI_0.symm⟩, ⟨0, by decide, nI_0.symm⟩⟩
    ⟨Nat.le_refl 0, by decide, z 35 1 (by decide) (by decide) (by decide) (by decide) (by decide), z 35 2 (by decide) (by decide) (by decide) (by decide) (by decide), y 33 (by decide), (l 35 3 (by decide)).trans (l 76 36 (by decide)).symm, fun t ht => no ht⟩
    ⟨0, by decide, z 1 1 (by decide) (by decide) (by decide) (by decide) (by decide), y 2 (by decide), fun j hj => no hj⟩
    ⟨false, (z 0 7 (by decide) (by decide) (by decide) (by decide) (by decide)).trans nI_0, (y 60 (by decide)).trans nI_0, fun h => nomatch h⟩
    ⟨0, 0, by decide, by decide, by decide, z 37 3 (by decide) (by decide) (by decide) (by decide) (by decide), z 37 4 (by decide) (by decide) (by decide) (by decide) (by decide), y 42 (by decide), fun i hi => no hi⟩
    ⟨0, 0, by decide, by decide, z 44 4 (by decide) (by decide) (by decide) (by decide) (by decide), y 51 (by decide), z 44 5 (by decide) (by decide) (by decide) (by decide) (by decide), fun k hk => no hk⟩
    ⟨0, by decide, z 0 11 (by decide) (by decide) (by decide) (by decide) (by decide), y 35 (by decide)⟩
    ⟨z 23 2 (by decide) (by decide) (by decide) (by decide) (by decide), y 13 (by decide), by rw [h76]; exact if_pos rfl, fun w hw => by rw [h93]; exact if_pos hw⟩
    ((c0 35 0 (by decide) (by decide) (by decide) (by decide) (by decide)).trans mU_0.symm) (y 34 (by decide)) (fun ν w q _ hw => no hw)
    ⟨fun _ _ _ _ => rfl, 1000020, 0, [], h23, fun i hi => no hi⟩ ⟨fun _ _ _ _ => rfl, fun i hi => no hi⟩
end
