/-! ===== constructors: the tools ===== -/
/-- what a constructor leaves of the cell k: its fields, new cells, all numbers nought -/
def kCt (T : List sm_Sh) (I : sm_MI) (L : sm_ML) (k : Nat) (fin : sm_Sh) (nw : List sm_Sh) : sm_K := fun v T' I' L' => v = none ∧ T' = T.set k fin ++ nw ∧ (∀ j, j < T.length → I' j = I j ∧ L' j = L j) ∧ ∀ j, T.length ≤ j → j < T.length + nw.length → I' j = (fun _ => 0) ∧ L' j = fun _ => 0
theorem set_app {T l : List sm_Sh} {k : Nat} {c : sm_Sh} (h : k < T.length) : (T ++ l).set k c = T.set k c ++ l := List.set_append_left _ _ h
theorem set_last {T : List sm_Sh} {d c : sm_Sh} : (T ++ [d]).set T.length c = T ++ [c] := by
  rw [List.set_append_right _ _ (Nat.le_refl _), Nat.sub_self]; rfl
section
variable {x : sm_Cx} {md : sm_MD} {n : Nat} {K : sm_K} {bc bs : Nat} {T : List sm_Sh} {I : sm_MI} {L : sm_ML} {pc pc5 : Nat} {ls : List (Option Value)} {st : List Value}
set_option maxRecDepth 100000 in
theorem k_RowC {k m : Nat} (hk : T[k]? = some (.inr (3, [.null]))) (hm : m ≤ 3000) (hl : T.length + 1 < 1000000) : sm_Call (n + 1) 1 m mX3_init T I L [.ref k, .int (nI m)] (kCt T I L k (.inr (3, [.ref T.length])) [.inl (.int, m, [])]) := by
  have hkl := lt_of hk
  have hz : ¬ nI m < 0 := nI_pos (by omega)
  refine sm_Call.of (by decide +kernel) rfl (fun x hx => ?_)
  show sm_V x 1 m T I L 0 [some (.ref k), some (.int (nI m))] []
  refine sm_aload_n (z := k) hx dX3_init_0 rfl (sm_objInit hx dX3_init_1 oi_X3_1 oi_2 oi_3 rfl (sm_aload_n (z := k) hx dX3_init_4 rfl (sm_iload_n (z := nI m) hx dX3_init_5 rfl (sm_iconst (v := 0) hx dX3_init_6 sm_kc_0 (sm_mmax hx dX3_init_7 ml_X3_7 mm_max1 mm_2 mm_max3 rfl ?_)))))
  rw [if_neg hz]
  refine sm_newaI (m := m) hx dX3_init_10 aq_int hz (nI_clamp (by omega)) (by omega) hl (Nat.le_refl _) (Nat.le_refl _) ?_
  have hk' : (T ++ [.inl (.int, m, [])])[k]? = some (.inr (3, [.null])) := (ap_l hkl).trans hk
  refine sm_putFR hx dX3_init_12 ff_X3_13_3 rfl rfl hk' (by decide) (sm_vret hx dX3_init_15 rfl ⟨rfl, set_app hkl, fun j hj => ⟨sm_zI_ne (by omega), sm_zL_ne (by omega)⟩, fun j h1 h2 => ?_⟩)
  have : j = T.length := by
    have : [(.inl (.int, m, []) : sm_Sh)].length = 1 := rfl
    omega
  subst this
  exact ⟨sm_zI_at _ _, sm_zL_at _ _⟩
/-- a new Row of m noughts, its reference on the stack -/
theorem nRow {m i1 i2 : Nat} (hx : sm_Ok x md (n + 2) K) (dn : decode md.2.1 pc = .ok (.new i1, 3)) (kc : Cond.classLink md.1.cls i1 RX3 ∈ lw_tbl) (dd : decode md.2.1 (pc + 3) = .ok (.dup, 1)) (push : ∀ (bc bs : Nat) (T : List sm_Sh) (I : sm_MI) (L : sm_ML) (st : List Value), sm_V x bc bs T I L pc5 ls (.int (nI m) :: st) → sm_V x bc bs T I L (pc + 4) ls st) (di : decode md.2.1 pc5 = .ok (.invokespecial i2, 3)) (li : sm_LI md.1.cls i2 mX3_init 1) (hm : m ≤ 3000) (hl : T.length + 2 < 1000000) (hb : 2 ≤ bc) (hs : m + 1 ≤ bs) (hcat : Nat.ble (((.ref T.length :: st : List Value).map fun v => v.category).sum) 8 = true)
    (kk : ∀ I' L', (∀ j, j < T.length → I' j = I j ∧ L' j = L j) → (∀ j, T.length ≤ j → j < T.length + 2 → I' j = (fun _ => 0) ∧ L' j = fun _ => 0) → sm_V x (bc - 2) (bs - (m + 1)) (T ++ [.inr (3, [.ref (T.length + 1)]), .inl (.int, m, [])]) I' L' (pc5 + 3) ls (.ref T.length :: st)) : sm_V x bc bs T I L pc ls st := by
  refine sm_new (ci := 3) (N := 1) (C := RX3) (Tt := TX3) (ty := tyX3) (fs := [.null]) hx dn cf_X3 kc in_X3 ic_X3 new3 rfl (by omega) (by omega) (by omega) ?_
  refine sm_dup hx dd rfl (push _ _ _ _ _ _ ?_)
  have l1 : (T ++ [(.inr (3, [.null]) : sm_Sh)]).length = T.length + 1 := by rw [List.length_append]; rfl
  refine sm_callI (args := [.int (nI m)]) (k := T.length) (bc' := 1) (bs' := m) hx di li rfl rfl hcat (by omega) (by omega) (k_RowC (n := n) (k := T.length) ap_r hm (by omega)) (fun v T2 I2 L2 q => ?_)
  obtain ⟨rfl, rfl, a1, a2⟩ := q
  rw [l1] at a1 a2 ⊢
  rw [set_last, List.append_assoc]
  have e1 : bc - 1 - 1 = bc - 2 := by omega
  have e2 : bs - 1 - m = bs - (m + 1) := by omega
  rw [e1, e2]
  refine kk I2 L2 (fun j hj => ?_) (fun j h1 h2 => ?_)
  · obtain ⟨b1, b2⟩ := a1 j (by omega)
    exact ⟨b1.trans (sm_zI_ne (by omega)), b2.trans (sm_zL_ne (by omega))⟩
  · rcases Nat.eq_or_lt_of_le h1 with e | e
    · subst e
      obtain ⟨b1, b2⟩ := a1 T.length (by omega)
      exact ⟨b1.trans (sm_zI_at _ _), b2.trans (sm_zL_at _ _)⟩
    · have h3 : [(.inl (.int, m, []) : sm_Sh)].length = 1 := rfl
      exact a2 j (by omega) (by rw [h3]; omega)
end
