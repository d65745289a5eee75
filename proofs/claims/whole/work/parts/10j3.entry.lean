section
variable {args : Array Value} {s : State} {A : Nat → Prop}
theorem law_XF (hts : ∀ w ∈ lw_tbl, w.before args s = true) (hgv : (Jvm.Cond.and given_1 narrow_1).before args s = true) (hA : ∀ a : Nat, a < s.heap.size → ¬ A a) (b : Nat) : ∃ σ : Nat → Nat, σ 1000030 = b ∧ sm_XF A σ s s.heap := by
  have hs := flat_of_before _ hgv
  have hel : ∀ i : Nat, i < 4 → ∀ j : Nat, j < [4, 1, 2, 6].getD i 0 → (Cond.eq (.elem (vT i) (.int (Int32.ofNat j))) (.int ((([[97, 115, 107, 101], [97], [112, 103], [110, 104, 115, 113, 109, 119]] : List (List Int32)).getD i []).getD j 0))).before args s = true := by
    intro i hi j hj
    match i, hi with
    | 0, _ =>
      match j, hj with
      | 0, _ => exact hs _ (by decide +kernel)
      | 1, _ => exact hs _ (by decide +kernel)
      | 2, _ => exact hs _ (by decide +kernel)
      | 3, _ => exact hs _ (by decide +kernel)
      | j + 4, h => exact absurd h (Nat.not_lt.mpr (Nat.le_add_left 4 j))
    | 1, _ =>
      match j, hj with
      | 0, _ => exact hs _ (by decide +kernel)
      | j + 1, h => exact absurd h (Nat.not_lt.mpr (Nat.le_add_left 1 j))
    | 2, _ =>
      match j, hj with
      | 0, _ => exact hs _ (by decide +kernel)
      | 1, _ => exact hs _ (by decide +kernel)
      | j + 2, h => exact absurd h (Nat.not_lt.mpr (Nat.le_add_left 2 j))
    | 3, _ =>
      match j, hj with
      | 0, _ => exact hs _ (by decide +kernel)
      | 1, _ => exact hs _ (by decide +kernel)
      | 2, _ => exact hs _ (by decide +kernel)
      | 3, _ => exact hs _ (by decide +kernel)
      | 4, _ => exact hs _ (by decide +kernel)
      | 5, _ => exact hs _ (by decide +kernel)
      | j + 6, h => exact absurd h (Nat.not_lt.mpr (Nat.le_add_left 6 j))
    | i + 4, h => exact absurd h (Nat.not_lt.mpr (Nat.le_add_left 4 i))
  have hne : ∀ i j : Nat, i < 4 → j < 4 → i ≠ j → (Cond.not (Cond.eq (tmS i) (tmS j))).before args s = true ∨ (Cond.not (Cond.eq (tmS j) (tmS i))).before args s = true := by
    have key : ∀ i : Nat, i < 4 → ∀ j : Nat, j < 4 → i ≠ j → (Cond.not (Cond.eq (tmS i) (tmS j))).before args s = true ∨ (Cond.not (Cond.eq (tmS j) (tmS i))).before args s = true := by
     refine f4 (P := fun i => ∀ j : Nat, j < 4 → i ≠ j → (Cond.not (Cond.eq (tmS i) (tmS j))).before args s = true ∨ (Cond.not (Cond.eq (tmS j) (tmS i))).before args s = true) ?_ ?_ ?_ ?_
     · exact f4 (P := fun j => 0 ≠ j → (Cond.not (Cond.eq (tmS 0) (tmS j))).before args s = true ∨ (Cond.not (Cond.eq (tmS j) (tmS 0))).before args s = true) (fun h => absurd rfl h) (fun _ => Or.inl (hs (Cond.not (Cond.eq (tmS 0) (tmS 1))) (by decide +kernel))) (fun _ => Or.inl (hs (Cond.not (Cond.eq (tmS 0) (tmS 2))) (by decide +kernel))) (fun _ => Or.inl (hs (Cond.not (Cond.eq (tmS 0) (tmS 3))) (by decide +kernel)))
     · exact f4 (P := fun j => 1 ≠ j → (Cond.not (Cond.eq (tmS 1) (tmS j))).before args s = true ∨ (Cond.not (Cond.eq (tmS j) (tmS 1))).before args s = true) (fun _ => Or.inr (hs (Cond.not (Cond.eq (tmS 0) (tmS 1))) (by decide +kernel))) (fun h => absurd rfl h) (fun _ => Or.inl (hs (Cond.not (Cond.eq (tmS 1) (tmS 2))) (by decide +kernel))) (fun _ => Or.inr (hs (Cond.not (Cond.eq (tmS 3) (tmS 1))) (by decide +kernel)))
     · exact f4 (P := fun j => 2 ≠ j → (Cond.not (Cond.eq (tmS 2) (tmS j))).before args s = true ∨ (Cond.not (Cond.eq (tmS j) (tmS 2))).before args s = true) (fun _ => Or.inr (hs (Cond.not (Cond.eq (tmS 0) (tmS 2))) (by decide +kernel))) (fun _ => Or.inr (hs (Cond.not (Cond.eq (tmS 1) (tmS 2))) (by decide +kernel))) (fun h => absurd rfl h) (fun _ => Or.inr (hs (Cond.not (Cond.eq (tmS 3) (tmS 2))) (by decide +kernel)))
     · exact f4 (P := fun j => 3 ≠ j → (Cond.not (Cond.eq (tmS 3) (tmS j))).before args s = true ∨ (Cond.not (Cond.eq (tmS j) (tmS 3))).before args s = true) (fun _ => Or.inr (hs (Cond.not (Cond.eq (tmS 0) (tmS 3))) (by decide +kernel))) (fun _ => Or.inl (hs (Cond.not (Cond.eq (tmS 3) (tmS 1))) (by decide +kernel))) (fun _ => Or.inl (hs (Cond.not (Cond.eq (tmS 3) (tmS 2))) (by decide +kernel))) (fun h => absurd rfl h)
    exact fun i j hi hj => key i hi j hj
  have hex : ∀ i : Nat, i < 4 → (Cond.exactly (tmS i) "java/lang/String").before args s = true := f4 (P := fun i => (Cond.exactly (tmS i) "java/lang/String").before args s = true) (hs (Cond.exactly (tmS 0) "java/lang/String") (by decide +kernel)) (hs (Cond.exactly (tmS 1) "java/lang/String") (by decide +kernel)) (hs (Cond.exactly (tmS 2) "java/lang/String") (by decide +kernel)) (hs (Cond.exactly (tmS 3) "java/lang/String") (by decide +kernel))
  have hco : ∀ i : Nat, i < 4 → (Cond.eq (.field (tmS i) "java/lang/String" "coder" "B") (.int 0)).before args s = true := f4 (P := fun i => (Cond.eq (.field (tmS i) "java/lang/String" "coder" "B") (.int 0)).before args s = true) (hs (Cond.eq (.field (tmS 0) "java/lang/String" "coder" "B") (.int 0)) (by decide +kernel)) (hs (Cond.eq (.field (tmS 1) "java/lang/String" "coder" "B") (.int 0)) (by decide +kernel)) (hs (Cond.eq (.field (tmS 2) "java/lang/String" "coder" "B") (.int 0)) (by decide +kernel)) (hs (Cond.eq (.field (tmS 3) "java/lang/String" "coder" "B") (.int 0)) (by decide +kernel))
  have har : ∀ i : Nat, i < 4 → (Cond.arrayOf (vT i) .byte).before args s = true := f4 (P := fun i => (Cond.arrayOf (vT i) .byte).before args s = true) (hs (Cond.arrayOf (vT 0) .byte) (by decide +kernel)) (hs (Cond.arrayOf (vT 1) .byte) (by decide +kernel)) (hs (Cond.arrayOf (vT 2) .byte) (by decide +kernel)) (hs (Cond.arrayOf (vT 3) .byte) (by decide +kernel))
  have hle : ∀ i : Nat, i < 4 → (Cond.eq (.length (vT i)) (.int (Int32.ofNat ([4, 1, 2, 6].getD i 0)))).before args s = true := f4 (P := fun i => (Cond.eq (.length (vT i)) (.int (Int32.ofNat ([4, 1, 2, 6].getD i 0)))).before args s = true) (hs (Cond.eq (.length (vT 0)) (.int (Int32.ofNat ([4, 1, 2, 6].getD 0 0)))) (by decide +kernel)) (hs (Cond.eq (.length (vT 1)) (.int (Int32.ofNat ([4, 1, 2, 6].getD 1 0)))) (by decide +kernel)) (hs (Cond.eq (.length (vT 2)) (.int (Int32.ofNat ([4, 1, 2, 6].getD 2 0)))) (by decide +kernel)) (hs (Cond.eq (.length (vT 3)) (.int (Int32.ofNat ([4, 1, 2, 6].getD 3 0)))) (by decide +kernel))
  obtain ⟨adK, adV, hV, hev⟩ := vk_Sof (args := args) (s := s) (N := 4) (tm := tmS) (len := [4, 1, 2, 6]) (byt := [[97, 115, 107, 101], [97], [112, 103], [110, 104, 115, 113, 109, 119]]) (A := A)
    (f4 (P := fun i => [4, 1, 2, 6].getD i 0 < 2 ^ 31) (by decide) (by decide) (by decide) (by decide)) hex hco har hle hel hne hA
  obtain ⟨tE, hE1, hE2⟩ := va_Tof (args := args) (s := s) (tm := tDE) (ty := .object "java/lang/Object") (N := 0) (f := fun _ => .null) (A := A) (by decide) (hs _ (by decide +kernel)) (va_eqt (hs (Cond.eq (.length tDE) (.int 0)) (by decide +kernel))) (fun j hj => absurd hj (Nat.not_lt_zero _)) hA
  have hy2 := law_eqR (hs (Cond.eq (.string RX0 53) (.string RX5 92)) (by decide +kernel)) (hev 3 (by decide))
  let σ : Nat → Nat := fun k => if k = 1000030 then b else if k = 1000020 then tE else if 1000010 ≤ k then adV (k - 1000010) else adK (k - 1000000)
  have eK : ∀ i, i < 4 → σ (1000000 + i) = adK i := by
    intro i hi
    show (if 1000000 + i = 1000030 then b else if 1000000 + i = 1000020 then tE else if 1000010 ≤ 1000000 + i then adV (1000000 + i - 1000010) else adK (1000000 + i - 1000000)) = adK i
    rw [if_neg (by omega), if_neg (by omega), if_neg (by omega), show 1000000 + i - 1000000 = i by omega]
  have eV : ∀ i, i < 4 → σ (1000010 + i) = adV i := by
    intro i hi
    show (if 1000010 + i = 1000030 then b else if 1000010 + i = 1000020 then tE else if 1000010 ≤ 1000010 + i then adV (1000010 + i - 1000010) else adK (1000010 + i - 1000000)) = adV i
    rw [if_neg (by omega), if_neg (by omega), if_pos (by omega), show 1000010 + i - 1000010 = i by omega]
  have e0 : σ 1000000 = adK 0 := eK 0 (by decide)
  have e1 : σ 1000001 = adK 1 := eK 1 (by decide)
  have e2 : σ 1000002 = adK 2 := eK 2 (by decide)
  have e3 : σ 1000003 = adK 3 := eK 3 (by decide)
  have e20 : σ 1000020 = tE := rfl
  refine ⟨σ, rfl, ⟨fun i hi => ?_, fun i j hi hj e => hV.2 i j hi hj (by rw [← eK i hi, ← eK j hj]; exact e)⟩, ⟨?_, ?_, ?_, ?_, ?_⟩, ?_, ?_, ?_⟩
  · have h := hV.1 i hi
    rw [← eK i hi, ← eV i hi] at h
    exact h
  · rw [e0]; exact vk_R.of (hts _ (sm_t1 142 (by decide +kernel))) (hev 0 (by decide))
  · rw [e1]; exact vk_R.of (hts _ (sm_t3 138 (by decide +kernel))) (hev 1 (by decide))
  · rw [e2]; exact vk_R.of (hts _ (sm_t3 146 (by decide +kernel))) (hev 2 (by decide))
  · rw [e3]; exact vk_R.of (hts _ (sm_t2 79 (by decide +kernel))) (hev 3 (by decide))
  · rw [e3]; exact vk_R.of (hts _ (sm_t3 201 (by decide +kernel))) hy2
  · exact va_Zof (hts _ (sm_t1 152 (by decide +kernel))) (hts _ (sm_t1 8 (by decide +kernel))) (va_eqt (hs (Cond.eq (.static "java/lang/String" "COMPACT_STRINGS" "Z") (.int 1)) (by decide +kernel))) hA
  · rw [e20]; exact va_Zref (hts _ (sm_t1 205 (by decide +kernel))) (hts _ (sm_t1 12 (by decide +kernel))) hE1 hA
  · rw [e20]; exact hE2
end
