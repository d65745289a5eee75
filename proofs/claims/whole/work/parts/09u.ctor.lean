section
variable {x : sm_Cx} {md : sm_MD} {n : Nat} {K : sm_K} {I : sm_MI} {L : sm_ML} {bc bs : Nat} {T : List sm_Sh} {ls : List (Option Value)}
abbrev fD0 : List Value := [.int 0, .int 0, .int 0, .long 0, .null, .null, .null, .null, .null, .int 0, .int 0, .int 0, .int 0, .int 0, .int 0, .int 0, .int 0, .null, .null, .null, .null]
abbrev oDr : List sm_Sh := [.inr (1, [.int 0, .int 0, .int 0, .long 0, .ref 24, .ref 23, .ref 54, .ref 56, .ref 58, .int 0, .int 0, .int 0, .int 0, .int 0, .int 0, .int 0, .int 0, .ref 60, .ref 62, .ref 64, .ref 66]), .inr (3, [.ref 55]), .inl (.int, 5, []), .inr (3, [.ref 57]), .inl (.int, 6, []), .inr (3, [.ref 59]), .inl (.int, 8, []), .inr (3, [.ref 61]), .inl (.int, 6, []), .inr (3, [.ref 63]), .inl (.int, 160, []), .inr (3, [.ref 65]), .inl (.int, 2880, []), .inr (3, [.ref 67]), .inl (.int, 2880, [])]
theorem newD : ∀ j, j < 21 → defaultValue (tyX0 j) = vp_V fD0 j := by
  intro j hj
  have : j = 0 ∨ j = 1 ∨ j = 2 ∨ j = 3 ∨ j = 4 ∨ j = 5 ∨ j = 6 ∨ j = 7 ∨ j = 8 ∨ j = 9 ∨ j = 10 ∨ j = 11 ∨ j = 12 ∨ j = 13 ∨ j = 14 ∨ j = 15 ∨ j = 16 ∨ j = 17 ∨ j = 18 ∨ j = 19 ∨ j = 20 := by omega
  rcases this with r | r | r | r | r | r | r | r | r | r | r | r | r | r | r | r | r | r | r | r | r <;> subst r <;> rfl
/-- a dream on the new cell 53 -/
theorem hc_Dream (e : T.length = 53) (z1 : I T.length = fun _ => 0) (z2 : L T.length = fun _ => 0) : sm_Call (n + 4) 14 5952 mX0_init (T ++ [.inr (1, fD0)]) I L [.ref T.length, .ref 24, .ref 23] (fun v T' I' L' => v = none ∧ T' = T ++ oDr ∧ (∀ j, j < 53 → I' j = I j ∧ L' j = L j) ∧ (I' 53 = fun j => if j = 10 ∨ j = 11 then -1 else 0) ∧ (L' 53 = fun _ => 0) ∧ ∀ j, 54 ≤ j → j < 68 → I' j = (fun _ => 0) ∧ L' j = fun _ => 0) := by
  have h := k_Dream (n := n) (T := T ++ [.inr (1, fD0)]) (k := T.length) (s := 24) (t := 23) (I := I) (L := L) ap_r z1 z2 (by rw [ln1 e]; omega)
  rw [ln1 e] at h
  refine sm_Call.mono h (fun v T' I' L' q => ?_)
  obtain ⟨rfl, rfl, a1, a2⟩ := q
  rw [ln1 e] at a1 a2
  have n14 : ∀ (l : List sm_Sh), l.length = 14 → 53 + 1 + l.length = 68 := fun l h => by omega
  refine ⟨rfl, ?_, fun j hj => ?_, ?_, ?_, fun j h1 h2 => a2 j (by omega) (by show j < 54 + 14; omega)⟩
  · rw [set_last, List.append_assoc]; rfl
  · obtain ⟨b1, b2⟩ := a1 j (by omega)
    refine ⟨?_, b2⟩
    rw [b1, sm_uI_ne (by omega), sm_uI_ne (by omega)]
  · obtain ⟨b1, _⟩ := a1 53 (by omega)
    rw [b1, e]
    funext j
    rw [e] at z1
    by_cases c : j = 11
    · subst c; rw [cuA, if_pos (Or.inr rfl)]
    · by_cases c2 : j = 10
      · subst c2; rw [cuD (by omega), cuA, if_pos (Or.inl rfl)]
      · rw [cuD (by omega), cuD (by omega), if_neg (by omega), z1]
  · obtain ⟨_, b2⟩ := a1 53 (by omega)
    rw [b2, ← e, z2]
end
