/-- the fullest of the first h houses: how many, which -/
def fhM (c : Nat → Nat) : Nat → Nat
  | 0 => c 0
  | h + 1 => if fhM c h < c (h + 1) then c (h + 1) else fhM c h
def fhA (c : Nat → Nat) : Nat → Nat
  | 0 => 0
  | h + 1 => if fhM c h < c (h + 1) then h + 1 else fhA c h
theorem fhA_le (c : Nat → Nat) : ∀ h, fhA c h ≤ h
  | 0 => Nat.le_refl 0
  | h + 1 => by
    have := fhA_le c h
    unfold fhA
    split
    · omega
    · omega
theorem fhM_A (c : Nat → Nat) : ∀ h, fhM c h = c (fhA c h)
  | 0 => rfl
  | h + 1 => by
    have := fhM_A c h
    unfold fhA
    rw [fhM]
    split
    · rfl
    · exact this
section
variable {n : Nat} {T : List sm_Sh} {I I' I1 : sm_MI} {L L' : sm_ML} {A : Nat → Nat → Int32} {H S N R ν lb b ν' lb' b' : Nat} {W : Nat → (Nat → Int32) → Int32} {f u : Nat → Int32}
theorem s_fullestHouse {F : Int32 → sm_MI → sm_ML → Prop} {p : Int32} (hB : sm_Bs T) (hH : I 24 0 = nI H) (hN : I 24 2 = nI N) (h0 : 0 < H) (hH8 : H ≤ 8) (h8 : N ≤ 8) (h : F (nI (fhA (fun hh => thC (cU N p) (nI hh) N) (H - 1))) I L) : sm_CI (n + 2) mX8_fullestHouse T I L [.ref 24, .int p] F := by
  refine c_X8_fullestHouse hB (fun x hx => ?_)
  have hc : ∀ hh, thC (cU N p) (nI hh) N ≤ 8 := fun hh => Nat.le_trans (thC_le _ _ _) h8
  have key : ∀ (c : Nat → Nat), c = (fun hh => thC (cU N p) (nI hh) N) → ∀ d s (mo fu : Int32) (u5 : Option Value), s + d = H → ((s = 0 ∧ mo = -1 ∧ fu = -1) ∨ (0 < s ∧ mo = nI (fhM c (s - 1)) ∧ fu = nI (fhA c (s - 1)))) → sm_V x 0 0 T I L 7 [some (.ref 24), some (.int p), some (.int mo), some (.int fu), some (.int (nI s)), u5] [] := by
    intro c hcc d
    have hcl : ∀ hh, c hh ≤ 8 := fun hh => by rw [hcc]; exact hc hh
    induction d with
    | zero =>
      intro s mo fu u5 e hp
      refine u_X8_fullestHouse_7 hB hx ⟨fun _ => ?_, fun q => absurd (by rw [hH]; exact nI_le (by omega) (by omega)) q⟩
      rcases hp with hp | ⟨_, _, hfu⟩
      · omega
      · rw [hfu, hcc, show s = H by omega]; exact h
    | succ d ih =>
      intro s mo fu u5 e hp
      refine u_X8_fullestHouse_7 hB hx ⟨fun q => absurd q (by rw [hH]; exact nI_ge (by omega) (by omega)), fun _ => s_thingsIn hB hN h8 (s_BC ?_)⟩
      rw [thC_BC h8, nI_1]
      have ec : thC (cU N p) (nI s) N = c s := by rw [hcc]
      rw [ec]
      have hcs := hcl s
      rcases hp with ⟨p1, p2, p3⟩ | ⟨p1, p2, p3⟩
      · subst p1
        rw [p2]
        refine ⟨fun q => absurd q ?_, fun _ => ih 1 _ _ _ (by omega) (Or.inr ⟨by omega, rfl, rfl⟩)⟩
        rw [fa_le, nI_toInt (by omega)]
        have : (-1 : Int32).toInt = -1 := by decide
        omega
      · have hml : fhM c (s - 1) ≤ 8 := by rw [fhM_A]; exact hcl _
        rw [p2, nI_leI (by omega) (by omega)]
        obtain ⟨s1, rfl⟩ : ∃ s1, s = s1 + 1 := ⟨s - 1, by omega⟩
        have em : fhM c (s1 + 1) = if fhM c s1 < c (s1 + 1) then c (s1 + 1) else fhM c s1 := rfl
        have ea : fhA c (s1 + 1) = if fhM c s1 < c (s1 + 1) then s1 + 1 else fhA c s1 := rfl
        rw [Nat.add_sub_cancel] at p2 p3 ⊢
        refine ⟨fun q => ih (s1 + 1 + 1) _ _ _ (by omega) (Or.inr ⟨by omega, ?_, ?_⟩), fun q => ih (s1 + 1 + 1) _ _ _ (by omega) (Or.inr ⟨by omega, ?_, ?_⟩)⟩
        · rw [Nat.add_sub_cancel, em, if_neg (by omega)]
        · rw [p3, Nat.add_sub_cancel, ea, if_neg (by omega)]
        · rw [Nat.add_sub_cancel, em, if_pos (by omega)]
        · rw [Nat.add_sub_cancel, ea, if_pos (by omega)]
  exact key _ rfl H 0 (-1) (-1) none (by omega) (Or.inl ⟨rfl, rfl, rfl⟩)
end
