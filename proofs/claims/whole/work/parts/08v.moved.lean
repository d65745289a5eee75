/-! ===== a new street moves in ===== -/
def kMv (k j : Nat) : Bool := Nat.beq k 24 || Nat.beq k 26 || Nat.beq k 28 || Nat.beq k 30 || Nat.beq k 32 || Nat.beq k 34 || (Nat.beq k 35 && Nat.ble j 2) || (Nat.beq k 0 && Nat.beq j 7) || (Nat.beq k 37 && Nat.beq j 4) || (Nat.beq k 44 && (Nat.beq j 4 || Nat.beq j 5))
def kMt (k j : Nat) : Bool := (Nat.beq k 76 && ((Nat.ble 26 j && Nat.ble j 30) || Nat.beq j 33 || Nat.beq j 34 || Nat.beq j 42 || Nat.beq j 51 || Nat.beq j 60)) || Nat.beq k 89 || Nat.beq k 90 || Nat.beq k 91 || Nat.beq k 92
section
variable {n : Nat} {T : List sm_Sh} {I I' : sm_MI} {L L' : sm_ML}
theorem cfA {I : sm_MI} {k m b : Nat} {f : Nat → Int32} (h : b < m) : sm_fill I k m f k b = f b := by unfold sm_fill; rw [if_pos rfl, if_pos h]
theorem cfN {I : sm_MI} {k m a b : Nat} {f : Nat → Int32} (h : a ≠ k) : sm_fill I k m f a b = I a b := by unfold sm_fill; rw [if_neg h]
theorem s_moveInto {F : sm_MI → sm_ML → Prop} (hB : sm_Bs T) (hF : ∀ J : sm_MI, Fr kMv I J → (J 24 0 = I 5 0 ∧ J 24 1 = I 5 1 ∧ J 24 2 = I 5 2 ∧ J 24 3 = I 5 3 ∧ J 24 4 = I 5 4 ∧ J 24 5 = I 5 5) → (∀ w, w < 5 → J 26 w = I 7 w ∧ J 28 w = I 9 w ∧ J 30 w = I 11 w ∧ J 32 w = I 13 w ∧ J 34 w = I 15 w) → (J 35 0 = I 5 3 ∧ J 35 1 = 0 ∧ J 35 2 = 0 ∧ J 0 7 = sm_z false ∧ J 37 4 = 0 ∧ J 44 4 = 0 ∧ J 44 5 = 0) → F J L) : sm_CV (n + 4) mX11_moveInto T I L [.ref 0, .ref 5] F := by
  refine c_X11_moveInto hB (c_X8_copy hB (fun I1 h1 I2 h2 I3 h3 I4 h4 I5 h5 => ?_))
  have e5 : I5 = sm_uI (sm_uI (sm_uI (sm_uI (sm_uI I 24 0 (I 5 0)) 24 1 (I 5 1)) 24 2 (I 5 2)) 24 3 (I 5 3)) 24 4 (I 5 4) := by
    subst h1; subst h2; subst h3; subst h4
    rw [h5, cuD (by omega), cuD (by omega), cuD (by omega), cuD (by omega), cuD (by omega), cuD (by omega), cuD (by omega), cuD (by omega), cuD (by omega), cuD (by omega)]
  refine s_copy (t_25 hB) (t_26 hB) (t_6 hB) (t_7 hB) (by decide) (Nat.le_refl _) (by decide) ?_
  refine s_copy (t_27 hB) (t_28 hB) (t_8 hB) (t_9 hB) (by decide) (Nat.le_refl _) (by decide) ?_
  refine s_copy (t_29 hB) (t_30 hB) (t_10 hB) (t_11 hB) (by decide) (Nat.le_refl _) (by decide) ?_
  refine s_copy (t_31 hB) (t_32 hB) (t_12 hB) (t_13 hB) (by decide) (Nat.le_refl _) (by decide) ?_
  refine s_copy (t_33 hB) (t_34 hB) (t_14 hB) (t_15 hB) (by decide) (Nat.le_refl _) (by decide) ?_
  refine c_X1_forget hB (c_X6_forget hB ?_)
  -- each row copied from the draft
  have r7 : (sm_uI I5 24 5 (I5 5 5)) 7 = I 7 := by funext b; rw [cuD (by omega), e5, cuD (by omega), cuD (by omega), cuD (by omega), cuD (by omega), cuD (by omega)]
  have d5 : I5 5 5 = I 5 5 := by rw [e5, cuD (by omega), cuD (by omega), cuD (by omega), cuD (by omega), cuD (by omega)]
  rw [r7, d5]
  have ne : ∀ (K : sm_MI) (k m a : Nat) (f : Nat → Int32), a ≠ k → sm_fill K k m f a = K a := fun K k m a f h => funext (fun b => cfN h)
  have nu : ∀ (K : sm_MI) (k i a : Nat) (v : Int32), a ≠ k → sm_uI K k i v a = K a := fun K k i a v h => sm_uI_ne h
  have base : ∀ a, a ≠ 24 → I5 a = I a := fun a h => by rw [e5, nu _ _ _ _ _ h, nu _ _ _ _ _ h, nu _ _ _ _ _ h, nu _ _ _ _ _ h, nu _ _ _ _ _ h]
  have r9 : (sm_fill (sm_uI I5 24 5 (I 5 5)) 26 5 (I 7)) 9 = I 9 := by rw [ne _ _ _ _ _ (by decide), nu _ _ _ _ _ (by decide), base 9 (by decide)]
  rw [r9]
  have r11 : (sm_fill (sm_fill (sm_uI I5 24 5 (I 5 5)) 26 5 (I 7)) 28 5 (I 9)) 11 = I 11 := by rw [ne _ _ _ _ _ (by decide), ne _ _ _ _ _ (by decide), nu _ _ _ _ _ (by decide), base 11 (by decide)]
  rw [r11]
  have r13 : (sm_fill (sm_fill (sm_fill (sm_uI I5 24 5 (I 5 5)) 26 5 (I 7)) 28 5 (I 9)) 30 5 (I 11)) 13 = I 13 := by rw [ne _ _ _ _ _ (by decide), ne _ _ _ _ _ (by decide), ne _ _ _ _ _ (by decide), nu _ _ _ _ _ (by decide), base 13 (by decide)]
  rw [r13]
  have r15 : (sm_fill (sm_fill (sm_fill (sm_fill (sm_uI I5 24 5 (I 5 5)) 26 5 (I 7)) 28 5 (I 9)) 30 5 (I 11)) 32 5 (I 13)) 15 = I 15 := by rw [ne _ _ _ _ _ (by decide), ne _ _ _ _ _ (by decide), ne _ _ _ _ _ (by decide), ne _ _ _ _ _ (by decide), nu _ _ _ _ _ (by decide), base 15 (by decide)]
  rw [r15]
  have r24 : ∀ j, (sm_fill (sm_fill (sm_fill (sm_fill (sm_fill (sm_uI I5 24 5 (I 5 5)) 26 5 (I 7)) 28 5 (I 9)) 30 5 (I 11)) 32 5 (I 13)) 34 5 (I 15)) 24 j = (sm_uI I5 24 5 (I 5 5)) 24 j := fun j => by rw [ne _ _ _ _ _ (by decide), ne _ _ _ _ _ (by decide), ne _ _ _ _ _ (by decide), ne _ _ _ _ _ (by decide), ne _ _ _ _ _ (by decide)]
  have f5 : Fr kMv I (sm_fill (sm_fill (sm_fill (sm_fill (sm_fill (sm_uI I5 24 5 (I 5 5)) 26 5 (I 7)) 28 5 (I 9)) 30 5 (I 11)) 32 5 (I 13)) 34 5 (I 15)) := by
    rw [e5]
    exact ((((((((((Fr.rf.u rfl).u rfl).u rfl).u rfl).u rfl).u rfl).f (fun _ => rfl)).f (fun _ => rfl)).f (fun _ => rfl)).f (fun _ => rfl)).f (fun _ => rfl)
  have r26 : ∀ w, w < 5 → (sm_fill (sm_fill (sm_fill (sm_fill (sm_fill (sm_uI I5 24 5 (I 5 5)) 26 5 (I 7)) 28 5 (I 9)) 30 5 (I 11)) 32 5 (I 13)) 34 5 (I 15)) 26 w = I 7 w ∧ (sm_fill (sm_fill (sm_fill (sm_fill (sm_fill (sm_uI I5 24 5 (I 5 5)) 26 5 (I 7)) 28 5 (I 9)) 30 5 (I 11)) 32 5 (I 13)) 34 5 (I 15)) 28 w = I 9 w ∧ (sm_fill (sm_fill (sm_fill (sm_fill (sm_fill (sm_uI I5 24 5 (I 5 5)) 26 5 (I 7)) 28 5 (I 9)) 30 5 (I 11)) 32 5 (I 13)) 34 5 (I 15)) 30 w = I 11 w ∧ (sm_fill (sm_fill (sm_fill (sm_fill (sm_fill (sm_uI I5 24 5 (I 5 5)) 26 5 (I 7)) 28 5 (I 9)) 30 5 (I 11)) 32 5 (I 13)) 34 5 (I 15)) 32 w = I 13 w ∧ (sm_fill (sm_fill (sm_fill (sm_fill (sm_fill (sm_uI I5 24 5 (I 5 5)) 26 5 (I 7)) 28 5 (I 9)) 30 5 (I 11)) 32 5 (I 13)) 34 5 (I 15)) 34 w = I 15 w := by
    intro w hw
    refine ⟨?_, ?_, ?_, ?_, ?_⟩
    · rw [cfN (by decide), cfN (by decide), cfN (by decide), cfN (by decide), cfA hw]
    · rw [cfN (by decide), cfN (by decide), cfN (by decide), cfA hw]
    · rw [cfN (by decide), cfN (by decide), cfA hw]
    · rw [cfN (by decide), cfA hw]
    · rw [cfA hw]
  generalize (sm_fill (sm_fill (sm_fill (sm_fill (sm_fill (sm_uI I5 24 5 (I 5 5)) 26 5 (I 7)) 28 5 (I 9)) 30 5 (I 11)) 32 5 (I 13)) 34 5 (I 15)) = J at r24 f5 r26 ⊢
  have k0 : J 24 0 = I 5 0 := by rw [r24, cuD (by omega), e5, cuD (by omega), cuD (by omega), cuD (by omega), cuD (by omega), cuA]
  have k1 : J 24 1 = I 5 1 := by rw [r24, cuD (by omega), e5, cuD (by omega), cuD (by omega), cuD (by omega), cuA]
  have k2 : J 24 2 = I 5 2 := by rw [r24, cuD (by omega), e5, cuD (by omega), cuD (by omega), cuA]
  have k3 : J 24 3 = I 5 3 := by rw [r24, cuD (by omega), e5, cuD (by omega), cuA]
  have k4 : J 24 4 = I 5 4 := by rw [r24, cuD (by omega), e5, cuA]
  have k5 : J 24 5 = I 5 5 := by rw [r24, cuA]
  have nn : ∀ a b, a ≠ 35 → a ≠ 0 → a ≠ 37 → a ≠ 44 → (sm_uI (sm_uI (sm_uI (sm_uI (sm_uI (sm_uI (sm_uI J 35 0 (J 24 3)) 35 1 0) 35 2 0) 0 7 (sm_z false)) 37 4 0) 44 4 0) 44 5 0) a b = J a b := fun a b h1 h2 h3 h4 => by
    rw [cuD (by omega), cuD (by omega), cuD (by omega), cuD (by omega), cuD (by omega), cuD (by omega), cuD (by omega)]
  refine hF _ (((((((f5.u rfl).u rfl).u rfl).u rfl).u rfl).u rfl).u rfl) ⟨?_, ?_, ?_, ?_, ?_, ?_⟩ (fun w hw => ?_) ⟨?_, rfl, rfl, rfl, rfl, rfl, rfl⟩
  · rw [nn _ _ (by decide) (by decide) (by decide) (by decide)]; exact k0
  · rw [nn _ _ (by decide) (by decide) (by decide) (by decide)]; exact k1
  · rw [nn _ _ (by decide) (by decide) (by decide) (by decide)]; exact k2
  · rw [nn _ _ (by decide) (by decide) (by decide) (by decide)]; exact k3
  · rw [nn _ _ (by decide) (by decide) (by decide) (by decide)]; exact k4
  · rw [nn _ _ (by decide) (by decide) (by decide) (by decide)]; exact k5
  · rw [nn _ _ (by decide) (by decide) (by decide) (by decide), nn _ _ (by decide) (by decide) (by decide) (by decide), nn _ _ (by decide) (by decide) (by decide) (by decide), nn _ _ (by decide) (by decide) (by decide) (by decide), nn _ _ (by decide) (by decide) (by decide) (by decide)]
    exact r26 w hw
  · rw [cuD (by omega), cuD (by omega), cuD (by omega), cuD (by omega), cuD (by omega), cuD (by omega), cuA]; exact k3
theorem n_takeStreet {F : Int32 → sm_MI → sm_ML → Prop} (hB : sm_Bs T) (hF : ∀ J : sm_MI, Fr kMt I J → (J 76 26 = I 76 19 ∧ J 76 27 = I 76 20 ∧ J 76 28 = I 76 21 ∧ J 76 29 = I 76 22 ∧ J 76 30 = I 76 23) → (∀ j, j < 20 → J 89 j = I 87 j) → (∀ t, t < 8 → J 90 t = I 88 t ∧ J 92 t = I 88 t) → (∀ w, w < 5 → J 91 w = -1) → (J 76 33 = 0 ∧ J 76 34 = 0 ∧ J 76 42 = 0 ∧ J 76 51 = 0 ∧ J 76 60 = sm_z false) → F (J 76 27) J L) : sm_CI n mX12_takeStreet T I L [.ref 76] F := by
  refine c_X12_takeStreet hB (fun x hx I1 h1 I2 h2 I3 h3 I4 h4 => ?_)
  have e4 : I4 = sm_uI (sm_uI (sm_uI (sm_uI I 76 26 (I 76 19)) 76 27 (I 76 20)) 76 28 (I 76 21)) 76 29 (I 76 22) := by
    subst h1; subst h2; subst h3
    rw [h4, cuD (by omega), cuD (by omega), cuD (by omega), cuD (by omega), cuD (by omega), cuD (by omega)]
  have f0 : Fr kMt I (sm_uI I4 76 30 (I4 76 23)) := by rw [e4]; exact ((((Fr.rf.u rfl).u rfl).u rfl).u rfl).u rfl
  have v0 : (sm_uI I4 76 30 (I4 76 23)) 76 26 = I 76 19 ∧ (sm_uI I4 76 30 (I4 76 23)) 76 27 = I 76 20 ∧ (sm_uI I4 76 30 (I4 76 23)) 76 28 = I 76 21 ∧ (sm_uI I4 76 30 (I4 76 23)) 76 29 = I 76 22 ∧ (sm_uI I4 76 30 (I4 76 23)) 76 30 = I 76 23 := by
    rw [e4]
    refine ⟨?_, ?_, ?_, ?_, ?_⟩
    · rw [cuD (by omega), cuD (by omega), cuD (by omega), cuD (by omega), cuA]
    · rw [cuD (by omega), cuD (by omega), cuD (by omega), cuA]
    · rw [cuD (by omega), cuD (by omega), cuA]
    · rw [cuD (by omega), cuA]
    · rw [cuA, cuD (by omega), cuD (by omega), cuD (by omega), cuD (by omega)]
  generalize sm_uI I4 76 30 (I4 76 23) = K at f0 v0 ⊢
  have l3 : ∀ d i (J : sm_MI), i + d = 5 → Fr kMt I J → (J 76 26 = I 76 19 ∧ J 76 27 = I 76 20 ∧ J 76 28 = I 76 21 ∧ J 76 29 = I 76 22 ∧ J 76 30 = I 76 23) → (∀ j, j < 20 → J 89 j = I 87 j) → (∀ t, t < 8 → J 90 t = I 88 t ∧ J 92 t = I 88 t) → (∀ w, w < i → J 91 w = -1) → sm_V x 0 0 T J L 106 [some (.ref 76), some (.int (nI i))] [] := by
    intro d
    induction d with
    | zero =>
      intro i J e f v a1 a2 a3
      have : i = 5 := by omega
      subst this
      refine u_X12_takeStreet_106 hB hx ⟨fun _ J2 hJ2 => ?_, fun z => absurd (nI_le (a := 5) (b := 5) (by omega) (by omega)) z⟩
      subst hJ2
      obtain ⟨w1, w2, w3, w4, w5⟩ := v
      refine hF _ (((((f.u rfl).u rfl).u rfl).u rfl).u rfl) ⟨?_, ?_, ?_, ?_, ?_⟩ (fun j hj => ?_) (fun t ht => ?_) (fun w hw => ?_) ⟨rfl, rfl, rfl, rfl, rfl⟩
      · rw [cuD (by omega), cuD (by omega), cuD (by omega), cuD (by omega), cuD (by omega)]; exact w1
      · rw [cuD (by omega), cuD (by omega), cuD (by omega), cuD (by omega), cuD (by omega)]; exact w2
      · rw [cuD (by omega), cuD (by omega), cuD (by omega), cuD (by omega), cuD (by omega)]; exact w3
      · rw [cuD (by omega), cuD (by omega), cuD (by omega), cuD (by omega), cuD (by omega)]; exact w4
      · rw [cuD (by omega), cuD (by omega), cuD (by omega), cuD (by omega), cuD (by omega)]; exact w5
      · rw [cuD (by omega), cuD (by omega), cuD (by omega), cuD (by omega), cuD (by omega)]; exact a1 j hj
      · rw [cuD (by omega), cuD (by omega), cuD (by omega), cuD (by omega), cuD (by omega), cuD (by omega), cuD (by omega), cuD (by omega), cuD (by omega), cuD (by omega)]; exact a2 t ht
      · rw [cuD (by omega), cuD (by omega), cuD (by omega), cuD (by omega), cuD (by omega)]; exact a3 w hw
    | succ d ih =>
      intro i J e f v a1 a2 a3
      refine u_X12_takeStreet_106 hB hx ⟨fun z => absurd z (nI_ge (b := 5) (by omega) (by omega)), fun _ => ⟨vp_in_nI (by omega) (by decide), ?_⟩⟩
      rw [nI_clamp (by omega), nI_1]
      refine ih (i + 1) _ (by omega) (f.u rfl) ?_ (fun j hj => by rw [cuD (by omega)]; exact a1 j hj) (fun t ht => by rw [cuD (by omega), cuD (by omega)]; exact a2 t ht) (fun w hw => ?_)
      · rw [cuD (by omega), cuD (by omega), cuD (by omega), cuD (by omega), cuD (by omega)]; exact v
      · by_cases e2 : w = i
        · subst e2; rw [cuA]
        · rw [cuD (by omega)]; exact a3 w (by omega)
  have l2 : ∀ d i (J : sm_MI), i + d = 8 → Fr kMt I J → (J 76 26 = I 76 19 ∧ J 76 27 = I 76 20 ∧ J 76 28 = I 76 21 ∧ J 76 29 = I 76 22 ∧ J 76 30 = I 76 23) → (∀ j, j < 20 → J 89 j = I 87 j) → (∀ t, t < i → J 90 t = I 88 t ∧ J 92 t = I 88 t) → sm_V x 0 0 T J L 68 [some (.ref 76), some (.int (nI i))] [] := by
    intro d
    induction d with
    | zero =>
      intro i J e f v a1 a2
      have : i = 8 := by omega
      subst this
      refine u_X12_takeStreet_68 hB hx ⟨fun _ => l3 5 0 J (by decide) f v a1 a2 (fun w hw => absurd hw (Nat.not_lt_zero w)), fun z => absurd (nI_le (a := 8) (b := 8) (by omega) (by omega)) z⟩
    | succ d ih =>
      intro i J e f v a1 a2
      refine u_X12_takeStreet_68 hB hx ⟨fun z => absurd z (nI_ge (b := 8) (by omega) (by omega)), fun _ => ⟨vp_in_nI (by omega) (by decide), vp_in_nI (by omega) (by decide), fun J1 hJ1 => ⟨vp_in_nI (by omega) (by decide), vp_in_nI (by omega) (by decide), ?_⟩⟩⟩
      rw [nI_clamp (by omega)] at hJ1
      have h88 : J1 88 i = I 88 i := by rw [hJ1, cuD (by omega), f 88 i rfl]
      rw [nI_clamp (by omega), nI_1, h88]
      refine ih (i + 1) _ (by omega) (by rw [hJ1]; exact (f.u rfl).u rfl) ?_ (fun j hj => by rw [cuD (by omega), hJ1, cuD (by omega)]; exact a1 j hj) (fun t ht => ?_)
      · rw [hJ1, cuD (by omega), cuD (by omega), cuD (by omega), cuD (by omega), cuD (by omega), cuD (by omega), cuD (by omega), cuD (by omega), cuD (by omega), cuD (by omega)]; exact v
      · by_cases e2 : t = i
        · subst e2
          refine ⟨?_, cuA⟩
          rw [cuD (by omega), hJ1, cuA, f 88 t rfl]
        · rw [cuD (by omega), cuD (by omega), hJ1, cuD (by omega), cuD (by omega)]; exact a2 t (by omega)
  have l1 : ∀ d i (J : sm_MI), i + d = 20 → Fr kMt I J → (J 76 26 = I 76 19 ∧ J 76 27 = I 76 20 ∧ J 76 28 = I 76 21 ∧ J 76 29 = I 76 22 ∧ J 76 30 = I 76 23) → (∀ j, j < i → J 89 j = I 87 j) → sm_V x 0 0 T J L 42 [some (.ref 76), some (.int (nI i))] [] := by
    intro d
    induction d with
    | zero =>
      intro i J e f v a1
      have : i = 20 := by omega
      subst this
      refine u_X12_takeStreet_42 hB hx ⟨fun _ => l2 8 0 J (by decide) f v a1 (fun w hw => absurd hw (Nat.not_lt_zero w)), fun z => absurd (nI_le (a := 20) (b := 20) (by omega) (by omega)) z⟩
    | succ d ih =>
      intro i J e f v a1
      refine u_X12_takeStreet_42 hB hx ⟨fun z => absurd z (nI_ge (b := 20) (by omega) (by omega)), fun _ => ⟨vp_in_nI (by omega) (by decide), vp_in_nI (by omega) (by decide), ?_⟩⟩
      rw [nI_clamp (by omega), nI_1]
      refine ih (i + 1) _ (by omega) (f.u rfl) ?_ (fun j hj => ?_)
      · rw [cuD (by omega), cuD (by omega), cuD (by omega), cuD (by omega), cuD (by omega)]; exact v
      · by_cases e2 : j = i
        · subst e2; rw [cuA, f 87 j rfl]
        · rw [cuD (by omega)]; exact a1 j (by omega)
  exact l1 20 0 K (by decide) f0 v0 (fun j hj => absurd hj (Nat.not_lt_zero j))
end
