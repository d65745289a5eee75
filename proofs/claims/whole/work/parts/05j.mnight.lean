def mD (E : Nat → Nat → Int32) (H S N : Nat) (I0 : sm_MI) (I : sm_MI) : Prop := mE E H S N I ∧ ∀ k, 78 ≤ k → k ≤ 84 → I k = I0 k
def oI (o : Option Nat) : Int32 := match o with
  | none => -1
  | some t => nI t
section
variable {n : Nat} {T : List sm_Sh} {I : sm_MI} {L : sm_ML} {E : Nat → Nat → Int32} {H S N R ν w : Nat} {W : Nat → (Nat → Int32) → Int32} {I0 : sm_MI}
theorem mD_up {I I' : sm_MI} {P : Nat → Nat → Bool} (hD : mD E H S N I0 I) (hf : Fr P I I') (hp : ∀ k j, MN k j = false → P k j = false) : mD E H S N I0 I' := by
  refine ⟨mE_fr hD.1 hf hp, fun k h1 h2 => ?_⟩
  rw [hf.at k (fun j => hp _ _ (by
    have e1 : (k == 76) = false := by simp; omega
    have e2 : (k == 92) = false := by simp; omega
    have e3 : (k == 94) = false := by simp; omega
    have e4 : (k == 85) = false := by simp; omega
    have e5 : (k == 86) = false := by simp; omega
    have e6 : (k == 98) = false := by simp; omega
    simp only [MN, e1, e2, e3, e4, e5, e6, Bool.false_and, Bool.or_false])), hD.2 k h1 h2]
theorem s_m_ownStride {F : Int32 → sm_MI → sm_ML → Prop} (hB : sm_Bs T) (hR : mRL T W R I0) (hV : vE E H S N R) (hD : mD E H S N I0 I) (hw : w < S)
    (h : ∀ I' : sm_MI, Fr MO I I' → F (ownR E W N ν w (mU N (I 92))) I' L) : sm_CI (n + 5) mX12_ownStride T I L [.ref 76, .int (nI w), .int (nI ν)] F := by
  obtain ⟨hE, hQ⟩ := hD
  obtain ⟨⟨a1, a2, a3, a4, a5⟩, b, c1, c2⟩ := hE
  obtain ⟨v1, v2, v3, v4, v5, v6⟩ := hV
  have hw5 : w < 5 := by omega
  obtain ⟨b1, b2, b3, b4, b5, b6⟩ := b w hw
  have k0 : Int32.toNatClampNeg 0 = 0 := by decide
  have k1 : Int32.toNatClampNeg 1 = 1 := by decide
  have k2 : Int32.toNatClampNeg 2 = 2 := by decide
  have k3 : Int32.toNatClampNeg 3 = 3 := by decide
  have k4 : Int32.toNatClampNeg 4 = 4 := by decide
  have k5 : Int32.toNatClampNeg 5 = 5 := by decide
  have p0 : vp_in 0 6 := vp_in_nI (n := 0) (by decide) (by decide)
  have p1 : vp_in 1 6 := vp_in_nI (n := 1) (by decide) (by decide)
  have p2 : vp_in 2 6 := vp_in_nI (n := 2) (by decide) (by decide)
  have p3 : vp_in 3 6 := vp_in_nI (n := 3) (by decide) (by decide)
  have p4 : vp_in 4 6 := vp_in_nI (n := 4) (by decide) (by decide)
  have p5 : vp_in 5 6 := vp_in_nI (n := 5) (by decide) (by decide)
  have pw : vp_in (nI w) 5 := vp_in_nI hw5 (by decide)
  refine c_X12_ownStride hB ?_
  rw [nI_clamp (by omega), b6, b5, k0, k1, k2, k3, k4, k5]
  refine ⟨pw, fun q => ⟨pw, fun r => ⟨p0, ?_⟩, fun r => s_m_of (k := 1) hB hw5 (by decide) ?_⟩, fun q => ⟨pw, ?_⟩⟩
  · obtain ⟨i, hi, hr⟩ := (v6 w hw).2.resolve_left r
    have u1 : ∀ (I : sm_MI) (j : Nat) (v : Int32) (k : Nat), k ≠ 85 → (sm_uI I 85 j v) k = I k := fun I j v k hk => sm_uI_ne hk
    refine s_m_of (k := 0) hB hw5 (by decide) ⟨p1, s_m_of (k := 1) hB hw5 (by decide) ⟨p2, s_m_of (k := 0) hB hw5 (by decide) (s_m_thingsIn hB (N := N) ?_ v4 (s_BC ⟨p3, s_m_isFull hB ⟨fun z => ⟨p4, p5, ?_⟩, fun z => ⟨p4, p5, ?_⟩⟩⟩))⟩⟩
    · rw [u1 _ _ _ 76 (by decide), u1 _ _ _ 76 (by decide), u1 _ _ _ 76 (by decide), a3]
    · simp only [u1 _ _ _ 76 (by decide), u1 _ _ _ 89 (by decide), u1 _ _ _ 92 (by decide), a4, a5, Nat.add_zero, b1, b2, thC_BC v4] at z ⊢
      intro I13 h13
      have h91 : I13 91 w = nI i := by rw [h13]; simp only [u1 _ _ _ 91 (by decide), b5, hr]
      rw [h91]
      have f13 : Fr MO I I13 := by rw [h13]; exact (((((Fr.rf.u rfl).u rfl).u rfl).u rfl).u rfl).u rfl
      refine ⟨pw, (hR.2 i hi).2 n I13 L _ (fun k g1 g2 => ?_) (fun I' f' => ?_)⟩
      · rw [f13.at k (fun j => by
          have e1 : (k == 85) = false := by simp; omega
          have e2 : (k == 86) = false := by simp; omega
          simp only [MO, e1, e2, Bool.or_false]), hQ k g1 g2]
      · have hv : W i (I13 85) = ownR E W N ν w (mU N (I 92)) := by
          unfold ownR
          rw [if_pos q, if_neg r, hr, nI_clamp (by omega)]
          refine hR.1 i _ _ (fun j hj => ?_)
          rw [h13]
          simp only [sm_uI_at]
          match j, hj with
          | 0, _ => simp [upd, ltE]
          | 1, _ => simp [upd, ltE]
          | 2, _ => simp [upd, ltE]
          | 3, _ => simp [upd, ltE]
          | 4, _ => simp [upd, ltE, z]
          | 5, _ => simp [upd, ltE]
          | j + 6, hj => exact absurd hj (by omega)
        rw [hv]
        exact h I' (f13.tr (Fr.mono f' (fun k j => by simp only [MO, M86, Bool.or_eq_false_iff]; exact fun g => g.2)))
    · simp only [u1 _ _ _ 76 (by decide), u1 _ _ _ 89 (by decide), u1 _ _ _ 92 (by decide), a4, a5, Nat.add_zero, b1, b2, thC_BC v4] at z ⊢
      intro I13 h13
      have h91 : I13 91 w = nI i := by rw [h13]; simp only [u1 _ _ _ 91 (by decide), b5, hr]
      rw [h91]
      have f13 : Fr MO I I13 := by rw [h13]; exact (((((Fr.rf.u rfl).u rfl).u rfl).u rfl).u rfl).u rfl
      refine ⟨pw, (hR.2 i hi).2 n I13 L _ (fun k g1 g2 => ?_) (fun I' f' => ?_)⟩
      · rw [f13.at k (fun j => by
          have e1 : (k == 85) = false := by simp; omega
          have e2 : (k == 86) = false := by simp; omega
          simp only [MO, e1, e2, Bool.or_false]), hQ k g1 g2]
      · have hv : W i (I13 85) = ownR E W N ν w (mU N (I 92)) := by
          unfold ownR
          rw [if_pos q, if_neg r, hr, nI_clamp (by omega)]
          refine hR.1 i _ _ (fun j hj => ?_)
          rw [h13]
          simp only [sm_uI_at]
          match j, hj with
          | 0, _ => simp [upd, ltE]
          | 1, _ => simp [upd, ltE]
          | 2, _ => simp [upd, ltE]
          | 3, _ => simp [upd, ltE]
          | 4, _ => simp [upd, ltE, z]
          | 5, _ => simp [upd, ltE]
          | j + 6, hj => exact absurd hj (by omega)
        rw [hv]
        exact h I' (f13.tr (Fr.mono f' (fun k j => by simp only [MO, M86, Bool.or_eq_false_iff]; exact fun g => g.2)))
  · have := h I Fr.rf
    unfold ownR at this
    rw [if_pos q, if_pos r] at this
    rw [b2]
    exact this
  · have := h I Fr.rf
    unfold ownR at this
    rw [if_neg q] at this
    exact this
end
