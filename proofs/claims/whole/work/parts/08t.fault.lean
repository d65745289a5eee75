/-! ===== p_fault ===== -/
def hTp (I : sm_MI) (len : Nat) : Nat → Int32 := fun p => if p < len then I 3 p else -1
section
variable {n : Nat} {T : List sm_Sh} {I I' : sm_MI} {L L' : sm_ML} {A : Nat → Nat → Int32} {W : Nat → (Nat → Int32) → Int32} {H S N R ν lb b : Nat}
theorem hTp_ok (hg : gT I) : ∃ len, tpH (hTp I len) len ∧ CTp (hTp I len) len I ∧ MTs (hTp I len) len I := by
  obtain ⟨len, t0, t1, t2, t3⟩ := hg
  refine ⟨len, ⟨t0, fun p hp => if_neg (by omega), fun p hp => ?_⟩, ⟨t1, fun j hj => (if_pos hj).symm⟩, ⟨t2, fun j hj => ?_⟩⟩
  · obtain ⟨_, c, c1, c2, c3⟩ := t3 p hp
    exact ⟨c, c1, c2, (if_pos hp).trans c3⟩
  · exact (t3 j hj).1.symm.trans (if_pos hj).symm
/-- questions that touch the reader's cells too -/
theorem RR_r {I' : sm_MI} (h : RR A W H S N R ν lb b T I L) (hf : Fr qM I I') (h92 : I' 92 = I 92) (h34 : I' 76 34 = I 76 34) (h65 : I' 65 = I 65) (h67 : I' 67 = I 67) (hK : ∀ i, i < R → mRK (W i) i I') : RR A W H S N R ν lb b T I' L := by
  have hR5 := h.va.2.2.2.2.1
  have hml := h.ml
  have hB := h.hB
  obtain ⟨g1, g2, g3, g4, g5, g6, g7, g8⟩ := h
  refine ⟨g1, g2, ?_, ?_, h34.trans g5, ?_, sRL_up g7 (fun k hk => hf.at k (fun j => qM_big hk)), mRL_of hB (by omega) hml.1 hK⟩
  · rw [msk_fr hf]; exact g3
  · rw [h92, hf 35 0 rfl]; exact g4
  · intro ν2 w q a1 a2 a3 a4 a5
    rw [h67] at a5
    rw [h65]
    exact g6 ν2 w q a1 a2 a3 a4 a5
theorem RR_mrk (h : RR A W H S N R ν lb b T I L) : ∀ i, i < R → mRK (W i) i I := fun i hi => (h.ml.2 i hi).1
theorem kDS_q {k j : Nat} (q : qM k j = false) : kDS k j = false := by
  cases e : kDS k j with
  | false => rfl
  | true =>
    unfold kDS at e
    simp only [Bool.or_eq_true, Bool.and_eq_true] at e
    have hk : k = 4 ∨ k = 17 ∨ k = 15 ∨ k = 5 ∨ k = 7 ∨ k = 9 ∨ k = 11 ∨ k = 13 := by
      rcases e with ((((((e | e) | e) | e) | e) | e) | e) | e
      · exact Or.inl (Nat.eq_of_beq_eq_true e.1)
      all_goals (have := Nat.eq_of_beq_eq_true e; omega)
    have : qM k j = true := by rcases hk with r | r | r | r | r | r | r | r <;> subst r <;> rfl
    rw [this] at q; exact q
theorem kMS_q {k j : Nat} (q : qM k j = false) : kMS k j = false := by
  cases e : kMS k j with
  | false => rfl
  | true =>
    unfold kMS at e
    simp only [Bool.or_eq_true, Bool.and_eq_true] at e
    rcases e with (e | e) | e
    · have e1 := Nat.eq_of_beq_eq_true e.1
      subst e1
      have hj : j = 3 ∨ j = 4 ∨ j = 19 ∨ j = 20 ∨ j = 21 ∨ j = 22 ∨ j = 23 := by
        rcases e.2 with (e2 | e2) | e2
        · exact Or.inl (Nat.eq_of_beq_eq_true e2)
        · exact Or.inr (Or.inl (Nat.eq_of_beq_eq_true e2))
        · have h1 := Nat.le_of_ble_eq_true e2.1
          have h2 := Nat.le_of_ble_eq_true e2.2
          omega
      rcases hj with r | r | r | r | r | r | r <;> subst r <;> exact absurd q (by decide)
    · have e1 := Nat.eq_of_beq_eq_true e
      subst e1; exact absurd q (by simp [qM])
    · have e1 := Nat.eq_of_beq_eq_true e
      subst e1; exact absurd q (by simp [qM])
/-- the class's street read, then the model's -/
theorem two_streets {G : Int32 → Int32 → sm_MI → sm_ML → Prop} (hR : RR A W H S N R ν lb b T I L)
    (h : ∀ v I1 I2, RR A W H S N R ν lb b T I2 L → Fr kDS I I1 → Fr kMS I1 I2 → (v ≠ -1 ∨ ∃ q : Nat × stT, 2 ≤ q.1 ∧ q.1 ≤ 8 ∧ fL q.1 q.2 ∧ q.2.1.length ≠ 0 ∧ q.2.2.1.length ≠ 0 ∧ dD q.1 q.2 I1 ∧ mDf q.1 q.2 I2 ∧ v = -1) → G v v I2 L) :
    ∃ v : Int32, (∀ (F : Int32 → sm_MI → sm_ML → Prop), (∀ I1, RR A W H S N R ν lb b T I1 L → Fr kDS I I1 → (∀ (F2 : Int32 → sm_MI → sm_ML → Prop), (∀ I2, Fr kMS I1 I2 → G v v I2 L → F2 v I2 L) → ∀ n, sm_CI (n + 5) mX12_readStreet T I1 L [.ref 76] F2) → (v = -1 → ∃ q : Nat × stT, dD q.1 q.2 I1) → F v I1 L) → ∀ n, sm_CI (n + 9) mX9_read T I L [.ref 4] F) := by
  have hB := hR.hB
  obtain ⟨len, Hh, hC, hM⟩ := hTp_ok hR.gt
  have hlen := Hh.1
  have hok := strP_ok Hh
  generalize hh : hTp I len = hf at Hh hC hM hok
  have up1 : ∀ I1, Fr kDS I I1 → RR A W H S N R ν lb b T I1 L := fun I1 f => RR_r hR (f.mono (fun k j => kDS_q)) (f.at 92 (fun _ => rfl)) (f 76 34 rfl) (f.at 65 (fun _ => rfl)) (f.at 67 (fun _ => rfl)) (fun i hi => mRK_up (RR_mrk hR i hi) (f 81 _ rfl) (fun j _ => ⟨f 78 _ rfl, f 79 _ rfl⟩) (fun j _ => ⟨f 82 _ rfl, f 83 _ rfl, f 84 _ rfl⟩))
  have up2 : ∀ I1 I2, RR A W H S N R ν lb b T I1 L → Fr kMS I1 I2 → RR A W H S N R ν lb b T I2 L := fun I1 I2 hR1 f => RR_r hR1 (f.mono (fun k j => kMS_q)) (f.at 92 (fun _ => rfl)) (f 76 34 rfl) (f.at 65 (fun _ => rfl)) (f.at 67 (fun _ => rfl)) (fun i hi => mRK_up (RR_mrk hR1 i hi) (f 81 _ rfl) (fun j _ => ⟨f 78 _ rfl, f 79 _ rfl⟩) (fun j _ => ⟨f 82 _ rfl, f 83 _ rfl, f 84 _ rfl⟩))
  cases hs : strP hf len with
  | inl e =>
    rw [hs] at hok
    have he : nI e ≠ -1 := by
      have : e ≤ len := hok
      exact nI_m1 (by omega)
    refine ⟨nI e, fun F hF n => d_street hB Hh hC ?_⟩
    rw [hs]
    intro I1 f1
    refine hF I1 (up1 I1 f1) f1 (fun F2 hF2 n => n_street hB Hh (MTs_fr hM f1 rfl (fun _ => rfl)) ?_) (fun z => absurd z he)
    rw [hs]
    intro I2 f2
    exact hF2 I2 f2 (h _ I1 I2 (up2 I1 I2 (up1 I1 f1) f2) f1 f2 (Or.inl he))
  | inr q =>
    rw [hs] at hok
    obtain ⟨k1, k2, k3, k4, k5⟩ := hok
    refine ⟨-1, fun F hF n => d_street hB Hh hC ?_⟩
    rw [hs]
    intro I1 f1 D1
    refine hF I1 (up1 I1 f1) f1 (fun F2 hF2 n => n_street hB Hh (MTs_fr hM f1 rfl (fun _ => rfl)) ?_) (fun _ => ⟨q, D1⟩)
    rw [hs]
    intro I2 f2 D2
    exact hF2 I2 f2 (h _ I1 I2 (up2 I1 I2 (up1 I1 f1) f2) f1 f2 (Or.inr ⟨q, k1, k2, k3, k4, k5, D1, D2, rfl⟩))
end
