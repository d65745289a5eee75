def kRd (k j : Nat) : Bool := (Nat.beq k 18 && (Nat.beq j 1 || Nat.beq j 4)) || Nat.beq k 20 || Nat.beq k 22
section
variable {n : Nat} {T : List sm_Sh} {I I' : sm_MI} {L L' : sm_ML} {A : Nat → Nat → Int32} {W : Nat → (Nat → Int32) → Int32} {H S N R ν lb b : Nat}
theorem rS_fr {p k : Nat} {f g : Nat → Int32} : Fr kRd I (rS I p k f g) := by
  intro x j q
  unfold rS
  by_cases e : x = 18
  · subst e
    by_cases e1 : j = 1
    · subst e1; exact absurd q (by decide)
    · by_cases e4 : j = 4
      · subst e4; exact absurd q (by decide)
      · simp [e1, e4]
  · by_cases e20 : x = 20
    · subst e20; exact absurd q (by simp [kRd])
    · by_cases e22 : x = 22
      · subst e22; exact absurd q (by simp [kRd])
      · simp [e, e20, e22]
theorem kRd_q {k j : Nat} (q : qM k j = false) : kRd k j = false := by
  cases e : kRd k j with
  | false => rfl
  | true =>
    unfold kRd at e
    simp only [Bool.or_eq_true, Bool.and_eq_true] at e
    have hk : k = 18 ∨ k = 20 ∨ k = 22 := by
      rcases e with (e | e) | e
      · exact Or.inl (Nat.eq_of_beq_eq_true e.1)
      all_goals (have := Nat.eq_of_beq_eq_true e; omega)
    have : qM k j = true := by rcases hk with r | r | r <;> subst r <;> rfl
    rw [this] at q; exact q
theorem RR_rd (hR : RR A W H S N R ν lb b T I L) (f : Fr kRd I I') : RR A W H S N R ν lb b T I' L := RR_r hR (f.mono (fun k j => kRd_q)) (f.at 92 (fun _ => rfl)) (f 76 34 rfl) (f.at 65 (fun _ => rfl)) (f.at 67 (fun _ => rfl)) (fun i hi => mRK_up (RR_mrk hR i hi) (f 81 _ rfl) (fun j _ => ⟨f 78 _ rfl, f 79 _ rfl⟩) (fun j _ => ⟨f 82 _ rfl, f 83 _ rfl, f 84 _ rfl⟩))
theorem mlX_q {t : Nat} (h : mlX t I I') : Fr qM I I' := by
  intro k j q
  refine h k j (fun z => ?_) (fun z => ?_) (fun z => ?_) (fun z => ?_)
  · obtain ⟨z1, z2⟩ := z
    subst z1
    rcases z2 with r | r | r | r <;> subst r <;> exact absurd q (by decide)
  · rcases z.1 with r | r <;> subst r <;> exact absurd q (by simp [qM])
  · rcases z.1 with r | r <;> subst r <;> exact absurd q (by simp [qM])
  · rcases z.1 with r | r | r <;> subst r <;> exact absurd q (by simp [qM])
theorem mlX_rk {t i : Nat} {w : vfn} (h : mlX t I I') (hi : i < t) (hK : mRK w i I) : mRK w i I' := by
  refine mRK_up hK (h 81 i (by omega) (by omega) (by omega) (by omega)) (fun j hj => ⟨h 78 _ (by omega) (by omega) (by omega) (by omega), h 79 _ (by omega) (by omega) (by omega) (by omega)⟩) (fun j hj => ⟨h 82 _ (by omega) (by omega) (by omega) (by omega), h 83 _ (by omega) (by omega) (by omega) (by omega), h 84 _ (by omega) (by omega) (by omega) (by omega)⟩)
theorem RR_lx {t : Nat} (hR : RR A W H S N R ν lb b T I L) (ht : R ≤ t) (f : mlX t I I') : RR A W H S N R ν lb b T I' L :=
  RR_r hR (mlX_q f) (funext (fun j => f 92 j (by omega) (by omega) (by omega) (by omega))) (f 76 34 (by omega) (by omega) (by omega) (by omega)) (funext (fun j => f 65 j (by omega) (by omega) (by omega) (by omega))) (funext (fun j => f 67 j (by omega) (by omega) (by omega) (by omega))) (fun i hi => mlX_rk f (by omega) (RR_mrk hR i hi))
theorem CTp_h {h : Nat → Int32} {len : Nat} (hM : MTs h len I) (f : Fr kRd I I') : I' 76 2 = nI len ∧ ∀ j, j < len → I' 77 j = h j := ⟨(f 76 2 rfl).trans hM.1, fun j hj => (f 77 j rfl).trans (hM.2 j hj)⟩
theorem p_fault {G : Int32 → Int32 → sm_MI → sm_ML → Prop} {a : Int32} (hR : RR A W H S N R ν lb b T I L) (h : ∀ v I' L', RR A W H S N R ν lb b T I' L' → G v v I' L') :
    sm_CI (n + 40) mX11_fault T I L [.ref 0, .int a] (fun r1 I1 L1 => sm_CI (n + 40) mX12_fault T I1 L1 [.ref 76, .int a] (fun r2 I2 L2 => G r1 r2 I2 L2)) := by
  have hB := hR.hB
  refine c_X11_fault hB ⟨fun q0 => ⟨fun q1 => c_X12_fault hB ⟨fun _ => ⟨fun _ => h _ _ _ hR, fun z => absurd z q1⟩, fun z => absurd z q0⟩, fun q1 => ?_⟩, fun q0 => ?_⟩
  · obtain ⟨len, Hh, hC, hM⟩ := hTp_ok hR.gt
    have hR5 := hR.va.2.2.2.2.1
    refine c_read (n := n + 6) hB Hh hC ?_
    have md : ∀ (v : Int32) (I1 : sm_MI), Fr kRd I I1 → (match lawP (hTp I len) len 160 0 [] with
      | .inl e => v = nI e
      | .inr _ => v = -1) → sm_CI (n + 40) mX12_fault T I1 L [.ref 76, .int a] (fun r2 I2 L2 => G v r2 I2 L2) := by
      intro v I1 f hv
      have hR1 := RR_rd hR f
      refine c_X12_fault hB ⟨fun _ => ⟨fun z => absurd q1 z, fun _ => ?_⟩, fun z => absurd z q0⟩
      obtain ⟨m2, m7⟩ := CTp_h hM f
      refine m_read (n := n + 2) (t := 5) hB Hh (by decide) m2 m7 ?_
      cases hq : lawP (hTp I len) len 160 0 [] with
      | inl e =>
        rw [hq] at hv
        intro J hX
        rw [hv]
        exact h _ _ _ (RR_lx hR1 hR5 hX)
      | inr CL =>
        rw [hq] at hv
        intro J hX _ _
        rw [hv]
        exact h _ _ _ (RR_lx hR1 hR5 hX)
    cases hq : lawP (hTp I len) len 160 0 [] with
    | inl e => exact fun p' k' f' g' => md _ _ rS_fr (by rw [hq])
    | inr CL => exact fun p' f' g' _ => md _ _ rS_fr (by rw [hq])
  · obtain ⟨v, hv⟩ := two_streets (G := G) hR (fun v I1 I2 r _ _ _ => h v I2 L r)
    refine hv _ (fun I1 _ _ hm _ => ?_) (n + 30)
    exact c_X12_fault hB ⟨fun z => absurd q0 z, fun _ => hm _ (fun I2 _ g => g) (n + 34)⟩
end
