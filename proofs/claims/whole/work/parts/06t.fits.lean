section
variable {n : Nat} {T : List sm_Sh} {I I' I1 : sm_MI} {L L' : sm_ML} {A : Nat → Nat → Int32} {H S N R ν lb b ν' lb' b' : Nat} {W : Nat → (Nat → Int32) → Int32} {f u : Nat → Int32}
theorem agB_fr {sc : Nat} (hf : Fr PQ I I') : ∀ i, agB A W H S N ν lb f I' sc u i = agB A W H S N ν lb f I sc u i
  | 0 => rfl
  | i + 1 => by
    show (agB A W H S N ν lb f I' sc u i && _) = (agB A W H S N ν lb f I sc u i && _)
    rw [agB_fr hf i, alB_cong (hf.at 46 (fun _ => rfl)) (hf.at 48 (fun _ => rfl)) (hf.at 50 (fun _ => rfl)) (hf.at 52 (fun _ => rfl))]
theorem gEs_30 {sc lt : Nat} (h : gEs H N sc lt I) (hl : lt ≤ 30) : gEs H N sc 30 I := by
  intro k hk
  obtain ⟨h1, ⟨m, h2, h3, h4⟩, h5⟩ := h k hk
  exact ⟨h1, ⟨m, h2, by omega, h4⟩, h5⟩
theorem fiS_30 {sc lt w : Nat} (h : gEs H N sc lt I) (hl : lt ≤ 30) : bitsOf (fiS A W H S N ν lb f I sc 30 u w) H = bitsOf (fiS A W H S N ν lb f I sc lt u w) H := by
  refine bitsOf_cong (fun s _ => ?_)
  unfold fiS
  have := agB_late (A := A) (W := W) (H := H) (S := S) (N := N) (ν := ν) (lb := lb) (f := upd f w (nI s)) (u := u) (I := I) (sc := sc) (lt := lt) (fun k hk => by
    obtain ⟨_, ⟨m, h2, h3, h4, _⟩, _⟩ := h k hk
    exact ⟨m, h3, h4⟩) hl (30 - lt) (by omega)
  rw [show lt + (30 - lt) = 30 by omega] at this
  exact this
theorem fiS_fr {sc lt w : Nat} (hf : Fr PQ I I') : bitsOf (fiS A W H S N ν lb f I' sc lt u w) H = bitsOf (fiS A W H S N ν lb f I sc lt u w) H :=
  bitsOf_cong (fun s _ => agB_fr hf lt)
theorem upd_m1 {w : Nat} : upd (fun _ => (-1 : Int32)) w (-1) = fun _ => -1 := by
  funext j
  by_cases e : j = w
  · subst e; rw [pk_us]
  · rw [pk_un e]
theorem p_fits {G : Int32 → Int32 → sm_MI → sm_ML → Prop} {a : Int32} (hR : RR A W H S N R ν lb b T I L) (h : ∀ v I' L', RR A W H S N R ν lb b T I' L' → G v v I' L') :
    sm_CI (n + 20) mX11_fits T I L [.ref 0, .int a] (fun r1 I1 L1 => sm_CI (n + 20) mX12_fits T I1 L1 [.ref 76, .int a] (fun r2 I2 L2 => G r1 r2 I2 L2)) := by
  have hB := hR.hB
  obtain ⟨⟨a1, a2, a3, a4, a5⟩, _, ⟨c1, c2, c3, c4, c5⟩, _, _⟩ := hR.st
  have v3 := hR.va.2.2.1
  obtain ⟨sc, lt, s1, s2, s3, s4, s5, s6⟩ := hR.ge
  have hen : gEs H N sc lt I := s6
  refine c_X11_fits hB (s_hasSleeper hB ?_)
  rw [a2]
  refine ⟨fun q => c_X12_fits hB (s_m_isSleeper hB ?_), fun q => ?_⟩
  · rw [c2, q]
    exact ⟨fun _ => h _ _ _ hR, fun z => absurd z (by decide)⟩
  · obtain ⟨w, hw, rfl⟩ := qW_nat (by omega) q
    have h0 := gV_S hR.va hw
    refine s_fittingSteps (n := n + 10) hR h0 s3 s1 s2 s5 hen hw (fun I1 L1 hR1 f1 => c_X12_fits hB (s_m_isSleeper hB ?_))
    obtain ⟨_, _, ⟨d1, d2, d3, d4, d5⟩, _, _⟩ := hR1.st
    rw [d2, q]
    refine ⟨fun z => absurd z (by decide), fun _ => ?_⟩
    have hen1 : gEs H N sc lt I1 := by
      intro k hk
      rw [f1.at 46 (fun _ => rfl), f1.at 48 (fun _ => rfl), f1.at 50 (fun _ => rfl), f1.at 52 (fun _ => rfl), f1.at 100 (fun _ => rfl), f1.at 101 (fun _ => rfl), f1.at 102 (fun _ => rfl), f1.at 103 (fun _ => rfl)]
      exact hen k hk
    refine s_m_fitsOf (n := n + 9) hR1 h0 ((f1 76 51 rfl).trans s4) s1 (gEs_30 hen1 s2) (mX_rf hR1) hw (fun I2 hX => ?_)
    rw [upd_m1] at hX
    rw [fiS_30 hen1 s2, fiS_fr f1, ← hR1.u, f1 35 0 rfl]
    exact h _ _ _ (mX_RR hR1 hX)
end
