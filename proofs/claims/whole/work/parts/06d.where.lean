section
variable {n : Nat} {T : List sm_Sh} {I : sm_MI} {L : sm_ML} {A : Nat → Nat → Int32} {H S N R ν lb b : Nat} {W : Nat → (Nat → Int32) → Int32}
theorem q_told {H : Nat} (h : H < 2 ^ 31) : (¬ nI H ≤ 0) ↔ 0 < H := by
  constructor
  · intro q
    rcases Nat.eq_zero_or_pos H with z | z
    · subst z; exact absurd (by decide +kernel) q
    · exact z
  · intro q; exact nI_nle q h
theorem an_ok {H : Nat} {a : Int32} (h0 : 0 < H) (h : H < 2 ^ 31) : (decide (¬ nI H ≤ 0) && qW a 1 60) = qW a 1 60 := by
  rw [decide_eq_true ((q_told h).mpr h0), Bool.true_and]
theorem p_where {G : Int32 → Int32 → sm_MI → sm_ML → Prop} {a m : Int32} (hR : RR A W H S N R ν lb b T I L)
    (h : ∀ v I' L', RR A W H S N R ν lb b T I' L' → G v v I' L') :
    sm_CI (n + 20) mX11_where T I L [.ref 0, .int a, .int m] (fun r1 I1 L1 => sm_CI (n + 20) mX12_where T I1 L1 [.ref 76, .int a, .int m] (fun r2 I2 L2 => G r1 r2 I2 L2)) := by
  have hB := hR.hB
  obtain ⟨⟨a1, a2, a3, a4, a5⟩, _, ⟨c1, c2, c3, c4, c5⟩, _, _⟩ := hR.st
  have hH8 := hR.va.2.1
  have v4 := hR.va.2.2.2.1
  refine c_X11_where hB (s_hasThing hB ?_)
  rw [a3]
  refine ⟨fun q => c_X12_where hB (s_m_isThing hB ?_), fun q => s_within hB ⟨fun r => ?_, fun r => c_X12_where hB (s_m_isThing hB ?_)⟩⟩
  · rw [c3, q]
    exact ⟨fun _ => h _ _ _ hR, fun z => absurd z (by decide)⟩
  · obtain ⟨t, ht, rfl⟩ := qW_nat (by omega) q
    obtain ⟨k, hk1, hk2, rfl⟩ := qW_rng (lo := 1) (hi := 60) (by decide) (by decide) r
    have h0 := gV_H hR.va ht
    refine s_dreamOf (n := n + 11) hR h0 (by omega) (fun I1 L1 z g hR1 f1 hz z1 _ _ => s_placeIn hB ?_)
    have hv : qPl (I1 53 0) (nI t) = (ngs (mkE A (nI lb) (-1) 0 (-1) g (fun _ => -1)) W H S N ν k z).1 t := by
      rw [← hz.1, cU_at _ ht]
    rw [hv]
    obtain ⟨_, _, ⟨d1, d2, d3, d4, d5⟩, _, _⟩ := hR1.st
    refine c_X12_where hB (s_m_isThing hB ?_)
    rw [d3, q]
    refine ⟨fun y => absurd y (by decide), fun _ => s_m_areNights hB ?_⟩
    have r' : qW (nI k) 1 60 = true := r
    rw [d1, an_ok h0 (by omega), r']
    refine ⟨fun _ => s_m_aside hB (fun I3 ha h92 h34 => ?_), fun y => absurd y (by decide)⟩
    have hu : mU N (I3 92) = z.1 := by rw [h92, ← hR1.u, z1, f1 35 0 rfl]
    refine s_m_calmNights (n := n + 11) hB hR1.ml (vE_mk hR1.va h0) hR1.now.2.1 rfl rfl rfl (by omega) (mD_frQ (mD_now hR1 (gh := -1) (gs := g)) ha.1) (h34.trans hR1.n34) hu (fun I4 f4 _ _ hu4 => ⟨vp_in_nI (by omega) (by decide), s_m_back hR1 (ha.go f4) (fun I5 _ _ hR5 => ?_)⟩)
    rw [nI_clamp (by omega), ← mU_at (N := N) (I4 92) ht, hu4]
    exact h _ _ _ hR5
  · rw [c3, q]
    obtain ⟨t, ht, rfl⟩ := qW_nat (by omega) q
    have h0 := gV_H hR.va ht
    refine ⟨fun z => absurd z (by decide), fun _ => s_m_areNights hB ?_⟩
    rw [c1, an_ok h0 (by omega), r]
    exact ⟨fun z => absurd z (by decide), fun _ => h _ _ _ hR⟩
end
