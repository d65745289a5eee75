def fo {α : Type} (f : Nat → α → α) (a : α) : Nat → α
  | 0 => a
  | i + 1 => f i (fo f a i)
section
variable {n : Nat} {T : List sm_Sh} {I : sm_MI} {L : sm_ML} {A : Nat → Nat → Int32} {H S N R ν lb b : Nat} {W : Nat → (Nat → Int32) → Int32} {E : Nat → Nat → Int32}
/-- nights of the class's, one after another, with what is gathered -/
theorem c_loop {α : Type} {P : Nat → α → Prop} {V : Nat → α → sm_MI → sm_ML → Prop} {z : w_St} {m : Nat} {Ia I0 : sm_MI}
    (h : ∀ (i : Nat) (a : α) (I : sm_MI), i ≤ m → P i a → Fr PQ Ia I → cD E W H S N R I0 (ν + i) I → cZ N I (sm_uL L 53 3 (ngs E W H S N ν i z).2.2.1) (ngs E W H S N ν i z) →
      (i < m → ∀ (a' : α) (I' : sm_MI), P (i + 1) a' → Fr PQ Ia I' → cD E W H S N R I0 (ν + i + 1) I' → cZ N I' (sm_uL L 53 3 (ngs E W H S N ν (i + 1) z).2.2.1) (ngs E W H S N ν (i + 1) z) → V (i + 1) a' I' (sm_uL L 53 3 (ngs E W H S N ν (i + 1) z).2.2.1)) →
      V i a I (sm_uL L 53 3 (ngs E W H S N ν i z).2.2.1)) :
    ∀ (d i : Nat) (a : α) (I : sm_MI), i + d = m → P i a → Fr PQ Ia I → cD E W H S N R I0 (ν + i) I → cZ N I (sm_uL L 53 3 (ngs E W H S N ν i z).2.2.1) (ngs E W H S N ν i z) → V i a I (sm_uL L 53 3 (ngs E W H S N ν i z).2.2.1)
  | 0, i, a, I, e, hp, hf, hD, hz => h i a I (by omega) hp hf hD hz (fun q => absurd q (by omega))
  | d + 1, i, a, I, e, hp, hf, hD, hz => h i a I (by omega) hp hf hD hz (fun _ a' I' hp' hf' hD' hz' => c_loop h d (i + 1) a' I' (by omega) hp' hf' hD' hz')
/-- one night in such a loop -/
theorem c_step {F : sm_MI → sm_ML → Prop} {z : w_St} {i : Nat} {Ia I0 : sm_MI} (hB : sm_Bs T) (hR : sRL T W R I0) (hV : vE E H S N R) (hg : E 0 5 = -1 ∨ ∃ g, g < 8 ∧ E 0 5 = nI g) (hν : ν + i < 2 ^ 31) (hf : Fr PQ Ia I) (hD : cD E W H S N R I0 (ν + i) I) (hz : cZ N I (sm_uL L 53 3 (ngs E W H S N ν i z).2.2.1) (ngs E W H S N ν i z))
    (h : ∀ I' : sm_MI, Fr PQ Ia I' → cD E W H S N R I0 (ν + i + 1) I' → cZ N I' (sm_uL L 53 3 (ngs E W H S N ν (i + 1) z).2.2.1) (ngs E W H S N ν (i + 1) z) → F I' (sm_uL L 53 3 (ngs E W H S N ν (i + 1) z).2.2.1)) : sm_CV (n + 6) mX0_goOneNight T I (sm_uL L 53 3 (ngs E W H S N ν i z).2.2.1) [.ref 53] F :=
  s_goOneNight hB hR hV hg hν hD hz (fun I' f1 hD1 hz1 => by
    rw [sm_uL_2] at hz1 ⊢
    exact h I' (hf.tr (f1.mono PN_PQ)) hD1 hz1)
/-- nights of the model's -/
theorem m_loop {α : Type} {P : Nat → α → Prop} {V : Nat → α → sm_MI → Prop} {z : w_St} {m : Nat} {Ia : sm_MI}
    (h : ∀ (i : Nat) (a : α) (I : sm_MI), i ≤ m → P i a → mAs Ia I → mD E H S N Ia I → I 76 34 = nI (ν + i) → mU N (I 92) = (ngs E W H S N ν i z).1 →
      (i < m → ∀ (a' : α) (I' : sm_MI), P (i + 1) a' → mAs Ia I' → mD E H S N Ia I' → I' 76 34 = nI (ν + i + 1) → mU N (I' 92) = (ngs E W H S N ν (i + 1) z).1 → V (i + 1) a' I') →
      V i a I) :
    ∀ (d i : Nat) (a : α) (I : sm_MI), i + d = m → P i a → mAs Ia I → mD E H S N Ia I → I 76 34 = nI (ν + i) → mU N (I 92) = (ngs E W H S N ν i z).1 → V i a I
  | 0, i, a, I, e, hp, ha, hD, hn, hu => h i a I (by omega) hp ha hD hn hu (fun q => absurd q (by omega))
  | d + 1, i, a, I, e, hp, ha, hD, hn, hu => h i a I (by omega) hp ha hD hn hu (fun _ a' I' hp' ha' hD' hn' hu' => m_loop h d (i + 1) a' I' (by omega) hp' ha' hD' hn' hu')
theorem m_step {F : sm_MI → sm_ML → Prop} {z : w_St} {i : Nat} {Ia : sm_MI} (hB : sm_Bs T) (hR : mRL T W R Ia) (hV : vE E H S N R) (hlb : lb < 256) (hlk : E 0 0 = nI lb) (hr0 : E 0 2 = 0) (hg : E 0 5 = -1) (ha : mAs Ia I) (hD : mD E H S N Ia I) (hn : I 76 34 = nI (ν + i)) (hu : mU N (I 92) = (ngs E W H S N ν i z).1)
    (h : ∀ I' : sm_MI, mAs Ia I' → mD E H S N Ia I' → I' 76 34 = nI (ν + i + 1) → mU N (I' 92) = (ngs E W H S N ν (i + 1) z).1 → F I' L) : sm_CV (n + 7) mX12_calmNight T I L [.ref 76] F :=
  s_m_calmNight hB hR hV hlb hlk hr0 hD hn hu (fun I' f1 hD1 hn1 hu1 _ => h I' (ha.go f1) hD1 hn1 (by rw [hu1]; show _ = (ngt E W H S N (ν + i) (ngs E W H S N ν i z)).1; rw [ngt_n hg]))
theorem p_moon {G : Int32 → Int32 → sm_MI → sm_ML → Prop} {a : Int32} (hR : RR A W H S N R ν lb b T I L) (h : ∀ v I' L', RR A W H S N R ν lb b T I' L' → G v v I' L') :
    sm_CI (n + 20) mX11_moon T I L [.ref 0, .int a] (fun r1 I1 L1 => sm_CI (n + 20) mX12_moon T I1 L1 [.ref 76, .int a] (fun r2 I2 L2 => G r1 r2 I2 L2)) := by
  have hB := hR.hB
  obtain ⟨⟨a1, a2, a3, a4, a5⟩, _, ⟨c1, c2, c3, c4, c5⟩, _, _⟩ := hR.st
  have hH8 := hR.va.2.1
  have e0 : ¬ nI H ≤ 0 → ¬ nI H = 0 := fun q z => q (by rw [z]; decide)
  refine c_X11_moon hB (s_isTold hB ?_)
  rw [a1]
  refine ⟨fun q => c_X12_moon hB ?_, fun q => ⟨fun r => s_isFull hB ?_, fun r => c_X12_moon hB ?_⟩⟩
  · rw [c1]
    have q0 : H = 0 := by
      rcases Nat.eq_zero_or_pos H with z | z
      · exact z
      · exact absurd ((q_told (by omega)).mpr z) (of_decide_eq_false q)
    subst q0
    exact ⟨fun _ => h _ _ _ hR, fun z => absurd rfl z⟩
  · rw [a4, a5]
    refine ⟨fun f => c_X12_moon hB ?_, fun f => c_X12_moon hB ?_⟩
    · rw [c1]
      refine ⟨fun z => absurd z (e0 (of_decide_eq_true q)), fun _ => ⟨fun _ => s_m_isFull hB ?_, fun z => absurd r z⟩⟩
      rw [c4, c5, f]
      exact ⟨fun _ => h _ _ _ hR, fun z => absurd z (by decide)⟩
    · rw [c1]
      refine ⟨fun z => absurd z (e0 (of_decide_eq_true q)), fun _ => ⟨fun _ => s_m_isFull hB ?_, fun z => absurd r z⟩⟩
      rw [c4, c5, f]
      exact ⟨fun z => absurd z (by decide), fun _ => h _ _ _ hR⟩
  · rw [c1]
    exact ⟨fun z => absurd z (e0 (of_decide_eq_true q)), fun _ => ⟨fun z => absurd z r, fun _ => h _ _ _ hR⟩⟩
theorem p_thing {G : Int32 → Int32 → sm_MI → sm_ML → Prop} {a m : Int32} (hR : RR A W H S N R ν lb b T I L) (h : ∀ v I' L', RR A W H S N R ν lb b T I' L' → G v v I' L') :
    sm_CI (n + 20) mX11_thing T I L [.ref 0, .int a, .int m] (fun r1 I1 L1 => sm_CI (n + 20) mX12_thing T I1 L1 [.ref 76, .int a, .int m] (fun r2 I2 L2 => G r1 r2 I2 L2)) := by
  have hB := hR.hB
  obtain ⟨⟨a1, a2, a3, a4, a5⟩, _, ⟨c1, c2, c3, c4, c5⟩, _, c6⟩ := hR.st
  have v4 := hR.va.2.2.2.1
  have mod : ∀ v, (qW a 0 (nI N - 1) = true → qW m 0 1 = true → (¬ m = 0 → v = I 90 a.toNatClampNeg) ∧ (m = 0 → v = I 92 a.toNatClampNeg)) → (qW a 0 (nI N - 1) = false ∨ qW m 0 1 = false → v = -1) → sm_CI (n + 20) mX12_thing T I L [.ref 76, .int a, .int m] (fun r2 I2 L2 => G v r2 I2 L2) := by
    intro v g1 g2
    refine c_X12_thing hB (s_m_isThing hB ?_)
    rw [c3]
    refine ⟨fun q => by rw [g2 (Or.inl q)]; exact h _ _ _ hR, fun q => s_m_in hB ⟨fun r => ?_, fun r => by rw [g2 (Or.inr r)]; exact h _ _ _ hR⟩⟩
    obtain ⟨t, ht, e⟩ := qW_nat (by omega) q
    have hin : vp_in a 8 := by rw [e]; exact vp_in_nI (by omega) (by decide)
    exact ⟨fun z => ⟨hin, by rw [(g1 q r).1 z]; exact h _ _ _ hR⟩, fun z => ⟨hin, by rw [(g1 q r).2 z]; exact h _ _ _ hR⟩⟩
  refine c_X11_thing hB (s_hasThing hB ?_)
  rw [a3]
  refine ⟨fun q => mod _ (fun q' => by rw [q] at q'; exact absurd q' (by decide)) (fun _ => rfl), fun q => s_within hB ⟨fun r => ⟨fun z => s_placeIn hB (mod _ (fun _ _ => ⟨fun _ => ?_, fun z' => absurd z' z⟩) (fun y => ?_)), fun z => s_placeIn hB (mod _ (fun _ _ => ⟨fun z' => absurd z z', fun _ => ?_⟩) (fun y => ?_))⟩, fun r => mod _ (fun _ r' => by rw [r] at r'; exact absurd r' (by decide)) (fun _ => rfl)⟩⟩
  · obtain ⟨t, ht, rfl⟩ := qW_nat (by omega) q
    rw [nI_clamp (by omega), ← mU_at (N := N) (I 90) ht, ← c6.1, cU_at _ ht]
  · rcases y with y | y
    · rw [q] at y; exact absurd y (by decide)
    · rw [r] at y; exact absurd y (by decide)
  · obtain ⟨t, ht, rfl⟩ := qW_nat (by omega) q
    rw [nI_clamp (by omega), ← mU_at (N := N) (I 92) ht, ← hR.u, cU_at _ ht]
  · rcases y with y | y
    · rw [q] at y; exact absurd y (by decide)
    · rw [r] at y; exact absurd y (by decide)
theorem p_house {G : Int32 → Int32 → sm_MI → sm_ML → Prop} {a m : Int32} (hR : RR A W H S N R ν lb b T I L) (h : ∀ v I' L', RR A W H S N R ν lb b T I' L' → G v v I' L') :
    sm_CI (n + 20) mX11_house T I L [.ref 0, .int a, .int m] (fun r1 I1 L1 => sm_CI (n + 20) mX12_house T I1 L1 [.ref 76, .int a, .int m] (fun r2 I2 L2 => G r1 r2 I2 L2)) := by
  have hB := hR.hB
  obtain ⟨⟨a1, a2, a3, a4, a5⟩, _, ⟨c1, c2, c3, c4, c5⟩, _, c6⟩ := hR.st
  have v1 := hR.va.2.1
  have v4 := hR.va.2.2.2.1
  obtain ⟨_, n2, n3, n4, n5, _, _⟩ := hR.now
  refine c_X11_house hB (s_hasHouse hB ?_)
  rw [a1]
  refine ⟨fun q => c_X12_house hB (s_m_isHouse hB ?_), fun q => s_within hB ⟨fun r => ⟨fun z => s_bitOf hB (c_X12_house hB (s_m_isHouse hB ?_)), fun z => s_thingsIn hB a3 v4 (c_X12_house hB (s_m_isHouse hB ?_))⟩, fun r => c_X12_house hB (s_m_isHouse hB ?_)⟩⟩
  · rw [c1, q]
    exact ⟨fun _ => h _ _ _ hR, fun z => absurd z (by decide)⟩
  · rw [c1, q, n4]
    refine ⟨fun y => absurd y (by decide), fun _ => s_m_in hB ?_⟩
    rw [r]
    refine ⟨fun _ => ⟨fun _ => ?_, fun z' => absurd z' z⟩, fun y => absurd y (by decide)⟩
    obtain ⟨t, ht, rfl⟩ := qW_nat (by omega) q
    rw [n5]
    refine s_m_has hB n2 (by omega) ?_
    have hq := qBo_nat lb n2 t (by omega)
    refine ⟨fun y => ?_, fun y => ?_⟩
    · have y' := of_decide_eq_false y
      rw [hq] at y' ⊢
      rw [if_neg (fun g => y' (by rw [if_pos g]))]
      exact h _ _ _ hR
    · rw [of_decide_eq_true y]
      exact h _ _ _ hR
  · rw [c1, q]
    refine ⟨fun y => absurd y (by decide), fun _ => s_m_in hB ?_⟩
    rw [r]
    refine ⟨fun _ => ⟨fun z' => absurd z z', fun _ => s_m_thingsIn hB c3 v4 ?_⟩, fun y => absurd y (by decide)⟩
    rw [hR.u]
    exact h _ _ _ hR
  · rw [c1, q]
    refine ⟨fun y => absurd y (by decide), fun _ => s_m_in hB ?_⟩
    rw [r]
    exact ⟨fun y => absurd y (by decide), fun _ => h _ _ _ hR⟩
end
