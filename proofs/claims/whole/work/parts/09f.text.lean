/-! ===== p_text ===== -/
section
variable {n : Nat} {T T2 T3 : List sm_Sh} {I I0 I1 I2 I3 J I' : sm_MI} {L L0 L2 L3 : sm_ML} {A : Nat → Nat → Int32} {W : Nat → (Nat → Int32) → Int32} {H S N R ν lb b : Nat}
theorem Bs_rule {m r : Nat} {v v' : Option Value} (hB : sm_Bs T) (hM : kMade T I0 L0 m v T2 I2 L2) (hAd : kAddF T2 I2 L2 R r v' T3 I3 L3) : sm_Bs T3 := by
  obtain ⟨-, a1, a2, -⟩ := hM
  obtain ⟨-, e0, old, hold, -, e1, r1, b1, b2, b3, b4, b5, b6, b7, -⟩ := hAd
  have lB : 109 < T.length := lt_of (t_109 hB)
  intro k s hs
  obtain ⟨k1, k2⟩ := Bs_lt hs
  have h := hB k s hs
  rw [b7 k (by omega) k2 (fun e => ?_), a2 k (by omega)]
  · exact h
  · subst e
    rcases hold with ⟨_, z⟩ | ⟨r0, ge, _, z, _⟩ <;> omega
/-- what the law does behind the class's text: the model's -/
def kTx (n : Nat) (a : Int32) (G : Int32 → Int32 → List sm_Sh → sm_MI → sm_ML → Prop) : sm_K := fun v T1 I1 L1 => ∃ z, v = some (.int z) ∧ sm_Bs T1 ∧ sm_CI (n + 45) mX12_text T1 I1 L1 [.ref 76, .int a] (fun r2 I2 L2 => G z r2 T1 I2 L2)
theorem p_text {G : Int32 → Int32 → List sm_Sh → sm_MI → sm_ML → Prop} {a : Int32} (hR : RR A W H S N R ν lb b T I L) (hA : AL T R) (hl : T.length + 6 < 1000000)
    (h : ∀ v A' W' H' S' N' R' ν' lb' T' I' L', RR A' W' H' S' N' R' ν' lb' b T' I' L' → AL T' R' → ((T' = T ∧ R' = R) ∨ (R' = R + 1 ∧ T'.length ≤ T.length + 6)) → G v v T' I' L') :
    sm_Call (n + 45) 6 400 mX11_text T I L [.ref 0, .int a] (kTx n a G) := by
  have hB := hR.hB
  have lB : 109 < T.length := lt_of (t_109 hB)
  obtain ⟨e0, h23⟩ := hA.at
  obtain ⟨len, Hh, hC, hM⟩ := hTp_ok hR.gt
  have hlen := Hh.1
  have hok := strP_ok Hh
  have hlaw := PK_law Hh 160 0 [] (Nat.zero_le _) (fun c hc => absurd hc List.not_mem_nil) (Nat.le_refl _) (Nat.le_refl _) (Nat.le_refl _)
  have hR5 := hR.va.2.2.2.2.1
  obtain ⟨r23, r13, r39, r93⟩ := hR.gm
  generalize hTp I len = hf at Hh hC hM hok hlaw
  have keep : ∀ {v I' L'}, RR A W H S N R ν lb b T I' L' → G v v T I' L' := fun hR' => h _ _ _ _ _ _ _ _ _ _ _ _ hR' hA (Or.inl ⟨rfl, rfl⟩)
  have up1 : ∀ I1, Fr kDS I I1 → RR A W H S N R ν lb b T I1 L := fun I1 f => RR_r hR (f.mono (fun k j => kDS_q)) (f.at 92 (fun _ => rfl)) (f 76 34 rfl) (f.at 65 (fun _ => rfl)) (f.at 67 (fun _ => rfl)) (fun i hi => mRK_up (RR_mrk hR i hi) (f 81 _ rfl) (fun j _ => ⟨f 78 _ rfl, f 79 _ rfl⟩) (fun j _ => ⟨f 82 _ rfl, f 83 _ rfl, f 84 _ rfl⟩))
  have up2 : ∀ I1 I2, RR A W H S N R ν lb b T I1 L → Fr kMS I1 I2 → RR A W H S N R ν lb b T I2 L := fun I1 I2 hR1 f => RR_r hR1 (f.mono (fun k j => kMS_q)) (f.at 92 (fun _ => rfl)) (f 76 34 rfl) (f.at 65 (fun _ => rfl)) (f.at 67 (fun _ => rfl)) (fun i hi => mRK_up (RR_mrk hR1 i hi) (f 81 _ rfl) (fun j _ => ⟨f 78 _ rfl, f 79 _ rfl⟩) (fun j _ => ⟨f 82 _ rfl, f 83 _ rfl, f 84 _ rfl⟩))
  -- the street
  have h0 : ∀ K : sm_K, (∀ z I1 L1, sm_CI (n + 45) mX12_text T I1 L1 [.ref 76, .int a] (fun r2 I2 L2 => G z r2 T I2 L2) → K (some (.int z)) T I1 L1) → a = 0 → sm_CI (n + 38 + 6) mX9_read T I L [.ref 4] (fun r I1 L1 => (¬ r = -1 → K (some (.int (-1))) T I1 L1) ∧ (r = -1 → sm_CV (n + 38 + 6) mX11_moveInto T (sm_uI I1 1 1 0) L1 [.ref 0, .ref 5] (fun I2 L2 => K (some (.int (I2 24 1))) T I2 L2))) := by
    intro K hK q0
    refine d_street (n := n + 35) hB Hh hC ?_
    cases hs : strP hf len with
    | inl e =>
      rw [hs] at hok
      have he : nI e ≠ -1 := by
        have : e ≤ len := hok
        exact nI_m1 (by omega)
      intro I1 f1
      refine ⟨fun _ => hK _ _ _ ?_, fun z => absurd z he⟩
      refine c_X12_text hB ⟨fun z => absurd q0 z, fun _ => n_street (n := n + 39) hB Hh (MTs_fr hM f1 rfl (fun _ => rfl)) ?_⟩
      rw [hs]
      intro I2 f2
      exact ⟨fun _ => ⟨fun _ => keep (up2 I1 I2 (up1 I1 f1) f2), fun z => absurd (q0.symm.trans z) (by decide)⟩, fun z => absurd z he⟩
    | inr q =>
      rw [hs] at hok
      obtain ⟨k1, k2, k3, k4, k5⟩ := hok
      intro J1 f1 D1
      refine ⟨fun z => absurd rfl z, fun _ => s_moveInto (n := n + 40) hB (fun J4 f4 c24 c26 c35 => hK _ _ _ ?_)⟩
      have hM4 : MTs hf len J4 := by
        have m1 : MTs hf len J1 := MTs_fr hM f1 rfl (fun _ => rfl)
        exact ⟨by rw [f4 76 2 rfl, cuD (by omega)]; exact m1.1, fun j hj => by rw [f4 77 j rfl, cuD (by omega)]; exact m1.2 j hj⟩
      refine c_X12_text hB ⟨fun z => absurd q0 z, fun _ => n_street (n := n + 39) hB Hh hM4 ?_⟩
      rw [hs]
      intro J5 f5 D5
      refine ⟨fun z => absurd rfl z, fun _ => n_takeStreet hB (fun J6 f6 m26 m89 m90 m91 m33 => ?_)⟩
      have e1 : J4 24 1 = nI q.2.1.length := by rw [c24.2.1, cuD (by omega)]; exact D1.1.2.1
      have e2 : J6 76 27 = nI q.2.1.length := by rw [m26.2.1, cuD (by omega)]; exact D5.1.2.1
      rw [e1, e2]
      exact h _ _ _ _ _ _ _ _ _ _ _ _ (RR_moved hR k1 k2 k3 k4 k5 f1 D1 f4 c24 c26 c35 f5 D5 f6 m26 m89 m90 m91 m33) hA (Or.inl ⟨rfl, rfl⟩)
  have h2 : ∀ K : sm_K, (∀ z I1 L1, sm_CI (n + 45) mX12_text T I1 L1 [.ref 76, .int a] (fun r2 I2 L2 => G z r2 T I2 L2) → K (some (.int z)) T I1 L1) → ¬ a = 0 → ¬ a = 1 → K (some (.int (-1))) T I L := by
    intro K hK q0 q1
    exact hK _ _ _ (c_X12_text hB ⟨fun _ => ⟨fun _ => keep hR, fun z => absurd z q1⟩, fun z => absurd z q0⟩)
  -- five rules already
  have full : a = 1 → 5 ≤ I 23 2 → sm_CI (n + 45) mX12_text T I L [.ref 76, .int a] (fun r2 I2 L2 => G (-1) r2 T I2 L2) := by
    intro q1 q5
    rw [r23] at q5
    refine c_X12_text hB ⟨fun q0 => ⟨fun z => absurd q1 z, fun _ => ⟨fun _ => keep hR, fun z => absurd ?_ z⟩⟩, fun z => absurd (z.symm.trans q1) (by decide)⟩
    rw [r13]; exact q5
  have K0 : ∀ z T1 I1 L1, sm_Bs T1 → sm_CI (n + 45) mX12_text T1 I1 L1 [.ref 76, .int a] (fun r2 I2 L2 => G z r2 T1 I2 L2) → kTx n a G (some (.int z)) T1 I1 L1 := fun z T1 I1 L1 kb k => ⟨z, rfl, kb, k⟩
  cases hq : lawP hf len 160 0 [] with
  | inl e =>
    rw [hq] at hlaw
    have he : nI e ≠ -1 := by
      have : e ≤ len := hlaw
      exact nI_m1 (by omega)
    refine c_text (n := n + 38) (s1 := 0) hB h23 (by decide) (h0 (kTx n a G) (fun z I1 L1 k => K0 z T I1 L1 hB k)) (h2 (kTx n a G) (fun z I1 L1 k => K0 z T I1 L1 hB k)) (fun q1 => ⟨fun q5 => ⟨_, rfl, hB, full q1 q5⟩, fun q5 => ?_⟩)
    have q0 : ¬ a = 0 := fun z => absurd (z.symm.trans q1) (by decide)
    refine c_read (n := n + 11) hB Hh hC ?_
    rw [hq]
    intro p' k' f' g'
    refine ⟨fun _ => K0 _ _ _ _ hB ?_, fun z => absurd z he⟩
    have f : Fr kRd I (rS I p' k' f' g') := rS_fr
    have e13 : (rS I p' k' f' g') 76 13 = nI R := (f 76 13 rfl).trans r13
    obtain ⟨m2, m7⟩ := CTp_h hM f
    refine c_X12_text hB ⟨fun _ => ⟨fun z => absurd q1 z, fun _ => ⟨fun _ => keep (RR_rd hR f), fun _ => ?_⟩⟩, fun z => absurd z q0⟩
    rw [e13]
    refine m_read (n := n + 7) (t := R) hB Hh (by omega) m2 m7 ?_
    rw [hq]
    intro J hX
    exact ⟨fun _ => keep (RR_lx (RR_rd hR f) (Nat.le_refl _) hX), fun z => absurd z he⟩
  | inr CL =>
    rw [hq] at hlaw
    obtain ⟨hCL, hm, _, h3⟩ := hlaw
    refine c_text (n := n + 38) (s1 := 2 * (layC 0 CL).length + 4) hB h23 (by omega) (h0 (kTx n a G) (fun z I1 L1 k => K0 z T I1 L1 hB k)) (h2 (kTx n a G) (fun z I1 L1 k => K0 z T I1 L1 hB k)) (fun q1 => ⟨fun q5 => ⟨_, rfl, hB, full q1 q5⟩, fun q5 => ?_⟩)
    have q0 : ¬ a = 0 := fun z => absurd (z.symm.trans q1) (by decide)
    have hRl : R < 5 := by
      rcases Nat.lt_or_ge R 5 with z | z
      · exact z
      · exact absurd (by rw [r23]; exact nI_le (a := 5) z (by omega)) q5
    refine c_read (n := n + 11) hB Hh hC ?_
    rw [hq]
    intro p' f' g' hc
    have f : Fr kRd I (rS I p' (layC 0 CL).length f' g') := rS_fr
    have e18 : (rS I p' (layC 0 CL).length f' g') 18 4 = nI (layC 0 CL).length := rfl
    have c1 : ∀ j, j < (layC 0 CL).length → (rS I p' (layC 0 CL).length f' g') 20 j = (atP (layC 0 CL) j).1 ∧ (rS I p' (layC 0 CL).length f' g') 22 j = (atP (layC 0 CL) j).2 := hc
    generalize rS I p' (layC 0 CL).length f' g' = I1 at f e18 c1 ⊢
    refine ⟨fun z => absurd rfl z, fun _ => ?_⟩
    refine sm_Call.mono (k_made (n := n + 39) (m := (layC 0 CL).length) hB (by rw [cuD (by omega)]; exact e18) (by omega) (by omega)) (fun v T2 I2 L2 hMd => ?_)
    have hv := hMd.1
    subst hv
    have a1 := hMd.2.1
    have a2 := hMd.2.2.1
    have hA2 : AL T2 R := by
      rcases hA with ⟨z1, z2⟩ | ⟨e2, r2, z1, z2, z3, z4⟩
      · exact Or.inl ⟨z1, (a2 23 (by omega)).trans z2⟩
      · exact Or.inr ⟨e2, r2, z1, (a2 23 (by omega)).trans z2, (a2 e2 (lt_of z3)).trans z3, z4⟩
    refine ⟨T.length, e0, rfl, (a2 23 (by omega)).trans h23, ?_⟩
    have i23 : I2 23 2 = nI R := by
      rw [(hMd.2.2.2.2.2.2 23 (by omega)).1, cuD (by omega), f 23 2 rfl]; exact r23
    refine sm_Call.mono (k_add (n := n + 39) (r := T.length) (R := R) hA2 i23 (by omega) ⟨_, hMd.2.2.2.1⟩ (by omega) (by omega) (by omega)) (fun v3 T3 I3 L3 hAd => ?_)
    have hv3 := hAd.1
    subst hv3
    have hB3 := Bs_rule hB hMd hAd
    have hAd2 := hAd
    obtain ⟨-, e3, old, hold, -, e1, r1, b1, b2, b3, b4, b5, b6, b7, b8, b9, b10, b11, b12⟩ := hAd2
    refine ⟨rfl, hB3, ⟨e1, b2⟩, K0 _ _ _ _ hB3 ?_⟩
    have up : ∀ k j, k < T.length → k ≠ 23 → ¬ (k = 1 ∧ j = 1) → kRd k j = false → I3 k j = I k j := fun k j hk hk2 hk3 hk4 => by
      rw [b11 k (by omega) hk2, (hMd.2.2.2.2.2.2 k hk).1, cuD hk3, f k j hk4]
    have e13 : I3 76 13 = nI R := (up 76 13 (by omega) (by omega) (by omega) rfl).trans r13
    refine c_X12_text hB3 ⟨fun _ => ⟨fun z => absurd q1 z, fun _ => ⟨fun z => absurd z (by rw [e13]; exact nI_ge (b := 5) (by omega) (by omega)), fun _ => ?_⟩⟩, fun z => absurd z q0⟩
    rw [e13]
    refine m_read (n := n + 7) (t := R) hB3 Hh (by omega) ((up 76 2 (by omega) (by omega) (by omega) rfl).trans hM.1) (fun j hj => (up 77 j (by omega) (by omega) (by omega) rfl).trans (hM.2 j hj)) ?_
    rw [hq]
    intro J hX h81 hlay
    refine ⟨fun z => absurd rfl z, fun _ I3' h3' I4' h4' => ?_⟩
    have j13 : I3' 76 13 = nI R := by
      rw [h3', cuD (by omega), hX 76 13 (by omega) (by omega) (by omega) (by omega)]; exact e13
    rw [j13, nI_1, h3'] at h4'
    subst h4'
    obtain ⟨x1, x2, x3⟩ := RR_rule hR hA hRl hl hCL (by omega) (by omega) f c1 hMd hAd hX h81 hlay
    rw [b10, cuA]
    exact h _ _ _ _ _ _ _ _ _ _ _ _ x1 x2 (Or.inr ⟨rfl, x3⟩)
end
