section
variable {n : Nat} {T : List sm_Sh} {I I' I1 : sm_MI} {L L' : sm_ML} {A : Nat → Nat → Int32} {H S N R ν lb b ν' lb' b' : Nat} {W : Nat → (Nat → Int32) → Int32} {E : Nat → Nat → Int32}
theorem p_fullest {G : Int32 → Int32 → sm_MI → sm_ML → Prop} {m what : Int32} (hR : RR A W H S N R ν lb b T I L) (h : ∀ v I' L', RR A W H S N R ν lb b T I' L' → G v v I' L') :
    sm_CI (n + 20) mX11_fullest T I L [.ref 0, .int m, .int what] (fun r1 I1 L1 => sm_CI (n + 20) mX12_fullest T I1 L1 [.ref 76, .int m, .int what] (fun r2 I2 L2 => G r1 r2 I2 L2)) := by
  have hB := hR.hB
  obtain ⟨⟨a1, a2, a3, a4, a5⟩, _, ⟨c1, c2, c3, c4, c5⟩, _, _⟩ := hR.st
  have v1 := hR.va.2.1
  have v4 := hR.va.2.2.2.1
  have bad : (H = 0 ∨ qW m 1 60 = false ∨ qW what 0 2 = false) → sm_CI (n + 20) mX12_fullest T I L [.ref 76, .int m, .int what] (fun r2 I2 L2 => G (-1) r2 I2 L2) := by
    intro w
    refine c_X12_fullest hB (fun x hx => s_m_areNights hB ?_)
    rw [c1]
    refine ⟨fun _ => h _ _ _ hR, fun q => s_m_in hB ⟨fun q3 => ?_, fun _ => h _ _ _ hR⟩⟩
    rw [Bool.and_eq_true] at q
    rcases w with w | w | w
    · have := (q_told (by omega)).mp (of_decide_eq_true q.1); omega
    · rw [q.2] at w; exact absurd w (by decide)
    · rw [q3] at w; exact absurd w (by decide)
  refine c_X11_fullest hB (fun x hx => s_isTold hB ?_)
  rw [a1]
  refine ⟨fun q => bad (Or.inl ?_), fun q1 => s_within hB ⟨fun q => bad (Or.inr (Or.inl q)), fun q4 => s_within hB ⟨fun q5 => ?_, fun q => bad (Or.inr (Or.inr q))⟩⟩⟩
  · rcases Nat.eq_zero_or_pos H with z | z
    · exact z
    · exact absurd ((q_told (by omega)).mpr z) (of_decide_eq_false q)
  have h0 : 0 < H := (q_told (by omega)).mp (of_decide_eq_true q1)
  obtain ⟨k, hk1, hk2, rfl⟩ := qW_rng (lo := 1) (hi := 60) (by decide) (by decide) q4
  have hb := hR.bb
  have hν := hR.now.1
  refine s_begin_R (n := n + 18) hR (fun I1 z g f1 e65 e67 e12 hD hz z1 zc zd => ?_)
  refine c_loop (W := W) (E := E0 A lb g) (z := z) (m := k) (Ia := I) (I0 := I) (L := L) (R := R) (P := pFu (E0 A lb g) W H S N ν z) (V := fun i a I' L' => ∀ u7 u8 : Option Value, sm_V x 0 0 T I' L' 53 [some (.ref 0), some (.int (nI k)), some (.int what), some (.int (nI a.1)), some (.int a.2.1), some (.int a.2.2), some (.int (nI (i + 1))), u7, u8] []) (fun i a I' him hp hf hD hz next u7 u8 => ?_) k 0 (0, -1, -1) I1 (by omega) ⟨rfl, by decide⟩ f1 hD hz none none
  refine u_X11_fullest_53 hB hx ⟨fun q => ?_, fun q => c_step (n := n + 13) (E := E0 A lb g) hB hR.rl (vE_mk hR.va h0) (Or.inl rfl) (by omega) hf hD hz (fun I2 f2 hD2 hz2 => s_fullestHouse (n := n + 17) (H := H) (N := N) hB hD2.1.1.1 hD2.1.1.2.2.1 h0 v1 v4 (s_thingsIn hB hD2.1.1.2.2.1 v4 (s_BC ?_)))⟩
  · have : i = k := by have := q_ltI q (by omega) (by omega); omega
    subst this
    have hR2 := RR_c (v := (ngs (E0 A lb g) W H S N ν i z).2.2.1) hR hf (Cok_of hD)
    have fin : ∀ v, v = (if what = 0 then nI a.1 else if what = 1 then a.2.1 else a.2.2) → sm_CI (n + 20) mX12_fullest T I' (sm_uL L 53 3 (ngs (E0 A lb g) W H S N ν i z).2.2.1) [.ref 76, .int (nI i), .int what] (fun r2 I2 L2 => G v r2 I2 L2) := by
      intro v hv
      refine m_fullest (g := g) (z := z) hR2 h0 hk1 hk2 q5 (by rw [← hR2.u, z1, hf 35 0 rfl]) (fun I3 a' h' hp' => ?_)
      have : a' = a := by rw [hp'.1, hp.1]
      rw [this, ← hv]
      exact h _ _ _ h'
    exact ⟨fun y => ⟨fun y2 => fin _ (by rw [if_neg y, if_neg y2]), fun y2 => fin _ (by rw [if_neg y, if_pos y2])⟩, fun y => fin _ (by rw [if_pos y])⟩
  · have hik : i < k := by have := q_nltI q (by omega) (by omega); omega
    rw [hz2.1, thC_BC v4]
    have ec : (fun hh => thC (ngs (E0 A lb g) W H S N ν (i + 1) z).1 (nI hh) N) = fuC (E0 A lb g) W H S N ν z i := rfl
    rw [ec]
    have em : thC (ngs (E0 A lb g) W H S N ν (i + 1) z).1 (nI (fhA (fuC (E0 A lb g) W H S N ν z i) (H - 1))) N = fhM (fuC (E0 A lb g) W H S N ν z i) (H - 1) := by rw [fhM_A]; rfl
    have hml : fhM (fuC (E0 A lb g) W H S N ν z i) (H - 1) ≤ 8 := by rw [fhM_A]; exact Nat.le_trans (thC_le _ _ _) v4
    have ha8 := hp.2
    have hs := pFu_s v4 hp
    rw [em, nI_leI (by omega) (by omega), nI_1]
    unfold fuN at hs
    refine ⟨fun r => ?_, fun r => ?_⟩
    · rw [if_neg (by omega)] at hs
      exact next hik a I2 hs f2 hD2 hz2 _ _
    · rw [if_pos (by omega)] at hs
      exact next hik _ I2 hs f2 hD2 hz2 _ _
end
