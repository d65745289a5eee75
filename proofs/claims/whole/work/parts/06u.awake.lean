section
variable {n : Nat} {T : List sm_Sh} {I I' I1 : sm_MI} {L L' : sm_ML} {A : Nat → Nat → Int32} {H S N R ν lb b ν' lb' b' : Nat} {W : Nat → (Nat → Int32) → Int32} {f u : Nat → Int32}
theorem gEs_fr {sc lt : Nat} (h : gEs H N sc lt I) (f1 : Fr PQ I I') : gEs H N sc lt I' := by
  intro k hk
  rw [f1.at 46 (fun _ => rfl), f1.at 48 (fun _ => rfl), f1.at 50 (fun _ => rfl), f1.at 52 (fun _ => rfl), f1.at 100 (fun _ => rfl), f1.at 101 (fun _ => rfl), f1.at 102 (fun _ => rfl), f1.at 103 (fun _ => rfl)]
  exact h k hk
theorem p_awake {G : Int32 → Int32 → sm_MI → sm_ML → Prop} (hR : RR A W H S N R ν lb b T I L) (h : ∀ v I' L', RR A W H S N R ν lb b T I' L' → G v v I' L') :
    sm_CI (n + 20) mX11_awake T I L [.ref 0] (fun r1 I1 L1 => sm_CI (n + 20) mX12_awake T I1 L1 [.ref 76] (fun r2 I2 L2 => G r1 r2 I2 L2)) := by
  have hB := hR.hB
  obtain ⟨⟨a1, a2, a3, a4, a5⟩, _, ⟨c1, c2, c3, c4, c5⟩, _, _⟩ := hR.st
  have v1 := hR.va.2.1
  have v3 := hR.va.2.2.1
  obtain ⟨sc, lt, s1, s2, s3, s4, s5, s6⟩ := hR.ge
  have hen : gEs H N sc lt I := s6
  refine c_X11_awake hB (fun x hx => s_isTold hB ?_)
  rw [a1]
  refine ⟨fun q => ?_, fun q => c_X12_awake hB (fun x hx => ⟨fun z => absurd ?_ z, fun _ => h _ _ _ hR⟩)⟩
  · have h0 : 0 < H := (q_told (by omega)).mp (of_decide_eq_true q)
    have hlt : ∀ w, bitsOf (fiS A W H S N ν lb (fun _ => -1) I sc lt (cU N (I 35 0)) w) H < 256 := fun w => Nat.lt_of_lt_of_le (bitsOf_lt _ H) (Nat.pow_le_pow_right (by decide) v1)
    have key : ∀ d w (I2 : sm_MI) (L2 : sm_ML), w + d = S → RR A W H S N R ν lb b T I2 L2 → Fr PQ I I2 → sm_V x 0 0 T I2 L2 16 [some (.ref 0), some (.int (nI (bitsOf (fun w => decide (bitsOf (fiS A W H S N ν lb (fun _ => -1) I sc lt (cU N (I 35 0)) w) H = 0)) w))), some (.int (nI w))] [] := by
      intro d
      induction d with
      | zero =>
        intro w I2 L2 e hR2 f2
        refine u_X11_awake_16 hB hx ⟨fun _ => ?_, fun q => absurd (by rw [hR2.st.1.2.1]; exact nI_le (by omega) (by omega)) q⟩
        have hwS : w = S := by omega
        refine c_X12_awake hB (fun x hx => ⟨fun _ => ?_, fun z => absurd (hR2.st.2.2.1.1.symm.trans z) (nI_ne0 h0 (by omega))⟩)
        have mkey : ∀ d' w' (I3 : sm_MI), w' + d' = S → mX N ν (fun _ => -1) (mU N (I2 92)) I2 I3 → sm_V x 0 0 T I3 L2 13 [some (.ref 76), some (.int (nI (bitsOf (fun w => decide (bitsOf (fiS A W H S N ν lb (fun _ => -1) I sc lt (cU N (I 35 0)) w) H = 0)) w'))), some (.int (nI w'))] [] := by
          intro d'
          induction d' with
          | zero =>
            intro w' I3 e' hX
            have : w' = w := by omega
            subst this
            have e27 : I3 76 27 = nI S := (hX.1 76 27 rfl).trans hR2.st.2.2.1.2.1
            exact u_X12_awake_13 hB hx ⟨fun _ => h _ _ _ (mX_RR hR2 hX), fun q => absurd (by rw [e27]; exact nI_le (by omega) (by omega)) q⟩
          | succ d' ih' =>
            intro w' I3 e' hX
            have e27 : I3 76 27 = nI S := (hX.1 76 27 rfl).trans hR2.st.2.2.1.2.1
            refine u_X12_awake_13 hB hx ⟨fun q => absurd q (by rw [e27]; exact nI_ge (by omega) (by omega)), fun _ => s_m_fitsOf (n := n + 9) hR2 h0 ((f2 76 51 rfl).trans s4) s1 (gEs_30 (gEs_fr hen f2) s2) hX (by omega) (fun I4 hX4 => ?_)⟩
            rw [upd_m1] at hX4
            have go := ih' (w' + 1) I4 (by omega) hX4
            rw [fiS_30 (gEs_fr hen f2) s2, fiS_fr f2, ← hR2.u, f2 35 0 rfl, nI_1, q_0 (by have := hlt w'; omega)]
            refine ⟨fun z => ?_, fun z => ?_⟩
            · rw [bitsOf_no (decide_eq_false z)] at go
              rw [Int32.or_zero]
              exact go
            · rw [bitsOf_or (by omega) (decide_eq_true z)]
              exact go
        exact mkey S 0 I2 (by omega) (mX_rf hR2)
      | succ d ih =>
        intro w I2 L2 e hR2 f2
        refine u_X11_awake_16 hB hx ⟨fun q => absurd q (by rw [hR2.st.1.2.1]; exact nI_ge (by omega) (by omega)), fun _ => s_fittingSteps (n := n + 10) hR2 h0 ((f2 44 4 rfl).trans s3) s1 s2 ((f2 44 5 rfl).trans s5) (gEs_fr hen f2) (by omega) (fun I3 L3 hR3 f3 => ?_)⟩
        have go := ih (w + 1) I3 L3 (by omega) hR3 (f2.tr f3)
        rw [fiS_fr f2, f2 35 0 rfl, nI_1, q_0 (by have := hlt w; omega)]
        refine ⟨fun z => ?_, fun z => ?_⟩
        · rw [bitsOf_no (decide_eq_false z)] at go
          exact go
        · rw [bitsOf_or (by omega) (decide_eq_true z)]
          exact go
    exact key S 0 I L (by omega) hR Fr.rf
  · have q0 : H = 0 := by
      rcases Nat.eq_zero_or_pos H with z | z
      · exact z
      · exact absurd ((q_told (by omega)).mpr z) (of_decide_eq_false q)
    rw [c1, q0]; rfl
end
