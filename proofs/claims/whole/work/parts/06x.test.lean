def teH (ki : Nat → Nat → Int32) (t : Nat) (a : Int32 × Int32) : Nat → Int32 × Int32
  | 0 => a
  | h + 1 => if ki t h ≤ (teH ki t a h).1 then teH ki t a h else (ki t h, 10 * nI t + nI h)
def teT (ki : Nat → Nat → Int32) (H : Nat) : Nat → Int32 × Int32
  | 0 => (0, -1)
  | t + 1 => teH ki t (teT ki H t) H
section
variable {n : Nat} {T : List sm_Sh} {I I' I1 : sm_MI} {L L' : sm_ML} {A : Nat → Nat → Int32} {H S N R ν lb b ν' lb' b' : Nat} {W : Nat → (Nat → Int32) → Int32} {f u : Nat → Int32}
theorem p_test {G : Int32 → Int32 → sm_MI → sm_ML → Prop} {a m what : Int32} (hR : RR A W H S N R ν lb b T I L) (h : ∀ v I' L', RR A W H S N R ν lb b T I' L' → G v v I' L') :
    sm_CI (n + 20) mX11_test T I L [.ref 0, .int a, .int m, .int what] (fun r1 I1 L1 => sm_CI (n + 20) mX12_test T I1 L1 [.ref 76, .int a, .int m, .int what] (fun r2 I2 L2 => G r1 r2 I2 L2)) := by
  have hB := hR.hB
  obtain ⟨⟨a1, a2, a3, a4, a5⟩, _, ⟨c1, c2, c3, c4, c5⟩, _, _⟩ := hR.st
  have v1 := hR.va.2.1
  have v3 := hR.va.2.2.1
  have v4 := hR.va.2.2.2.1
  have bad : (qW a 0 (nI S - 1) = false ∨ qW m 1 60 = false ∨ qW what 0 1 = false) → sm_CI (n + 20) mX12_test T I L [.ref 76, .int a, .int m, .int what] (fun r2 I2 L2 => G (-1) r2 I2 L2) := by
    intro w
    refine c_X12_test hB (fun x hx => s_m_isSleeper hB ?_)
    rw [c2]
    refine ⟨fun _ => h _ _ _ hR, fun q1 => s_m_areNights hB ?_⟩
    obtain ⟨t, ht, e⟩ := qW_nat (by omega) q1
    rw [c1, an_ok (gV_S hR.va ht) (by omega)]
    refine ⟨fun _ => h _ _ _ hR, fun q2 => s_m_in hB ⟨fun q3 => ?_, fun _ => h _ _ _ hR⟩⟩
    rcases w with w | w | w
    · rw [q1] at w; exact absurd w (by decide)
    · rw [q2] at w; exact absurd w (by decide)
    · rw [q3] at w; exact absurd w (by decide)
  refine c_X11_test hB (fun x hx => s_hasSleeper hB ?_)
  rw [a2]
  refine ⟨fun q => bad (Or.inl q), fun q1 => s_within hB ⟨fun q => bad (Or.inr (Or.inl q)), fun q2 => s_within hB ⟨fun q3 => ?_, fun q => bad (Or.inr (Or.inr q))⟩⟩⟩
  obtain ⟨w, hw, rfl⟩ := qW_nat (by omega) q1
  obtain ⟨k, hk1, hk2, rfl⟩ := qW_rng (lo := 1) (hi := 60) (by decide) (by decide) q2
  have h0 := gV_S hR.va hw
  have key : ∀ (ki : Nat → Nat → Int32), ki = (fun t hh => qBC (kb A W H S N ν lb w k t (upd (cU N (I 35 0)) t (nI hh)) H)) → ∀ d t (I2 : sm_MI) (L2 : sm_ML) (u7 u8 : Option Value), t + d = N → RR A W H S N R ν lb b T I2 L2 → Fr PQ I I2 → sm_V x 0 0 T I2 L2 41 [some (.ref 0), some (.int (nI w)), some (.int (nI k)), some (.int what), some (.int (teT ki H t).1), some (.int (teT ki H t).2), some (.int (nI t)), u7, u8] [] := by
    intro ki hki d
    induction d with
    | zero =>
      intro t I2 L2 u7 u8 e hR2 f2
      have htN : t = N := by omega
      have mod : ∀ v, v = (if what = 0 then (teT ki H N).2 else (teT ki H N).1) → sm_CI (n + 20) mX12_test T I2 L2 [.ref 76, .int (nI w), .int (nI k), .int what] (fun r2 I2 L2 => G v r2 I2 L2) := by
        intro v hv
        obtain ⟨_, _, ⟨d1, d2, d3, d4, d5⟩, _, _⟩ := hR2.st
        refine c_X12_test hB (fun x hx => s_m_isSleeper hB ?_)
        rw [d2, q1]
        refine ⟨fun y => absurd y (by decide), fun _ => s_m_areNights hB ?_⟩
        rw [d1, an_ok h0 (by omega), q_60 hk1 hk2]
        refine ⟨fun y => absurd y (by decide), fun _ => s_m_in hB ?_⟩
        rw [q3]
        refine ⟨fun _ => ?_, fun y => absurd y (by decide)⟩
        have eu : mU N (I2 92) = cU N (I 35 0) := by rw [← hR2.u, f2 35 0 rfl]
        have mkey : ∀ d' t' (I3 : sm_MI) (u7 u8 u9 : Option Value), t' + d' = N → mX N ν (fun _ => -1) (cU N (I 35 0)) I2 I3 → sm_V x 0 0 T I3 L2 36 [some (.ref 76), some (.int (nI w)), some (.int (nI k)), some (.int what), some (.int (teT ki H t').2), some (.int (teT ki H t').1), some (.int (nI t')), u7, u8, u9] [] := by
          intro d'
          induction d' with
          | zero =>
            intro t' I3 u7 u8 u9 e' hX
            have : t' = N := by omega
            subst this
            have e28 : I3 76 28 = nI t' := (hX.1 76 28 rfl).trans d3
            rw [← eu] at hX
            have hf := h v _ _ (mX_RR hR2 hX)
            refine u_X12_test_36 hB hx ⟨fun _ => ⟨fun z => ?_, fun z => ?_⟩, fun q => absurd (by rw [e28]; exact nI_le (Nat.le_refl _) (by omega)) q⟩
            · rw [if_neg z] at hv; rw [hv] at hf ⊢; exact hf
            · rw [if_pos z] at hv; rw [hv] at hf ⊢; exact hf
          | succ d' ih' =>
            intro t' I3 u7 u8 u9 e' hX
            have e28 : I3 76 28 = nI N := (hX.1 76 28 rfl).trans d3
            refine u_X12_test_36 hB hx ⟨fun q => absurd q (by rw [e28]; exact nI_ge (by omega) (by omega)), fun _ => ⟨vp_in_nI (by omega) (by decide), ?_⟩⟩
            rw [nI_clamp (by omega), ← mU_at (N := N) (I3 92) (by omega), hX.2.1]
            have inner : ∀ d2 hh (I4 : sm_MI) (u' : Nat → Int32) (u9 : Option Value), hh + d2 = H → mX N ν (fun _ => -1) u' I2 I4 → (∀ y, upd u' t' y = upd (cU N (I 35 0)) t' y) → sm_V x 0 0 T I4 L2 57 [some (.ref 76), some (.int (nI w)), some (.int (nI k)), some (.int what), some (.int (teH ki t' (teT ki H t') hh).2), some (.int (teH ki t' (teT ki H t') hh).1), some (.int (nI t')), some (.int (cU N (I 35 0) t')), some (.int (nI hh)), u9] [] := by
              intro d2
              induction d2 with
              | zero =>
                intro hh I4 u' u9 e2 hX4 hu'
                have hhH : hh = H := by omega
                have e26 : I4 76 26 = nI H := (hX4.1 76 26 rfl).trans d1
                refine u_X12_test_57 hB hx ⟨fun _ => ⟨vp_in_nI (by omega) (by decide), ?_⟩, fun q => absurd (by rw [e26]; exact nI_le (by omega) (by omega)) q⟩
                rw [nI_clamp (by omega), nI_1]
                have hX5 := mX_lie (v := cU N (I 35 0) t') hX4 (show t' < N by omega)
                rw [hu', upd_id rfl] at hX5
                have go := ih' (t' + 1) _ (some (.int (cU N (I 35 0) t'))) (some (.int (nI hh))) u9 (by omega) hX5
                have et : teT ki H (t' + 1) = teH ki t' (teT ki H t') hh := by rw [hhH]; rfl
                rw [et] at go
                exact go
              | succ d2 ih2 =>
                intro hh I4 u' u9 e2 hX4 hu'
                have e26 : I4 76 26 = nI H := (hX4.1 76 26 rfl).trans d1
                refine u_X12_test_57 hB hx ⟨fun q => absurd q (by rw [e26]; exact nI_ge (by omega) (by omega)), fun _ => ⟨vp_in_nI (by omega) (by decide), ?_⟩⟩
                rw [nI_clamp (by omega)]
                have hX5 := mX_lie (v := nI hh) hX4 (show t' < N by omega)
                rw [hu'] at hX5
                refine s_m_kinds (n := n + 9) hR2 h0 hw (by omega) hk1 hk2 hX5 (fun I5 hX6 => ?_)
                have go := ih2 (hh + 1) I5 _ (some (.int (qBC (kb A W H S N ν lb w k t' (upd (cU N (I 35 0)) t' (nI hh)) H)))) (by omega) hX6 (fun y => upd_2)
                have ek : qBC (kb A W H S N ν lb w k t' (upd (cU N (I 35 0)) t' (nI hh)) H) = ki t' hh := by rw [hki]
                have es : teH ki t' (teT ki H t') (hh + 1) = if ki t' hh ≤ (teH ki t' (teT ki H t') hh).1 then teH ki t' (teT ki H t') hh else (ki t' hh, 10 * nI t' + nI hh) := rfl
                rw [ek] at go ⊢
                rw [es] at go
                rw [nI_1]
                refine ⟨fun z => ?_, fun z => ?_⟩
                · rw [if_pos z] at go; exact go
                · rw [if_neg z] at go; exact go
            exact inner H 0 I3 _ _ (by omega) hX (fun _ => rfl)
        have hX0 := mX_rf hR2
        rw [eu] at hX0
        exact mkey N 0 I2 none none none (by omega) hX0
      refine u_X11_test_41 hB hx ⟨fun _ => ⟨fun z => mod _ ?_, fun z => mod _ ?_⟩, fun q => absurd (by rw [hR2.st.1.2.2.1]; exact nI_le (by omega) (by omega)) q⟩
      · rw [if_neg z, htN]
      · rw [if_pos z, htN]
    | succ d ih =>
      intro t I2 L2 u7 u8 e hR2 f2
      refine u_X11_test_41 hB hx ⟨fun q => absurd q (by rw [hR2.st.1.2.2.1]; exact nI_ge (by omega) (by omega)), fun _ => ?_⟩
      have inner : ∀ d2 hh (I2 : sm_MI) (L2 : sm_ML) (u8 : Option Value), hh + d2 = H → RR A W H S N R ν lb b T I2 L2 → Fr PQ I I2 → sm_V x 0 0 T I2 L2 56 [some (.ref 0), some (.int (nI w)), some (.int (nI k)), some (.int what), some (.int (teH ki t (teT ki H t) hh).1), some (.int (teH ki t (teT ki H t) hh).2), some (.int (nI t)), some (.int (nI hh)), u8] [] := by
        intro d2
        induction d2 with
        | zero =>
          intro hh I2 L2 u8 e2 hR2 f2
          have hhH : hh = H := by omega
          refine u_X11_test_56 hB hx ⟨fun _ => ?_, fun q => absurd (by rw [hR2.st.1.1]; exact nI_le (by omega) (by omega)) q⟩
          have go := ih (t + 1) I2 L2 (some (.int (nI hh))) u8 (by omega) hR2 f2
          have et : teT ki H (t + 1) = teH ki t (teT ki H t) hh := by rw [hhH]; rfl
          rw [et] at go
          rw [nI_1]
          exact go
        | succ d2 ih2 =>
          intro hh I2 L2 u8 e2 hR2 f2
          refine u_X11_test_56 hB hx ⟨fun q => absurd q (by rw [hR2.st.1.1]; exact nI_ge (by omega) (by omega)), fun _ => s_kinds (n := n + 10) hR2 h0 hw (by omega) (by omega) (by omega) (fun I3 L3 hR3 f3 => ?_)⟩
          rw [f2 35 0 rfl]
          have go := ih2 (hh + 1) I3 L3 (some (.int (qBC (kb A W H S N ν lb w k t (upd (cU N (I 35 0)) t (nI hh)) H)))) (by omega) hR3 (f2.tr f3)
          have ek : qBC (kb A W H S N ν lb w k t (upd (cU N (I 35 0)) t (nI hh)) H) = ki t hh := by rw [hki]
          have es : teH ki t (teT ki H t) (hh + 1) = if ki t hh ≤ (teH ki t (teT ki H t) hh).1 then teH ki t (teT ki H t) hh else (ki t hh, 10 * nI t + nI hh) := rfl
          rw [ek] at go ⊢
          rw [es] at go
          rw [nI_1]
          refine ⟨fun z => ?_, fun z => ?_⟩
          · rw [if_pos z] at go; exact go
          · rw [if_neg z] at go; exact go
      exact inner H 0 I2 L2 u8 (by omega) hR2 f2
  exact key _ rfl N 0 I L none none (by omega) hR Fr.rf
end
