section
variable {n : Nat} {T : List sm_Sh} {I I' I1 : sm_MI} {L L' : sm_ML} {A : Nat → Nat → Int32} {H S N R ν lb b ν' lb' b' : Nat} {W : Nat → (Nat → Int32) → Int32} {f u : Nat → Int32}
def psum (c : Nat → Nat) : Nat → Nat
  | 0 => 0
  | s + 1 => psum c s + c s
theorem upd_id {f : Nat → Int32} {w : Nat} {x : Int32} (h : f w = x) : upd f w x = f := by
  funext j
  by_cases e : j = w
  · subst e; rw [pk_us, h]
  · rw [pk_un e]
theorem p_pairs {G : Int32 → Int32 → sm_MI → sm_ML → Prop} {a c : Int32} (hR : RR A W H S N R ν lb b T I L) (h : ∀ v I' L', RR A W H S N R ν lb b T I' L' → G v v I' L') :
    sm_CI (n + 20) mX11_pairs T I L [.ref 0, .int a, .int c] (fun r1 I1 L1 => sm_CI (n + 20) mX12_pairs T I1 L1 [.ref 76, .int a, .int c] (fun r2 I2 L2 => G r1 r2 I2 L2)) := by
  have hB := hR.hB
  obtain ⟨⟨a1, a2, a3, a4, a5⟩, _, ⟨c1, c2, c3, c4, c5⟩, _, _⟩ := hR.st
  have v1 := hR.va.2.1
  have v3 := hR.va.2.2.1
  obtain ⟨sc, lt, s1, s2, s3, s4, s5, s6⟩ := hR.ge
  have hen : gEs H N sc lt I := s6
  have bad : (qW a 0 (nI S - 1) = false ∨ qW c 0 (nI S - 1) = false ∨ a = c) → sm_CI (n + 20) mX12_pairs T I L [.ref 76, .int a, .int c] (fun r2 I2 L2 => G (-1) r2 I2 L2) := by
    intro w
    refine c_X12_pairs hB (fun x hx => s_m_isSleeper hB ?_)
    rw [c2]
    refine ⟨fun _ => h _ _ _ hR, fun q1 => s_m_isSleeper hB ?_⟩
    rw [c2]
    refine ⟨fun _ => h _ _ _ hR, fun q2 => ⟨fun q3 => ?_, fun _ => h _ _ _ hR⟩⟩
    rcases w with w | w | w
    · rw [q1] at w; exact absurd w (by decide)
    · rw [q2] at w; exact absurd w (by decide)
    · exact absurd w q3
  refine c_X11_pairs hB (fun x hx => s_hasSleeper hB ?_)
  rw [a2]
  refine ⟨fun q => bad (Or.inl q), fun q1 => s_hasSleeper hB ?_⟩
  rw [a2]
  refine ⟨fun q => bad (Or.inr (Or.inl q)), fun q2 => ⟨fun q3 => ?_, fun q => bad (Or.inr (Or.inr q))⟩⟩
  obtain ⟨p, hp, rfl⟩ := qW_nat (by omega) q1
  obtain ⟨o, ho, rfl⟩ := qW_nat (by omega) q2
  have hpo : o ≠ p := fun e => q3 (by rw [e])
  have h0 := gV_S hR.va hp
  -- what fits: step s of p, step j of o
  have key : ∀ (fi : Nat → Nat → Bool), fi = (fun s j => fiS A W H S N ν lb (upd (fun _ => -1) p (nI s)) I sc lt (cU N (I 35 0)) o j) → ∀ (I2 : sm_MI) (L2 : sm_ML) (u5 : Option Value), RR A W H S N R ν lb b T I2 L2 → Fr PQ I I2 → ∀ d s, s + d = H → ∀ (I2 : sm_MI) (L2 : sm_ML) (u5 : Option Value), RR A W H S N R ν lb b T I2 L2 → Fr PQ I I2 → sm_V x 0 0 T I2 L2 34 [some (.ref 0), some (.int (nI p)), some (.int (nI o)), some (.int (nI (psum (fun s => cntOf (fi s) H) s))), some (.int (nI s)), u5] [] := by
    intro fi hfi _ _ _ _ _ d
    induction d with
    | zero =>
      intro s e I2 L2 u5 hR2 f2
      refine u_X11_pairs_34 hB hx ⟨fun _ => ?_, fun q => absurd (by rw [hR2.st.1.1]; exact nI_le (by omega) (by omega)) q⟩
      have hsH : s = H := by omega
      -- the model's
      refine c_X12_pairs hB (fun x hx => s_m_isSleeper hB ?_)
      rw [hR2.st.2.2.1.2.1, q1]
      refine ⟨fun y => absurd y (by decide), fun _ => s_m_isSleeper hB ?_⟩
      rw [hR2.st.2.2.1.2.1, q2]
      refine ⟨fun y => absurd y (by decide), fun _ => ⟨fun _ => ?_, fun y => absurd y q3⟩⟩
      have mkey : ∀ d' s' (I3 : sm_MI) (v : Int32), s' + d' = H → mX N ν (upd (fun _ => -1) p v) (mU N (I2 92)) I2 I3 → sm_V x 0 0 T I3 L2 28 [some (.ref 76), some (.int (nI p)), some (.int (nI o)), some (.int (nI (psum (fun s => cntOf (fi s) H) s'))), some (.int (nI s'))] [] := by
        intro d'
        induction d' with
        | zero =>
          intro s' I3 v e' hX
          have : s' = s := by omega
          subst this
          have e26 : I3 76 26 = nI H := (hX.1 76 26 rfl).trans hR2.st.2.2.1.1
          refine u_X12_pairs_28 hB hx ⟨fun _ => ⟨vp_in_nI (by omega) (by decide), ?_⟩, fun q => absurd (by rw [e26]; exact nI_le (by omega) (by omega)) q⟩
          rw [nI_clamp (by omega)]
          have hX5 := mX_set (v := -1) hX (show p < 5 by omega)
          rw [upd_2, upd_m1] at hX5
          exact h _ _ _ (mX_RR hR2 hX5)
        | succ d' ih' =>
          intro s' I3 v e' hX
          have e26 : I3 76 26 = nI H := (hX.1 76 26 rfl).trans hR2.st.2.2.1.1
          refine u_X12_pairs_28 hB hx ⟨fun q => absurd q (by rw [e26]; exact nI_ge (by omega) (by omega)), fun _ => ⟨vp_in_nI (by omega) (by decide), ?_⟩⟩
          rw [nI_clamp (by omega)]
          have hX4 := mX_set (v := nI s') hX (show p < 5 by omega)
          rw [upd_2] at hX4
          refine s_m_fitsOf (n := n + 9) hR2 h0 ((f2 76 51 rfl).trans s4) s1 (gEs_30 (gEs_fr hen f2) s2) hX4 ho (fun I4 hX5 => s_BC ?_)
          rw [upd_id (w := o) (x := -1) (by rw [pk_un hpo])] at hX5
          have go := ih' (s' + 1) I4 (nI s') (by omega) hX5
          rw [fiS_30 (gEs_fr hen f2) s2, fiS_fr f2, ← hR2.u, f2 35 0 rfl, qBC_bits _ H v1, nI_1, nI_add]
          have hps : psum (fun s => cntOf (fi s) H) (s' + 1) = psum (fun s => cntOf (fi s) H) s' + cntOf (fi s') H := rfl
          rw [hps] at go
          have hf2 : fi s' = fiS A W H S N ν lb (upd (fun _ => -1) p (nI s')) I sc lt (cU N (I 35 0)) o := by rw [hfi]
          rw [hf2] at go
          exact go
      have hX0 := mX_rf hR2
      rw [← upd_m1 (w := p)] at hX0
      have hm := mkey H 0 I2 (-1) (by omega) hX0
      exact hm
    | succ d ih =>
      intro s e I2 L2 u5 hR2 f2
      refine u_X11_pairs_34 hB hx ⟨fun q => absurd q (by rw [hR2.st.1.1]; exact nI_ge (by omega) (by omega)), fun _ => ?_⟩
      have inner : ∀ d' j (I2 : sm_MI) (L2 : sm_ML), j + d' = H → RR A W H S N R ν lb b T I2 L2 → Fr PQ I I2 → sm_V x 0 0 T I2 L2 49 [some (.ref 0), some (.int (nI p)), some (.int (nI o)), some (.int (nI (psum (fun s => cntOf (fi s) H) s + cntOf (fi s) j))), some (.int (nI s)), some (.int (nI j))] [] := by
        intro d'
        induction d' with
        | zero =>
          intro j I2 L2 e' hR2 f2
          have hj : j = H := by omega
          refine u_X11_pairs_49 hB hx ⟨fun _ => ?_, fun q => absurd (by rw [hR2.st.1.1]; exact nI_le (by omega) (by omega)) q⟩
          rw [nI_1, hj]
          exact ih (s + 1) (by omega) I2 L2 _ hR2 f2
        | succ d' ih' =>
          intro j I2 L2 e' hR2 f2
          refine u_X11_pairs_49 hB hx ⟨fun q => absurd q (by rw [hR2.st.1.1]; exact nI_ge (by omega) (by omega)), fun _ => s_begin_R (n := n + 18) hR2 (fun I3 z g f3 e65 e67 e12 hD hz z1 zc zd => s_set (t_54 hB) (t_55 hB) (by omega) (by decide) (s_set (t_54 hB) (t_55 hB) (by omega) (by decide) ?_))⟩
          have f4 : Fr PQ I2 (sm_uI (sm_uI I3 55 p (nI s)) 55 o (nI j)) := (f3.u rfl).u rfl
          have x55 : (sm_uI (sm_uI I3 55 p (nI s)) 55 o (nI j)) 55 = upd (upd (I3 55) p (nI s)) o (nI j) := by rw [sm_uI_at, sm_uI_at]
          have hD4 : cD (mkE A (nI lb) (-1) 0 (-1) g (upd (upd (fun _ => -1) p (nI s)) o (nI j))) W H S N R I2 ν (sm_uI (sm_uI I3 55 p (nI s)) 55 o (nI j)) := cD_of hR2 f4 hD.2.1 hD.1.2.2.1 hD.1.2.2.2.2.1 hD.1.2.2.2.1 hD.1.2.2.2.2.2.1 hD.1.2.2.2.2.2.2 (fun k hk => by
            rw [x55]
            by_cases e : k = o
            · subst e; rw [pk_us, pk_us]
            · rw [pk_un e, pk_un e]
              by_cases e2 : k = p
              · subst e2; rw [pk_us, pk_us]
              · rw [pk_un e2, pk_un e2]; exact ((hD.1.2.1) k hk).2.2.2.2.2) (by rw [sm_uI_ne (by decide), sm_uI_ne (by decide)]; exact e65) (by rw [sm_uI_ne (by decide), sm_uI_ne (by decide)]; exact e67)
          have hz4 : cZ N (sm_uI (sm_uI I3 55 p (nI s)) 55 o (nI j)) (sm_uL L2 53 3 z.2.2.1) z := ⟨hz.1, hz.2.1, hz.2.2.1, by rw [sm_uI_ne (by decide), sm_uI_ne (by decide)]; exact hz.2.2.2.1, by rw [sm_uI_ne (by decide), sm_uI_ne (by decide)]; exact hz.2.2.2.2⟩
          refine s_asSeen (n := n + 11) hR2 h0 ((f2 44 4 rfl).trans s3) s1 s2 ((f2 44 5 rfl).trans s5) (gEs_fr hen f2) f4 hD4 hz4 z1 (fun I5 v hR5 f5 => ?_)
          rw [agB_fr f2, f2 35 0 rfl]
          have hfj : fi s j = agB A W H S N ν lb (upd (upd (fun _ => -1) p (nI s)) o (nI j)) I sc (cU N (I 35 0)) lt := by rw [hfi]; rfl
          rw [← hfj, nI_1]
          have go := ih' (j + 1) I5 _ (by omega) hR5 (f2.tr f5)
          refine ⟨fun q => ?_, fun q => ?_⟩
          · have : cntOf (fi s) (j + 1) = cntOf (fi s) j := by rw [cntOf, q]; rfl
            rw [this] at go
            exact go
          · have : cntOf (fi s) (j + 1) = cntOf (fi s) j + 1 := by rw [cntOf, q]; rfl
            rw [this] at go
            rw [nI_1]
            exact go
      exact inner H 0 I2 L2 (by omega) hR2 f2
  exact key _ rfl I L none hR Fr.rf H 0 (by omega) I L none hR Fr.rf
end
