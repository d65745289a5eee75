/-! ===== the model with steps of its own ===== -/
def qX (k j : Nat) : Bool := qMQ k j || Nat.beq k 93
theorem MQ_X (k j : Nat) (h : qX k j = false) : qMQ k j = false := by
  unfold qX at h
  exact (Bool.or_eq_false_iff.mp h).1
def mX (N ν : Nat) (f u : Nat → Int32) (I I1 : sm_MI) : Prop := Fr qX I I1 ∧ mU N (I1 92) = u ∧ I1 76 34 = nI ν ∧ (∀ w, w < 5 → I1 93 w = f w) ∧ ∀ w, 5 ≤ w → I1 93 w = I 93 w
def alB (I : sm_MI) (i : Nat) (u : Nat → Int32) : Nat → Bool
  | 0 => true
  | k + 1 => alB I i u k && (decide (¬ I 48 k = nI i) || (decide (u (I 46 k).toNatClampNeg = I 50 k) == decide (I 52 k = 1)))
def agB (A : Nat → Nat → Int32) (W : Nat → (Nat → Int32) → Int32) (H S N ν lb : Nat) (f : Nat → Int32) (I : sm_MI) (sc : Nat) (u : Nat → Int32) : Nat → Bool
  | 0 => true
  | i + 1 => agB A W H S N ν lb f I sc u i && alB I (i + 1) (nU A W H S N ν (nI lb) (-1) f (i + 1) u) sc
section
variable {n : Nat} {T : List sm_Sh} {I I' I1 : sm_MI} {L L' : sm_ML} {A : Nat → Nat → Int32} {H S N R ν lb b ν' lb' b' : Nat} {W : Nat → (Nat → Int32) → Int32} {f u : Nat → Int32}
theorem agB_no {sc : Nat} {i : Nat} (h : agB A W H S N ν lb f I sc u i = false) : ∀ d, agB A W H S N ν lb f I sc u (i + d) = false
  | 0 => h
  | d + 1 => by
    show (agB A W H S N ν lb f I sc u (i + d) && _) = false
    rw [agB_no h d, Bool.false_and]
theorem qX_76 {j : Nat} (h : j ≠ 34) (h' : j ≠ 44) : qX 76 j = false := by
  rw [Bool.eq_false_iff]
  intro q
  simp only [qX, qMQ, Bool.or_eq_true, Bool.and_eq_true, Nat.beq_eq, Nat.ble_eq] at q
  omega
theorem qX_code {k j : Nat} (h1 : 78 ≤ k) (h2 : k ≤ 84) : qX k j = false := by
  rw [Bool.eq_false_iff]
  intro q
  simp only [qX, qMQ, Bool.or_eq_true, Bool.and_eq_true, Nat.beq_eq, Nat.ble_eq] at q
  omega
theorem mX_D (hR : RR A W H S N R ν lb b T I L) (h : mX N ν f u I I1) : mD (mkE A (nI lb) (-1) 0 (-1) 0 f) H S N I1 I1 := by
  obtain ⟨h1, h2, h3, h4, h5⟩ := h
  have v3 := hR.va.2.2.1
  have := mD_of (gh := -1) (gs := 0) (rk := 0) (f := f) hR (fun j g1 g2 => h1 76 j (qX_76 (by omega) (by omega))) ((h1 76 33 rfl).trans hR.now.2.2.2.2.1) ((h1 76 39 rfl).trans hR.rest.2.2.1) (h1.at 89 (fun _ => rfl)) (h1.at 91 (fun _ => rfl)) (fun w hw => h4 w (by omega)) (fun k g1 g2 => h1.at k (fun j => qX_code g1 g2))
  exact ⟨this.1, fun _ _ _ => rfl⟩
theorem mX_ml (hR : RR A W H S N R ν lb b T I L) (h : mX N ν f u I I1) : mRL T W R I1 := mRL_up hR.ml (fun k g1 g2 => h.1.at k (fun j => qX_code g1 g2))
theorem mX_rf (hR : RR A W H S N R ν lb b T I L) : mX N ν (fun _ => -1) (mU N (I 92)) I I := ⟨Fr.rf, rfl, hR.n34, hR.rest.2.2.2, fun _ _ => rfl⟩
theorem mX_RR (hR : RR A W H S N R ν lb b T I L) (h : mX N ν (fun _ => -1) (mU N (I 92)) I I1) : RR A W H S N R ν lb b T I1 L := by
  obtain ⟨h1, h2, h3, h4, h5⟩ := h
  have hf : Fr qM I I1 := by
    intro k j q
    by_cases e : k = 93
    · subst e
      rcases Nat.lt_or_ge j 5 with g | g
      · rw [h4 j g, hR.rest.2.2.2 j g]
      · exact h5 j g
    · refine h1 k j ?_
      unfold qX
      rw [MQ_qM k j q, Bool.false_or, Bool.eq_false_iff]
      intro g
      exact e (q_beq g)
  exact RR_q hR hf rfl h2 (h3.trans hR.n34.symm) (Cok_fr hR.c (h1.at 65 (fun _ => rfl)) (h1.at 67 (fun _ => rfl))) (fun k g1 g2 => h1.at k (fun j => qX_code g1 g2))
theorem mX_set {w : Nat} {v : Int32} (h : mX N ν f u I I1) (hw : w < 5) : mX N ν (upd f w v) u I (sm_uI I1 93 w v) := by
  obtain ⟨h1, h2, h3, h4, h5⟩ := h
  refine ⟨h1.u rfl, by rw [sm_uI_ne (by decide)]; exact h2, h3, fun j hj => ?_, fun j hj => ?_⟩
  · rw [sm_uI_at]
    by_cases e : j = w
    · subst e; rw [pk_us, pk_us]
    · rw [pk_un e, pk_un e]; exact h4 j hj
  · rw [sm_uI_at, pk_un (by omega)]; exact h5 j hj
/-- taken back: as it was before putAside -/
theorem s_mX_back {F : sm_MI → sm_ML → Prop} {I2 : sm_MI} (hB : sm_Bs T) (h8 : N ≤ 8) (h : mX N ν f u I I1) (ha : mAs I1 I2) (hF : ∀ I', mX N ν f u I I' → F I' L) : sm_CV n mX12_takeBack T I2 L [.ref 76] F := by
  obtain ⟨h1, h2, h3, h4, h5⟩ := h
  have hf : Fr qMQ I1 (sm_uI (sm_fill I2 92 8 (I2 97)) 76 34 (I2 76 44)) := (ha.1.f (fun _ => rfl)).u rfl
  refine s_m_takeBack hB (hF _ ⟨h1.tr (hf.mono MQ_X), ?_, ?_, fun w hw => ?_, fun w hw => ?_⟩)
  · rw [← h2]
    funext t
    unfold mU
    by_cases ht : t < N
    · rw [if_pos ht, if_pos ht, sm_uI_ne (by decide)]
      have : t < 8 := by omega
      simp only [sm_fill, if_true, this]
      exact ha.2.1 t this
    · rw [if_neg ht, if_neg ht]
  · rw [sm_uI_at, pk_us, ha.2.2, h3]
  · rw [hf.at 93 (fun _ => rfl)]; exact h4 w hw
  · rw [hf.at 93 (fun _ => rfl)]; exact h5 w hw
theorem agB_late {sc lt : Nat} (hge : ∀ k, k < sc → ∃ m, m ≤ lt ∧ I 48 k = nI m) (hlt : lt ≤ 30) : ∀ d, lt + d ≤ 30 → agB A W H S N ν lb f I sc u (lt + d) = agB A W H S N ν lb f I sc u lt
  | 0, _ => rfl
  | d + 1, hd => by
    show (agB A W H S N ν lb f I sc u (lt + d) && alB I (lt + d + 1) _ sc) = _
    have hal : ∀ (u' : Nat → Int32) k, k ≤ sc → alB I (lt + d + 1) u' k = true := by
      intro u' k
      induction k with
      | zero => intro _; rfl
      | succ k ih =>
        intro hk
        obtain ⟨m, hm, e⟩ := hge k (by omega)
        show (alB I (lt + d + 1) u' k && _) = true
        rw [ih (by omega), e, decide_eq_true (show ¬ nI m = nI (lt + d + 1) by rw [nI_eq (by omega) (by omega)]; omega)]
        rfl
    rw [hal _ sc (Nat.le_refl _), Bool.and_true]
    exact agB_late hge hlt d (by omega)
theorem s_m_agrees {F : Bool → sm_MI → sm_ML → Prop} {sc : Nat} (hR : RR A W H S N R ν lb b T I L) (h0 : 0 < H) (hsc : I 76 51 = nI sc) (hs20 : sc ≤ 20)
    (hen : ∀ k, k < sc → (∃ t, t < N ∧ I 46 k = nI t ∧ I 100 k = nI t) ∧ (∃ m, 1 ≤ m ∧ m ≤ 30 ∧ I 48 k = nI m ∧ I 101 k = nI m) ∧ (∃ h, h < H ∧ I 50 k = nI h ∧ I 102 k = nI h) ∧ (∃ q : Bool, I 52 k = sm_z q ∧ I 103 k = sm_z q))
    (hX : mX N ν f u I I1) (h : ∀ I', mX N ν f u I I' → F (agB A W H S N ν lb f I sc u 30) I' L) : sm_CZ (n + 9) mX12_agrees T I1 L [.ref 76] F := by
  have hB := hR.hB
  have v4 := hR.va.2.2.2.1
  have hX1 := hX.1
  refine c_X12_agrees hB (fun x hx => s_m_aside2 hB (fun I3 ha h92 h34 hrest => ?_))
  have fin : ∀ (I2 : sm_MI) (c : Bool), mAs I1 I2 → c = agB A W H S N ν lb f I sc u 30 → sm_CV (n + 8) mX12_takeBack T I2 L [.ref 76] (fun I1 L1 => F c I1 L1) := by
    intro I2 c ha2 hc
    refine s_mX_back hB v4 hX ha2 (fun I' h' => ?_)
    rw [hc]
    exact h I' h'
  have key : ∀ d i (I2 : sm_MI) (u3 : Option Value), i + d = 30 → mAs I1 I2 → mD (mkE A (nI lb) (-1) 0 (-1) 0 f) H S N I1 I2 → I2 76 34 = nI (ν + i) → mU N (I2 92) = (ngs (mkE A (nI lb) (-1) 0 (-1) 0 f) W H S N ν i (zz u)).1 → sm_V x 0 0 T I2 L 8 [some (.ref 76), some (.int (sm_z (agB A W H S N ν lb f I sc u i))), some (.int (nI (i + 1))), u3] [] := by
    intro d
    induction d with
    | zero =>
      intro i I2 u3 e ha2 hD2 hn2 hu2
      have hi : i = 30 := by omega
      subst hi
      exact u_X12_agrees_8 hB hx ⟨fun _ => fin I2 _ ha2 rfl, fun q => absurd (nI_lt (a := 30) (b := 30 + 1) (by omega) (by omega)) q⟩
    | succ d ih =>
      intro i I2 u3 e ha2 hD2 hn2 hu2
      refine u_X12_agrees_8 hB hx ⟨fun q => absurd q (nI_nlt (a := 30) (b := i + 1) (by omega) (by omega)), fun _ => ⟨fun q => fin I2 _ ha2 ?_, fun q => m_step (n := n + 1) (E := mkE A (nI lb) (-1) 0 (-1) 0 f) (z := zz u) hB (mX_ml hR hX) (vE_mk hR.va h0) hR.now.2.1 rfl rfl rfl ha2 hD2 hn2 hu2 (fun I4 ha4 hD4 hn4 hu4 => ?_)⟩⟩
      · rw [q]
        have := agB_no (A := A) (W := W) q (30 - i)
        rw [show i + (30 - i) = 30 by omega] at this
        exact this.symm
      · rw [q]
        have e51 : I4 76 51 = nI sc := ((ha4.1 76 51 rfl).trans (hX1 76 51 rfl)).trans hsc
        have e100 : I4 100 = I 100 := (ha4.1.at 100 (fun _ => rfl)).trans (hX1.at 100 (fun _ => rfl))
        have e101 : I4 101 = I 101 := (ha4.1.at 101 (fun _ => rfl)).trans (hX1.at 101 (fun _ => rfl))
        have e102 : I4 102 = I 102 := (ha4.1.at 102 (fun _ => rfl)).trans (hX1.at 102 (fun _ => rfl))
        have e103 : I4 103 = I 103 := (ha4.1.at 103 (fun _ => rfl)).trans (hX1.at 103 (fun _ => rfl))
        have hag : ∀ c, c = alB I (i + 1) (nU A W H S N ν (nI lb) (-1) f (i + 1) u) sc → c = agB A W H S N ν lb f I sc u (i + 1) := by
          intro c hc
          show c = (agB A W H S N ν lb f I sc u i && _)
          rw [q, Bool.true_and]
          exact hc
        have inner : ∀ d' k, k + d' = sc → sm_V x 0 0 T I4 L 24 [some (.ref 76), some (.int (sm_z (alB I (i + 1) (nU A W H S N ν (nI lb) (-1) f (i + 1) u) k))), some (.int (nI (i + 1))), some (.int (nI k))] [] := by
          intro d'
          induction d' with
          | zero =>
            intro k e'
            have hk : k = sc := by omega
            subst hk
            refine u_X12_agrees_24 hB hx ⟨fun _ => ?_, fun q' => absurd (by rw [e51]; exact nI_le (by omega) (by omega)) q'⟩
            rw [nI_1, hag _ rfl]
            exact ih (i + 1) I4 _ (by omega) ha4 hD4 hn4 hu4
          | succ d' ih' =>
            intro k e'
            obtain ⟨⟨t, ht, y1, y2⟩, ⟨m, hm1, hm2, y3, y4⟩, ⟨hh, hhh, y5, y6⟩, ⟨qq, y7, y8⟩⟩ := hen k (by omega)
            have go := ih' (k + 1) (by omega)
            have hal : alB I (i + 1) (nU A W H S N ν (nI lb) (-1) f (i + 1) u) (k + 1) = (alB I (i + 1) (nU A W H S N ν (nI lb) (-1) f (i + 1) u) k && (decide (¬ I 48 k = nI (i + 1)) || (decide (nU A W H S N ν (nI lb) (-1) f (i + 1) u (I 46 k).toNatClampNeg = I 50 k) == decide (I 52 k = 1)))) := rfl
            rw [hal, y1, nI_clamp (by omega)] at go
            refine u_X12_agrees_24 hB hx ⟨fun q' => absurd q' (by rw [e51]; exact nI_ge (by omega) (by omega)), fun _ => ⟨fun qb => ?_, fun qb => ⟨vp_in_nI (by omega) (by decide), ?_⟩⟩⟩
            · rw [qb, Bool.false_and] at go
              rw [nI_1]
              exact go
            · rw [qb, Bool.true_and] at go
              rw [nI_clamp (by omega), e100, e101, e102, e103, y4, y2, nI_clamp (by omega), nI_1, ← mU_at (N := N) (I4 92) ht, hu4, ← y3, y8]
              have hu5 : (ngs (mkE A (nI lb) (-1) 0 (-1) 0 f) W H S N ν (i + 1) (zz u)).1 t = nU A W H S N ν (nI lb) (-1) f (i + 1) u t := rfl
              rw [hu5, y6, ← y5]
              rw [y7] at go
              refine ⟨fun z => ?_, fun z => ⟨vp_in_nI (by omega) (by decide), vp_in_nI (by omega) (by decide), vp_in_nI (by omega) (by decide), fun w => ⟨vp_in_nI (by omega) (by decide), ?_⟩, fun w => ⟨vp_in_nI (by omega) (by decide), ?_⟩⟩⟩
              · rw [decide_eq_true z, Bool.true_or] at go; exact go
              · rw [decide_eq_false (fun g => g z), Bool.false_or, decide_eq_false w] at go
                cases qq
                · exact ⟨fun g => absurd rfl g, fun _ => go⟩
                · exact ⟨fun _ => go, fun g => absurd g (by decide)⟩
              · rw [decide_eq_false (fun g => g z), Bool.false_or, decide_eq_true w] at go
                cases qq
                · exact ⟨fun _ => go, fun g => absurd g (by decide)⟩
                · exact ⟨fun g => absurd rfl g, fun _ => go⟩
        exact inner sc 0 (by omega)
  exact key 30 0 I3 none (by omega) ha (mD_frQ (mX_D hR hX) ha.1) (h34.trans hX.2.2.1) (by rw [h92]; exact hX.2.1)
end
