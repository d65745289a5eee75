/-- the model with locks of its own -/
def qY (k j : Nat) : Bool := qMQ k j || (Nat.beq k 76 && Nat.beq j 33)
def mY (N ν l : Nat) (I I1 : sm_MI) : Prop := Fr qY I I1 ∧ mU N (I1 92) = mU N (I 92) ∧ I1 76 34 = nI ν ∧ I1 76 33 = nI l
section
variable {n : Nat} {T : List sm_Sh} {I I' I1 : sm_MI} {L L' : sm_ML} {A : Nat → Nat → Int32} {H S N R ν lb b ν' lb' b' : Nat} {W : Nat → (Nat → Int32) → Int32} {f u : Nat → Int32}
theorem qY_code {k j : Nat} (h1 : 78 ≤ k) (h2 : k ≤ 84) : qY k j = false := by
  rw [Bool.eq_false_iff]
  intro q
  simp only [qY, qMQ, Bool.or_eq_true, Bool.and_eq_true, Nat.beq_eq, Nat.ble_eq] at q
  omega
theorem qY_76 {j : Nat} (h : j ≠ 34) (h' : j ≠ 44) (h3 : j ≠ 33) : qY 76 j = false := by
  rw [Bool.eq_false_iff]
  intro q
  simp only [qY, qMQ, Bool.or_eq_true, Bool.and_eq_true, Nat.beq_eq, Nat.ble_eq] at q
  omega
theorem MQ_Y (k j : Nat) (h : qY k j = false) : qMQ k j = false := (Bool.or_eq_false_iff.mp h).1
theorem mY_D {l : Nat} (hR : RR A W H S N R ν lb b T I L) (h : mY N ν l I I1) : mD (mkE A (nI l) (-1) 0 (-1) 0 (fun _ => -1)) H S N I1 I1 := by
  obtain ⟨h1, h2, h3, h4⟩ := h
  have v3 := hR.va.2.2.1
  have := mD_of (gh := -1) (gs := 0) (rk := 0) (f := fun _ => -1) hR (fun j g1 g2 => h1 76 j (qY_76 (by omega) (by omega) (by omega))) h4 ((h1 76 39 rfl).trans hR.rest.2.2.1) (h1.at 89 (fun _ => rfl)) (h1.at 91 (fun _ => rfl)) (fun w hw => by rw [h1.at 93 (fun _ => rfl)]; exact hR.rest.2.2.2 w (by omega)) (fun k g1 g2 => h1.at k (fun j => qY_code g1 g2))
  exact ⟨this.1, fun _ _ _ => rfl⟩
theorem mY_ml {l : Nat} (hR : RR A W H S N R ν lb b T I L) (h : mY N ν l I I1) : mRL T W R I1 := mRL_up hR.ml (fun k g1 g2 => h.1.at k (fun j => qY_code g1 g2))
theorem s_m_stays {F : Bool → sm_MI → sm_ML → Prop} {l t k : Nat} (hR : RR A W H S N R ν lb b T I L) (h0 : 0 < H) (hl : l < 256) (ht : t < N) (hk : k < 2 ^ 30) (hY : mY N ν l I I1)
    (h : ∀ I', mY N ν l I I' → F (stB A W H S N ν l t (mU N (I 92)) k) I' L) : sm_CZ (n + 9) mX12_stays T I1 L [.ref 76, .int (nI t), .int (nI k)] F := by
  have hB := hR.hB
  have v4 := hR.va.2.2.2.1
  refine c_X12_stays hB (fun x hx => s_m_aside hB (fun I3 ha h92 h34 => ?_))
  have key : ∀ d i (I2 : sm_MI), i + d = k → mAs I1 I2 → mD (mkE A (nI l) (-1) 0 (-1) 0 (fun _ => -1)) H S N I1 I2 → I2 76 34 = nI (ν + i) → mU N (I2 92) = (ngs (mkE A (nI l) (-1) 0 (-1) 0 (fun _ => -1)) W H S N ν i (zz (mU N (I 92)))).1 → sm_V x 0 0 T I2 L 9 [some (.ref 76), some (.int (nI t)), some (.int (nI k)), some (.int (sm_z (stB A W H S N ν l t (mU N (I 92)) i))), some (.int (nI i))] [] := by
    intro d
    induction d with
    | zero =>
      intro i I2 e ha2 hD2 hn2 hu2
      have : i = k := by omega
      subst this
      refine u_X12_stays_9 hB hx ⟨fun _ => ?_, fun q => absurd (nI_le (Nat.le_refl _) (by omega)) q⟩
      obtain ⟨h1, h2, h3, h4⟩ := hY
      have hf : Fr qMQ I1 (sm_uI (sm_fill I2 92 8 (I2 97)) 76 34 (I2 76 44)) := (ha2.1.f (fun _ => rfl)).u rfl
      refine s_m_takeBack hB (h _ ⟨h1.tr (hf.mono MQ_Y), ?_, ?_, (hf 76 33 rfl).trans h4⟩)
      · rw [← h2]
        funext s
        unfold mU
        by_cases hs : s < N
        · rw [if_pos hs, if_pos hs, sm_uI_ne (by decide)]
          have : s < 8 := by omega
          simp only [sm_fill, if_true, this]
          exact ha2.2.1 s this
        · rw [if_neg hs, if_neg hs]
      · rw [sm_uI_at, pk_us, ha2.2.2, h3]
    | succ d ih =>
      intro i I2 e ha2 hD2 hn2 hu2
      refine u_X12_stays_9 hB hx ⟨fun q => absurd q (nI_ge (by omega) (by omega)), fun _ => m_step (n := n + 1) (E := mkE A (nI l) (-1) 0 (-1) 0 (fun _ => -1)) (z := zz (mU N (I 92))) hB (mY_ml hR hY) (vE_mk hR.va h0) hl rfl rfl rfl ha2 hD2 hn2 hu2 (fun I4 ha4 hD4 hn4 hu4 => ?_)⟩
      have go := ih (i + 1) I4 (by omega) ha4 hD4 hn4 hu4
      have hst : stB A W H S N ν l t (mU N (I 92)) (i + 1) = (stB A W H S N ν l t (mU N (I 92)) i && decide (nU A W H S N ν (nI l) (-1) (fun _ => -1) (i + 1) (mU N (I 92)) t = mU N (I 92) t)) := rfl
      have e97 : I4 97 t = mU N (I 92) t := by rw [ha4.2.1 t (by omega), ← mU_at (N := N) (I1 92) ht, hY.2.1]
      rw [hst] at go
      rw [nI_1]
      refine ⟨fun q => ?_, fun q => ⟨vp_in_nI (by omega) (by decide), vp_in_nI (by omega) (by decide), ?_⟩⟩
      · rw [q, Bool.false_and] at go; exact go
      · rw [q, Bool.true_and] at go
        rw [nI_clamp (by omega), ← mU_at (N := N) (I4 92) ht, hu4, e97]
        refine ⟨fun r => ?_, fun r => ?_⟩
        · rw [decide_eq_false (show ¬ nU A W H S N ν (nI l) (-1) (fun _ => -1) (i + 1) (mU N (I 92)) t = mU N (I 92) t from r)] at go; exact go
        · rw [decide_eq_true (show nU A W H S N ν (nI l) (-1) (fun _ => -1) (i + 1) (mU N (I 92)) t = mU N (I 92) t from r)] at go; exact go
  exact key k 0 I3 (by omega) ha (mD_frQ (mY_D hR hY) ha.1) (h34.trans hY.2.2.1) (by rw [h92]; exact hY.2.1)
end
